/-- what is owed, denied -/
theorem owed_false : ¬ (Claimed_1_1 ∧ Claimed_1_2) := p36_false
