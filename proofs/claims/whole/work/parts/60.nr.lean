def NrR (msh mse : Nat → Int32) (k v : Nat) : Prop := (v = 0 ∧ ∀ i, i < k → mse i ≠ 0) ∨ ∃ i, v = i + 1 ∧ i < k ∧ mse i = 0 ∧ ∀ q, q < k → mse q = 0 → msh i ≤ msh q
theorem nr_skip {msh mse : Nat → Int32} {k v : Nat} (h : NrR msh mse k v) (hc : ¬ mse k = 0) : NrR msh mse (k + 1) v := by
  rcases h with ⟨h1, h2⟩ | ⟨i, h1, h2, h3, h4⟩
  · exact Or.inl ⟨h1, all_step h2 hc⟩
  · exact Or.inr ⟨i, h1, by omega, h3, all_step h4 (fun z => absurd z hc)⟩
theorem nr_keep {msh mse : Nat → Int32} {k v : Nat} (h : NrR msh mse k (v + 1)) (hc : msh v ≤ msh k) : NrR msh mse (k + 1) (v + 1) := by
  rcases h with ⟨h1, h2⟩ | ⟨i, h1, h2, h3, h4⟩
  · omega
  · obtain rfl : v = i := by omega
    exact Or.inr ⟨v, rfl, by omega, h3, all_step h4 (fun _ => hc)⟩
theorem nr_first {msh mse : Nat → Int32} {k : Nat} {v : Nat} (h : NrR msh mse k v) (hv : v = 0) (hc : mse k = 0) : NrR msh mse (k + 1) (k + 1) := by
  rcases h with ⟨h1, h2⟩ | ⟨i, h1, h2, h3, h4⟩
  · exact Or.inr ⟨k, rfl, by omega, hc, all_step (fun q hq z => absurd z (h2 q hq)) (fun _ => Int32.le_refl _)⟩
  · omega
theorem nr_new {msh mse : Nat → Int32} {k v : Nat} (h : NrR msh mse k (v + 1)) (hc : mse k = 0) (hl : msh k < msh v) : NrR msh mse (k + 1) (k + 1) := by
  rcases h with ⟨h1, h2⟩ | ⟨i, h1, h2, h3, h4⟩
  · omega
  · obtain rfl : v = i := by omega
    exact Or.inr ⟨k, rfl, by omega, hc, all_step (fun q hq z => Int32.le_trans (Int32.le_of_lt hl) (h4 q hq z)) (fun _ => Int32.le_refl _)⟩
theorem fI_s {v : Nat} (h : ¬ fI v = -1) : ∃ k, v = k + 1 := by
  cases v with
  | zero => exact absurd rfl h
  | succ k => exact ⟨k, rfl⟩
theorem fi_v {v : Nat} (h : fI v = -1) (hv : v < 2 ^ 31 := by omega) : v = 0 := by
  cases v with
  | zero => rfl
  | succ k => exact absurd h (nI_m1 (by omega))
