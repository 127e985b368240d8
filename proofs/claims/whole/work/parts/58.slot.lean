theorem slot_le {mpl msl : Nat → Int32} {mp s : Nat} (h : HS mpl msl mp) (hs : s < 2048) (hl : msl s ≤ 0) : msl s = 0 := by
  rcases h.1 s hs with z | ⟨i, hi, z⟩
  · exact z
  · rw [z] at hl
    exact absurd hl (nI_nle (by omega) (by have := h.2.2.2; omega))
theorem slot_pos {mpl msl : Nat → Int32} {mp s : Nat} (h : HS mpl msl mp) (hs : s < 2048) (hl : ¬ msl s ≤ 0) : ∃ i, i < mp ∧ msl s = nI (i + 1) := by
  rcases h.1 s hs with z | z
  · rw [z] at hl; exact absurd (Int32.le_refl _) hl
  · exact z
