/-! the calls that ask for the least weight -/
def lsC (no nb : Nat) (ob : Nat → Int32) (b v : Int32) : Nat := if inB b no = true then (if inB (ob (nN b)) nb = true then (if v = -1 then 3 else 0) else 2) else 1
theorem lsC_1 {no nb : Nat} {ob : Nat → Int32} {b v : Int32} (h : inB b no = false) : lsC no nb ob b v = 1 := by rw [lsC, h, if_neg Bool.false_ne_true]
theorem lsC_2 {no nb : Nat} {ob : Nat → Int32} {b v : Int32} (h8 : no ≤ 8) (h : ∃ j, j < no ∧ b = nI j ∧ inB (ob j) nb = false) : lsC no nb ob b v = 2 := by
  obtain ⟨j, hj, rfl, h⟩ := h
  rw [lsC, if_pos ((inB_iff (by omega)).mpr ⟨j, hj, rfl⟩), show nN (nI j) = j from nI_clamp (by omega), h, if_neg Bool.false_ne_true]
theorem lsC_3 {no nb j : Nat} {ob : Nat → Int32} {v : Int32} (h8 : no ≤ 8) (hj : j < no) (h : inB (ob j) nb = true) : lsC no nb ob (nI j) v = if v = -1 then 3 else 0 := by
  rw [lsC, if_pos ((inB_iff (by omega)).mpr ⟨j, hj, rfl⟩), show nN (nI j) = j from nI_clamp (by omega), if_pos h]
