/-! which exception a call throws: 0 for none, else its place among those that the call names -/
abbrev nN (x : Int32) : Nat := x.toNatClampNeg
theorem outR_nat {x a b : Int32} {lo hi : Nat} (h : outR x a b = false) (ha : a.toInt = lo) (hb : b.toInt = hi) : ∃ n, lo ≤ n ∧ n ≤ hi ∧ x = nI n := by
  have h := of_decide_eq_false h
  have h1 : ¬ x < a := fun q => h (Or.inl q)
  have h2 : ¬ b < x := fun q => h (Or.inr q)
  simp only [Int32.lt_iff_toInt_lt] at h1 h2
  obtain ⟨j, hj, e⟩ := nI_of (x := x) (fun q => by simp only [Int32.lt_iff_toInt_lt] at q; rw [ha] at h1; have : (0 : Int32).toInt = 0 := by decide
                                                   omega)
  subst e
  rw [nI_toInt hj] at h1 h2
  exact ⟨j, by omega, by omega, rfl⟩
def abC (nb : Nat) (fr g h : Int32) : Nat := if fr = -1 ∨ inB fr nb = true then (if outR g 1 200 = false ∧ outR h 1 40 = false then (if nb < 6 then 0 else 3) else 2) else 1
def aoC (no : Nat) (f g h r : Int32) : Nat := if outR f 50 400 = false ∧ outR g 1 200 = false ∧ outR h 1 40 = false ∧ outR r 0 9 = false then (if no < 8 then 0 else 2) else 1
def stC (f g h : Int32) : Nat := if outR f 0 600 = false ∧ outR g 0 60 = false ∧ outR h 0 30 = false then 0 else 1
def scC (f g : Int32) : Nat := if outR f 1 200 = false ∧ outR g 0 50 = false then 0 else 1
def hoC (h : Int32) : Nat := if outR h 0 9999 = false then 0 else 1
def boC (no : Nat) (b : Int32) : Nat := if inB b no = true then 0 else 1
def stF (ob : Nat → Int32) (j : Nat) : Int32 := if ob j = -1 then 119 else if ob j = -2 then 97 else 98
def beC (no nb : Nat) (ob : Nat → Int32) (b : Int32) : Nat := if inB b no = true then (if inB (ob (nN b)) nb = true then 0 else 2) else 1
def bnC (nb : Nat) (bb : Nat → Int32) (k : Int32) : Nat := if inB k nb = true then (if bb (nN k) = -1 then 2 else 0) else 1
def psC (t : Nat) (h : Int32) : Nat := if outR h 1 336 = false then (if t + nN h ≤ 9999 then 0 else 1) else 1
/-- the coats behind k hours -/
def pdF (wf wt : Nat → Int32) (nw no t : Nat) (olf : Nat → Int32) : Nat → (Nat → Int32)
  | 0 => olf
  | k + 1 => if badF wf wt nw (nI (t + k)) = true then pdF wf wt nw no t olf k else dry1 (pdF wf wt nw no t olf k) no
