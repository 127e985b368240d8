theorem hs_empty (mpl msl : Nat → Int32) : HS mpl (fun i => if i < 2048 then 0 else msl i) 0 := by
  refine ⟨fun s hs => Or.inl (if_pos hs), fun i hi => absurd hi (Nat.not_lt_zero _), Nat.le_of_eq (fb_ct_zero.mpr fun k hk => decide_eq_false (fun z => z (if_pos hk))), by omega⟩
theorem copy_step (f h : Nat → Int32) (k : Nat) : upd (fun i => if i < k then f i else h i) k (f k) = fun i => if i < k + 1 then f i else h i := by
  funext j
  by_cases z : j = k
  · subst z; rw [upd_eq]; exact (if_pos (by omega)).symm
  · rw [upd_ne _ _ z]
    show (if j < k then f j else h j) = if j < k + 1 then f j else h j
    by_cases y : j < k
    · rw [if_pos y, if_pos (by omega)]
    · rw [if_neg y, if_neg (by omega)]
theorem rd_start {nb no : Nat} {W : Nat → Nat} {E : (Nat → Int32) → Nat → Nat → Prop} {g0 : Nat → Int32} {Cl : (Nat → Int32) → Prop} {mpl msh msl mse mpl9 msh9 msl9 mse9 : Nat → Int32} {mp9 : Nat} (h : MtR mpl msh msl mse 0 (nI (cdN g0 nb no 6)) 0 mpl9 msh9 msl9 mse9 mp9) :
    RD nb no W E g0 Cl 0 mpl9 msh9 mse9 mp9 ∧ HS mpl9 msl9 mp9 := by
  rcases h with ⟨i, hi, _⟩ | ⟨_, rfl, rfl, rfl, rfl, hs⟩
  · exact absurd hi (Nat.not_lt_zero _)
  · have z : ∀ i, i < 0 + 1 → i = 0 := fun i hi => by omega
    refine ⟨⟨⟨fun i hi => ?_, fun i k hi hk _ => by omega, fun i hi => ?_⟩, ?_, ?_, fun i u hi e hu => ?_, fun i u g hi hn => ?_, fun i u q v hi hn => ?_⟩, hs⟩
    · rw [z i hi]; exact ⟨0, g0, 0, ⟨fun _ _ => rfl, rfl⟩, upd_eq _ _ _, upd_eq _ _ _, by omega⟩
    · rw [z i hi, upd_eq]; exact Or.inl rfl
    · refine fb_ct_zero.mpr fun i hi => decide_eq_false (fun y => y ?_)
      rw [z i hi, upd_eq]
    · exact ⟨0, 0, by omega, upd_eq _ _ _, upd_eq _ _ _, by omega, Nat.le_refl _⟩
    · rw [z i hi, upd_eq] at e
      have := nI_inj (a := 0) (b := u) e (by omega) (by omega)
      omega
    · rw [z i hi, upd_eq] at hn; exact absurd rfl hn
    · rw [z i hi, upd_eq] at hn; exact absurd rfl hn
theorem nr_get {msh mse : Nat → Int32} {k v : Nat} (h : NrR msh mse k (v + 1)) : v < k ∧ mse v = 0 ∧ ∀ q, q < k → mse q = 0 → msh v ≤ msh q := by
  rcases h with ⟨h1, _⟩ | ⟨i, h1, h2, h3, h4⟩
  · omega
  · obtain rfl : v = i := by omega
    exact ⟨h2, h3, h4⟩
theorem nr_all {msh mse : Nat → Int32} {k v : Nat} (h : NrR msh mse k v) (hv : fI v = -1) (hk : k < 2 ^ 30) : ∀ i, i < k → mse i ≠ 0 := by
  rcases h with ⟨h1, h2⟩ | ⟨i, h1, h2, h3, h4⟩
  · exact h2
  · rw [h1] at hv
    exact absurd hv (nI_m1 (by omega))
def ClM (nb no : Nat) (fr : Nat → Int32) (j : Nat) (Cl : (Nat → Int32) → Prop) : Prop := (∀ g e, (∀ i, i < no → g i = e i) → Cl g → Cl e) ∧ ∀ g, Va nb no g → g j ≠ -1 → (Cl g ↔ shM g fr no (nN (g j)) (-1) = false)
theorem restore_eq {f h a : Nat → Int32} {n : Nat} (q : ∀ i, n ≤ i → a i = f i) : (fun i => if i < n then (fun i => if i < n then f i else h i) i else a i) = f := by
  funext i
  by_cases z : i < n
  · show (if i < n then (if i < n then f i else h i) else a i) = f i
    rw [if_pos z, if_pos z]
  · show (if i < n then (if i < n then f i else h i) else a i) = f i
    rw [if_neg z, q i (by omega)]
