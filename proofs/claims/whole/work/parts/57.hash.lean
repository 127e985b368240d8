/-! the slots of the reference -/
theorem rm2048 (x : Int32) : -2048 < (x - x / 2048 * 2048).toInt ∧ (x - x / 2048 * 2048).toInt < 2048 := by
  have h1 := Int32.le_toInt x
  have h2 := Int32.toInt_lt x
  have e9 : (2048 : Int32).toInt = 2048 := by decide +kernel
  have hq : (0 ≤ x.toInt ∧ x.toInt.tdiv 2048 = x.toInt / 2048) ∨ (x.toInt < 0 ∧ x.toInt.tdiv 2048 = -((-x.toInt) / 2048)) := by
    by_cases z : 0 ≤ x.toInt
    · exact Or.inl ⟨z, Int.tdiv_eq_ediv_of_nonneg z⟩
    · refine Or.inr ⟨by omega, ?_⟩
      have h3 := Int.neg_tdiv (-x.toInt) 2048
      rw [Int.neg_neg] at h3
      rw [h3, Int.tdiv_eq_ediv_of_nonneg (by omega)]
  have hd : (x / 2048).toInt = x.toInt.tdiv 2048 := by
    rw [Int32.toInt_div, e9, fb_bmod (by omega) (by omega)]
  have hm : (x / 2048 * 2048).toInt = x.toInt.tdiv 2048 * 2048 := by
    rw [Int32.toInt_mul, hd, e9, fb_bmod (by omega) (by omega)]
  have hs : (x - x / 2048 * 2048).toInt = x.toInt - x.toInt.tdiv 2048 * 2048 := by
    rw [Int32.toInt_sub, hm, fb_bmod (by omega) (by omega)]
  rw [hs]
  omega
def hsR (x : Int32) : Int32 := x * 7919 - x * 7919 / 2048 * 2048
def hsN (x : Int32) : Nat := nN (if 0 ≤ hsR x then hsR x else hsR x + 2048)
theorem hs_ge {x : Int32} (h : 0 ≤ hsR x) : hsR x = nI (hsN x) ∧ hsN x < 2048 := by
  have hb := rm2048 (x * 7919)
  obtain ⟨j, hj, e⟩ := nI_of (x := hsR x) (Int32.not_lt.mpr h)
  have h1 : (hsR x).toInt < 2048 := hb.2
  rw [e, nI_toInt hj] at h1
  have e2 : hsN x = j := by
    unfold hsN
    rw [if_pos h, e]
    exact nI_clamp hj
  rw [e2]
  exact ⟨e, by omega⟩
theorem hs_lt {x : Int32} (h : ¬ 0 ≤ hsR x) : hsR x + 2048 = nI (hsN x) ∧ hsN x < 2048 := by
  have hb := rm2048 (x * 7919)
  have h0 : (hsR x).toInt < 0 := by
    have := Int32.lt_iff_toInt_lt.mp (Int32.not_le.mp h)
    exact this
  have h1 : -2048 < (hsR x).toInt := hb.1
  have e9 : (2048 : Int32).toInt = 2048 := by decide +kernel
  have hs : (hsR x + 2048).toInt = (hsR x).toInt + 2048 := by rw [Int32.toInt_add, e9, fb_bmod (by omega) (by omega)]
  obtain ⟨j, hj, e⟩ := nI_of (x := hsR x + 2048) (fun z => by
    have h5 := Int32.lt_iff_toInt_lt.mp z
    rw [hs] at h5
    have : (0 : Int32).toInt = 0 := by decide
    omega)
  have h6 := hs
  rw [e, nI_toInt hj] at h6
  have e2 : hsN x = j := by
    unfold hsN
    rw [if_neg h, e]
    exact nI_clamp hj
  rw [e2]
  exact ⟨e, by omega⟩
def slN (c : Int32) (d : Nat) : Nat := (hsN c + d) % 2048
def HS (mpl msl : Nat → Int32) (mp : Nat) : Prop :=
  (∀ s, s < 2048 → msl s = 0 ∨ ∃ i, i < mp ∧ msl s = nI (i + 1)) ∧ (∀ i, i < mp → ∃ d, d < 2048 ∧ msl (slN (mpl i) d) = nI (i + 1) ∧ ∀ e, e < d → msl (slN (mpl i) e) ≠ 0) ∧ fb_ct (fun s => decide (msl s ≠ 0)) 2048 ≤ mp ∧ mp ≤ 720
theorem sl_lt (c : Int32) (d : Nat) : slN c d < 2048 := Nat.mod_lt _ (by decide)
theorem nI_s0 {i : Nat} (h : i < 2 ^ 30) : nI (i + 1) ≠ 0 := nI_ne0 (by omega) (by omega)
theorem hs_free {mpl msl : Nat → Int32} {mp : Nat} (h : HS mpl msl mp) : ∃ s, s < 2048 ∧ msl s = 0 := Classical.byContradiction fun z => by
  have h1 : ∀ k, k < 2048 → (fun s => decide (msl s ≠ 0)) k = (fun _ => true) k := fun k hk => decide_eq_true (fun y => z ⟨k, hk, y⟩)
  have h2 := fb_ct_cong h1
  have h3 := fb_ct_not (fun _ => true) 2048
  have h4 : fb_ct (fun _ => !true) 2048 = 0 := fb_ct_zero.mpr fun _ _ => rfl
  have h3 : fb_ct (fun _ => true) 2048 + fb_ct (fun _ => !true) 2048 = 2048 := h3
  have h5 := h.2.2.1
  have h6 := h.2.2.2
  omega
/-- the slots looked at so far hold other places -/
def prb (mpl msl : Nat → Int32) (mp : Nat) (c : Int32) (d : Nat) : Prop := ∀ e, e < d → ∃ i, i < mp ∧ msl (slN c e) = nI (i + 1) ∧ mpl i ≠ c
theorem prb_lt {mpl msl : Nat → Int32} {mp d : Nat} {c : Int32} (h : HS mpl msl mp) (hp : prb mpl msl mp c d) (hd : d ≤ 2048) : d < 2048 := by
  refine Nat.lt_of_le_of_ne hd (fun z => ?_)
  subst z
  obtain ⟨s, hs, e⟩ := hs_free h
  have hc : hsN c < 2048 := by
    by_cases q : 0 ≤ hsR c
    · exact (hs_ge q).2
    · exact (hs_lt q).2
  obtain ⟨i, hi, e2, _⟩ := hp ((s + 2048 - hsN c) % 2048) (Nat.mod_lt _ (by decide))
  rw [show slN c ((s + 2048 - hsN c) % 2048) = s by unfold slN; omega, e] at e2
  exact nI_s0 (by have := h.2.2.2; omega) e2.symm
theorem prb_none {mpl msl : Nat → Int32} {mp d : Nat} {c : Int32} (h : HS mpl msl mp) (hp : prb mpl msl mp c d) (h0 : msl (slN c d) = 0) : ∀ i, i < mp → mpl i ≠ c := by
  intro i hi e
  obtain ⟨q, _, e1, e2⟩ := h.2.1 i hi
  have hm := h.2.2.2
  rw [e] at e1 e2
  rcases Nat.lt_trichotomy q d with z | z | z
  · obtain ⟨k, hk, e3, e4⟩ := hp q z
    rw [e1] at e3
    have := nI_inj e3 (by omega) (by omega)
    rw [show k = i by omega] at e4
    exact e4 e
  · subst z
    rw [h0] at e1
    exact nI_s0 (by omega) e1.symm
  · exact e2 d z h0
theorem hs_new {mpl msl : Nat → Int32} {mp d : Nat} {c : Int32} (h : HS mpl msl mp) (hm : mp < 720) (hp : prb mpl msl mp c d) (hd : d < 2048) (h0 : msl (slN c d) = 0) : HS (upd mpl mp c) (upd msl (slN c d) (nI (mp + 1))) (mp + 1) := by
  refine ⟨fun s hs => ?_, fun i hi => ?_, ?_, by omega⟩
  · by_cases e : s = slN c d
    · subst e; exact Or.inr ⟨mp, by omega, upd_eq _ _ _⟩
    · rw [upd_ne _ _ e]
      exact (h.1 s hs).imp (fun z => z) (fun ⟨i, a, b⟩ => ⟨i, by omega, b⟩)
  · by_cases e : i = mp
    · subst e
      rw [upd_eq]
      refine ⟨d, hd, upd_eq _ _ _, fun k hk => ?_⟩
      obtain ⟨j, hj, e3, _⟩ := hp k hk
      by_cases y : slN c k = slN c d
      · rw [y, upd_eq]; exact nI_s0 (by omega)
      · rw [upd_ne _ _ y, e3]; exact nI_s0 (by omega)
    · rw [upd_ne _ _ e]
      obtain ⟨q, hq, e1, e2⟩ := h.2.1 i (by omega)
      have hx : ∀ k, msl (slN (mpl i) k) ≠ 0 → upd msl (slN c d) (nI (mp + 1)) (slN (mpl i) k) ≠ 0 := fun k hk => by
        by_cases y : slN (mpl i) k = slN c d
        · rw [y, upd_eq]; exact nI_s0 (by omega)
        · rw [upd_ne _ _ y]; exact hk
      refine ⟨q, hq, ?_, fun k hk => hx k (e2 k hk)⟩
      rw [upd_ne _ _ (fun y => ?_), e1]
      rw [y, h0] at e1
      exact nI_s0 (i := i) (by omega) e1.symm
  · have e9 : (fun s => decide (upd msl (slN c d) (nI (mp + 1)) s ≠ 0)) = fun k => if k = slN c d then true else decide (msl k ≠ 0) := by
      funext k
      by_cases y : k = slN c d
      · subst y; rw [upd_eq, if_pos rfl]; exact decide_eq_true (nI_s0 (by omega))
      · rw [upd_ne _ _ y, if_neg y]
    have h1 := fb_ct_upd (fun s => decide (msl s ≠ 0)) true (sl_lt c d)
    have h2 : decide (msl (slN c d) ≠ 0) = false := decide_eq_false (fun z => z h0)
    have h3 := h.2.2.1
    rw [e9]
    simp only [h2] at h1
    simp at h1
    simp only [ne_eq] at h3 ⊢
    simp at h1 h3 ⊢
    omega
def MtR (mpl msh msl mse : Nat → Int32) (mq : Nat) (c w : Int32) (mpl9 msh9 msl9 mse9 : Nat → Int32) (mp9 : Nat) : Prop :=
  (∃ i, i < mq ∧ mpl i = c ∧ mp9 = mq ∧ mpl9 = mpl ∧ msl9 = msl ∧ mse9 = mse ∧ ((w < msh i ∧ msh9 = upd msh i w) ∨ (¬ w < msh i ∧ msh9 = msh))) ∨
  ((∀ i, i < mq → mpl i ≠ c) ∧ mp9 = mq + 1 ∧ mpl9 = upd mpl mq c ∧ msh9 = upd msh mq w ∧ mse9 = upd mse mq 0 ∧ HS mpl9 msl9 mp9)
