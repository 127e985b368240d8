/-! coats: when they are dry -/
abbrev nNx (x : Int32) : Nat := x.toNatClampNeg
def spOk (wf wt : Nat → Int32) (nw : Nat) : Prop := ∀ k, k < nw → ∃ f g : Nat, wf k = nI f ∧ wt k = nI g ∧ f < g ∧ g ≤ 10000
def dryV (wf wt : Nat → Int32) (nw t : Nat) (x : Int32) : Nat := dryG (bdN wf wt nw) (10000 + nNx x - t) (nNx x) t
/-- how many spans are over at an hour, how many begin behind it -/
def cBe (wt : Nat → Int32) (nw n : Nat) : Nat := fb_ct (fun k => decide (wt k ≤ nI n)) nw
def cAf (wf : Nat → Int32) (nw n : Nat) : Nat := fb_ct (fun k => decide (nI n < wf k)) nw
theorem ct_lt {p q : Nat → Bool} : ∀ {n j : Nat}, (∀ k, k < n → p k = true → q k = true) → j < n → p j = false → q j = true → fb_ct p n + 1 ≤ fb_ct q n
  | n + 1, j, h, hj, hp, hq => by
    rcases Nat.lt_or_ge j n with z | z
    · have ih := ct_lt (n := n) (fun k hk => h k (by omega)) z hp hq
      have h9 := h n (by omega)
      rw [fb_ct_succ, fb_ct_succ]
      cases e : p n with
      | false => simp; omega
      | true => rw [h9 e]; simp; omega
    · obtain rfl : j = n := by omega
      have h1 := fb_ct_sub (n := j) (p := p) (q := q) (fun k hk => h k (by omega))
      rw [fb_ct_succ, fb_ct_succ, hp, hq]
      simp; omega
theorem ct_full {p : Nat → Bool} {n : Nat} (h : n ≤ fb_ct p n) : ∀ k, k < n → p k = true := by
  intro k hk
  cases e : p k with
  | true => rfl
  | false =>
    have h1 := ct_lt (p := p) (q := fun _ => true) (n := n) (j := k) (fun _ _ _ => rfl) hk e rfl
    have h2 := fb_ct_le (fun _ => true) n
    omega
theorem cBe_mono {wt : Nat → Int32} {nw n m : Nat} (h : n ≤ m) (hm : m < 2 ^ 31) : cBe wt nw n ≤ cBe wt nw m :=
  fb_ct_sub fun k _ h1 => decide_eq_true (Int32.le_trans (of_decide_eq_true h1) (nI_le h hm))
theorem cBe_lt {wf wt : Nat → Int32} {nw n k g : Nat} (hk : k < nw) (hg : wt k = nI g) (h : n < g) (hm : g < 2 ^ 31) : cBe wt nw n + 1 ≤ cBe wt nw g :=
  ct_lt (j := k) (fun j _ h1 => decide_eq_true (Int32.le_trans (of_decide_eq_true h1) (nI_le (by omega) hm))) hk (decide_eq_false (by rw [hg]; exact nI_ge h hm)) (decide_eq_true (by rw [hg]; exact Int32.le_refl _))
theorem cBe_le (wt : Nat → Int32) (nw n : Nat) : cBe wt nw n ≤ nw := fb_ct_le _ _
theorem cAf_le (wf : Nat → Int32) (nw n : Nat) : cAf wf nw n ≤ nw := fb_ct_le _ _
theorem cAf_mono {wf : Nat → Int32} {nw n m : Nat} (h : n ≤ m) (hm : m < 2 ^ 31) : cAf wf nw m ≤ cAf wf nw n :=
  fb_ct_sub fun k _ h1 => decide_eq_true (Int32.lt_of_le_of_lt (nI_le h hm) (of_decide_eq_true h1))
theorem cAf_lt {wf : Nat → Int32} {nw n k g : Nat} (hk : k < nw) (hg : wf k = nI g) (h : n < g) (hm : g < 2 ^ 31) : cAf wf nw g + 1 ≤ cAf wf nw n :=
  ct_lt (j := k) (fun j _ h1 => decide_eq_true (Int32.lt_trans (nI_lt h hm) (of_decide_eq_true h1))) hk (decide_eq_false (by rw [hg]; exact nI_nlt (Nat.le_refl _) hm)) (decide_eq_true (by rw [hg]; exact nI_lt h hm))
theorem cAf_0 {wf : Nat → Int32} {nw n k : Nat} (hk : k < nw) (h : nI n < wf k) : 0 < cAf wf nw n := by
  have := ct_lt (p := fun _ => false) (q := fun k => decide (nI n < wf k)) (n := nw) (j := k) (fun _ _ z => by cases z) hk rfl (decide_eq_true h)
  unfold cAf
  omega
theorem bd_t {wf wt : Nat → Int32} {nw k n : Nat} (hk : k < nw) (h1 : wf k ≤ nI n) (h2 : nI n < wt k) : bdN wf wt nw n = true := badF_t hk h1 h2
theorem bd_no {wf wt : Nat → Int32} {nw n : Nat} (h : bdN wf wt nw n = false) : ∀ j, j < nw → ¬ (wf j ≤ nI n ∧ nI n < wt j) := by
  intro j hj z
  rw [bd_t hj z.1 z.2] at h
  cases h
theorem bd_over {wf wt : Nat → Int32} {nw n : Nat} (h : nw ≤ cBe wt nw n) : bdN wf wt nw n = false :=
  badF_f fun j hj z => Int32.not_lt.mpr (of_decide_eq_true (ct_full h j hj)) z.2
theorem bd_hi {wf wt : Nat → Int32} {nw n : Nat} (h : spOk wf wt nw) (hn : 10000 ≤ n) (h3 : n < 2 ^ 31) : bdN wf wt nw n = false := by
  refine badF_f fun j hj z => ?_
  obtain ⟨f, g, hf, hg, h1, h2⟩ := h j hj
  rw [hg] at z
  have := (nI_ltI h3 (by omega)).mp z.2
  omega
/-- hours in which nothing dries are skipped, hours in which it dries are counted -/
theorem dr_bad {bad : Nat → Bool} {L F : Nat} (hL : L ≠ 0) : ∀ (d h : Nat), (∀ i, i < d → bad (h + i) = true) → dryG bad (F + d) L h = dryG bad F L (h + d)
  | 0, h, _ => rfl
  | d + 1, h, hb => by
    rw [show F + (d + 1) = (F + d) + 1 from rfl, dryG, if_neg hL, show bad h = true from hb 0 (by omega), if_pos rfl, dr_bad hL d (h + 1) (fun i hi => by rw [show h + 1 + i = h + (i + 1) by omega]; exact hb (i + 1) (by omega)), show h + 1 + d = h + (d + 1) by omega]
theorem dr_good {bad : Nat → Bool} {F : Nat} : ∀ (d h L : Nat), d ≤ L → (∀ i, i < d → bad (h + i) = false) → dryG bad (F + d) L h = dryG bad F (L - d) (h + d)
  | 0, h, L, _, _ => rfl
  | d + 1, h, L, hd, hb => by
    rw [show F + (d + 1) = (F + d) + 1 from rfl, dryG, if_neg (by omega), show bad h = false from hb 0 (by omega), if_neg Bool.false_ne_true, dr_good d (h + 1) (L - 1) (by omega) (fun i hi => by rw [show h + 1 + i = h + (i + 1) by omega]; exact hb (i + 1) (by omega)), show h + 1 + d = h + (d + 1) by omega, show L - 1 - d = L - (d + 1) by omega]
/-- one hour more -/
theorem dr_one {bad : Nat → Bool} {F L h : Nat} (hL : 0 < L) (hF : 0 < F) : dryG bad F L h = dryG bad (F - 1) (if bad h = true then L else L - 1) (h + 1) := by
  obtain ⟨f, rfl⟩ : ∃ f, F = f + 1 := ⟨F - 1, by omega⟩
  rw [dryG, if_neg (by omega)]
  rfl
/-- one stretch more -/
theorem dr_stretch {wf wt : Nat → Int32} {nw n g r0 r m L : Nat} (h1 : n ≤ g) (h2 : g ≤ n ∨ g ≤ 10000) (hb : ∀ i, n ≤ i → i < g → bdN wf wt nw i = true) (hg : bdN wf wt nw g = false) (hr : 0 < r) (hm : m ≤ r) (hmr : m ≤ r0 - g)
    (hs : ∀ k, k < nw → nI g < wf k → nI r0 ≤ wf k) (hn : n + r ≤ 10000 + L) (hL : r ≤ L) (hL2 : L ≤ 48) (hr0 : r0 ≤ 1000000) :
    dryG (bdN wf wt nw) (10000 + L - (g + m)) (r - m) (g + m) = dryG (bdN wf wt nw) (10000 + L - n) r n := by
  have e1 : 10000 + L - n = (10000 + L - g) + (g - n) := by omega
  rw [e1, dr_bad (by omega) (g - n) n (fun i hi => hb _ (by omega) (by omega)), show n + (g - n) = g by omega]
  rw [show 10000 + L - g = (10000 + L - (g + m)) + m by omega, dr_good m g r hm]
  intro i hi
  refine badF_f fun k hk z => ?_
  rcases Int32.lt_or_le (nI g) (wf k) with q | q
  · have h5 := Int32.le_trans (hs k hk q) z.1
    have h6 := (nI_leI (by omega) (by omega)).mp h5
    omega
  · refine bd_no hg k hk ⟨q, Int32.lt_of_le_of_lt (nI_le (by omega) (by omega)) z.2⟩
theorem mn_nI {a b : Nat} (ha : a < 2 ^ 31) (hb : b < 2 ^ 31) : (if nI b < nI a then nI b else nI a) = nI (min a b) := by
  by_cases h : b < a
  · rw [if_pos (nI_lt h ha), Nat.min_eq_right (by omega)]
  · rw [if_neg (nI_nlt (by omega) hb), Nat.min_eq_left (by omega)]
theorem nI_dec {r : Nat} (h : 1 ≤ r) : nI r + (-1 : Int32) = nI (r - 1) := by
  obtain ⟨k, rfl⟩ : ∃ k, r = k + 1 := ⟨r - 1, by omega⟩
  exact (Int32.sub_eq_add_neg _ _).symm.trans (nI_pred k)
theorem mn_ex (a b : Nat) : ∃ m, m = min a b ∧ m ≤ a ∧ m ≤ b ∧ (m = a ∨ m = b) := by
  rcases Nat.le_total a b with h | h
  · exact ⟨a, (Nat.min_eq_left h).symm, Nat.le_refl _, h, Or.inl rfl⟩
  · exact ⟨b, (Nat.min_eq_right h).symm, h, Nat.le_refl _, Or.inr rfl⟩
