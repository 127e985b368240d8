/-! bits of codes -/
theorem b_7 : ∀ i, i < 32 → bt 7 i = decide (i < 3) := by decide +kernel
theorem b_1 : ∀ i, i < 32 → bt 1 i = decide (i = 0) := by decide +kernel
theorem b_v8 : ∀ v, v < 8 → ∀ i, i < 32 → 3 ≤ i → bt (nI v) i = false := by decide +kernel
theorem b_nI (m i : Nat) (hi : i < 32) : bt (nI m) i = m.testBit i := by
  show (BitVec.ofNat 32 m).getLsbD i = _
  rw [BitVec.getLsbD_ofNat, decide_eq_true hi, Bool.true_and]
theorem sh3 (j : Nat) : (3 : Int32) * nI j = nI (3 * j) := pk_mul 3 j
theorem at_bt {c : Int32} {j i : Nat} (hj : j < 8) (hi : i < 32) : bt (atE c j) i = (decide (i < 3) && bt c (3 * j + i)) := by
  unfold atE
  rw [sh3, b_and, b_sshr (3 * j) (by omega) c hi, b_7 i hi]
  by_cases h : i < 3
  · rw [decide_eq_true h, if_pos (by omega), Bool.and_true, Bool.true_and]
  · rw [decide_eq_false h, Bool.and_false, Bool.false_and]
theorem put_bt {c v : Int32} {j i : Nat} (hj : j < 8) (hi : i < 32) : bt (putE c j v) i = ((bt c i && !(decide (3 * j ≤ i) && decide (i - 3 * j < 3))) || (decide (3 * j ≤ i) && bt v (i - 3 * j))) := by
  unfold putE
  rw [sh3, b_or, b_and, b_xor, b_shl (3 * j) (by omega) 7 hi, b_shl (3 * j) (by omega) v hi, b_m1 i hi, b_7 _ (by omega)]
  simp
theorem at_rng (c : Int32) (j : Nat) : ∃ d, d < 8 ∧ atE c j = nI d := by
  unfold atE
  obtain ⟨m, _, hm⟩ := wb_of32 (c >>> (((3 : Int32) * nI j) &&& 31))
  rw [hm]
  exact ⟨m &&& 7, Nat.lt_succ_of_le Nat.and_le_right, nx_and m 7⟩
theorem at_put_eq {c : Int32} {j v : Nat} (hj : j < 8) (hv : v < 8) : atE (putE c j (nI v)) j = nI v := by
  refine b_ext fun i hi => ?_
  rw [at_bt hj hi]
  by_cases h : i < 3
  · rw [decide_eq_true h, Bool.true_and, put_bt hj (by omega), show 3 * j + i - 3 * j = i by omega, decide_eq_true h, decide_eq_true (show 3 * j ≤ 3 * j + i by omega)]
    simp
  · rw [decide_eq_false h, Bool.false_and, b_v8 v hv i hi (by omega)]
theorem at_put_ne {c : Int32} {j k v : Nat} (hj : j < 8) (hk : k < 8) (hv : v < 8) (hne : k ≠ j) : atE (putE c j (nI v)) k = atE c k := by
  refine b_ext fun i hi => ?_
  rw [at_bt hk hi, at_bt hk hi]
  by_cases h : i < 3
  · rw [decide_eq_true h, Bool.true_and, Bool.true_and, put_bt hj (by omega)]
    by_cases h2 : 3 * j ≤ 3 * k + i
    · rw [decide_eq_true h2, decide_eq_false (show ¬ 3 * k + i - 3 * j < 3 by omega), b_v8 v hv _ (by omega) (by omega)]
      simp
    · rw [decide_eq_false h2]
      simp
  · rw [decide_eq_false h, Bool.false_and, Bool.false_and]
theorem ho_bt {x : Int32} {k : Nat} (hk : k < 32) : hoB x (nI k) = bt x k := by
  unfold hoB
  cases e : bt x k with
  | false =>
    refine decide_eq_false (fun z => z ?_)
    refine b_ext fun i hi => ?_
    rw [b_and, b_sshr k hk x hi, b_1 i hi, b_0]
    by_cases h : i = 0
    · subst h
      rw [if_pos (by omega), Nat.add_zero, e]; rfl
    · rw [decide_eq_false h, Bool.and_false]
  | true =>
    refine decide_eq_true (fun z => ?_)
    have h := congrArg (fun q => bt q 0) z
    simp only [b_and, b_0, b_sshr k hk x (show 0 < 32 by omega), b_1 0 (by omega)] at h
    rw [if_pos (by omega), Nat.add_zero, e] at h
    cases h
theorem ho_nI {m k : Nat} (hk : k < 32) : hoB (nI m) (nI k) = m.testBit k := by rw [ho_bt hk, b_nI m k hk]
theorem sh_bt {d i : Nat} (hd : d < 31) (hi : i < 32) : bt ((1 : Int32) <<< (nI d &&& 31)) i = decide (d = i) := by rw [sh1 d hd, b_nI _ i hi, Nat.testBit_two_pow]
theorem oc_bt {pb c : Int32} {i : Nat} (hi : i < 32) : ∀ k, bt (ocA pb c k) i = true ↔ ∃ j, j < k ∧ hoB pb (nI j) = true ∧ atE c j = nI i
  | 0 => by
    rw [ocA, b_0]
    exact ⟨fun z => (by cases z), fun ⟨j, hj, _⟩ => absurd hj (Nat.not_lt_zero _)⟩
  | k + 1 => by
    have ih := oc_bt (pb := pb) (c := c) hi k
    rw [ocA]
    split
    · rename_i h
      obtain ⟨d, hd, ed⟩ := at_rng c k
      rw [b_or, Bool.or_eq_true, ih, ed, sh_bt (by omega) hi]
      constructor
      · rintro (⟨j, hj, z⟩ | z)
        · exact ⟨j, by omega, z⟩
        · exact ⟨k, by omega, h, by rw [ed, of_decide_eq_true z]⟩
      · rintro ⟨j, hj, z1, z2⟩
        rcases Nat.lt_or_ge j k with q | q
        · exact Or.inl ⟨j, q, z1, z2⟩
        · obtain rfl : j = k := by omega
          rw [ed] at z2
          exact Or.inr (decide_eq_true ((nI_eq (by omega) (by omega)).mp z2))
    · rename_i h
      rw [ih]
      constructor
      · rintro ⟨j, hj, z⟩
        exact ⟨j, by omega, z⟩
      · rintro ⟨j, hj, z1, z2⟩
        rcases Nat.lt_or_ge j k with q | q
        · exact ⟨j, q, z1, z2⟩
        · obtain rfl : j = k := by omega
          exact absurd z1 h
/-! numbers of arrangements -/
def pcN (u : Nat) : Nat := nN (bcE (nI u))
def r9N (u b : Nat) : Nat := b - pcN (u % 2 ^ b)
theorem pc_I : ∀ u, u < 64 → bcE (nI u) = nI (pcN u) := by decide +kernel
theorem pc_le : ∀ u, u < 64 → ∀ b, b < 6 → pcN (u % 2 ^ b) ≤ b := by decide +kernel
theorem pc_or : ∀ u, u < 64 → ∀ b, b < 6 → u.testBit b = false → pcN (u ||| 2 ^ b) = pcN u + 1 := by decide +kernel
theorem r9_lt : ∀ n, n < 7 → ∀ u, u < 2 ^ n → ∀ b, b < n → u.testBit b = false → r9N u b + pcN u < n := by decide +kernel
theorem r9_injb : ∀ u, u < 64 → ∀ b, b < 6 → ∀ k, k < 6 → (u.testBit b || u.testBit k || !(r9N u b == r9N u k) || b == k) = true := by decide +kernel
theorem r9_inj (u : Nat) (hu : u < 64) (b : Nat) (hb : b < 6) (k : Nat) (hk : k < 6) (h1 : u.testBit b = false) (h2 : u.testBit k = false) (h3 : r9N u b = r9N u k) : b = k := by
  have h := r9_injb u hu b hb k hk
  rw [h1, h2, h3] at h
  simpa using h
def ffa (nb : Nat) : Nat → Nat
  | 0 => 1
  | k + 1 => ffa nb k * (nb - k)
theorem ffa_le : ∀ n, n < 7 → ∀ k, k < 9 → ffa n k ≤ 720 := by decide +kernel
def nmR (P : Nat → Bool) (d : Nat → Nat) (nb : Nat) : Nat → Nat × Nat
  | 0 => (0, 0)
  | j + 1 => if P j = true then ((nmR P d nb j).1 * (nb - pcN (nmR P d nb j).2) + r9N (nmR P d nb j).2 (d j), (nmR P d nb j).2 ||| 2 ^ d j) else nmR P d nb j
theorem nmR_1 {P : Nat → Bool} {d : Nat → Nat} {nb j : Nat} (h : P j = true) : nmR P d nb (j + 1) = ((nmR P d nb j).1 * (nb - pcN (nmR P d nb j).2) + r9N (nmR P d nb j).2 (d j), (nmR P d nb j).2 ||| 2 ^ d j) := by rw [nmR, if_pos h]
theorem nmR_0 {P : Nat → Bool} {d : Nat → Nat} {nb j : Nat} (h : P j = false) : nmR P d nb (j + 1) = nmR P d nb j := by rw [nmR, h, if_neg Bool.false_ne_true]
def gdA (P : Nat → Bool) (d : Nat → Nat) (nb : Nat) : Prop := nb < 7 ∧ (∀ j, j < 8 → P j = true → d j < nb) ∧ ∀ i j, i < 8 → j < 8 → P i = true → P j = true → d i = d j → i = j
theorem nm_used {P : Nat → Bool} {d : Nat → Nat} {nb : Nat} (b : Nat) : ∀ k, (nmR P d nb k).2.testBit b = true ↔ ∃ i, i < k ∧ P i = true ∧ d i = b
  | 0 => by
    show Nat.testBit 0 b = true ↔ _
    rw [Nat.zero_testBit]
    exact ⟨fun z => (by cases z), fun ⟨i, hi, _⟩ => absurd hi (Nat.not_lt_zero _)⟩
  | k + 1 => by
    have ih := nm_used (P := P) (d := d) (nb := nb) b k
    cases h : P k with
    | true =>
      rw [nmR_1 h]
      show ((nmR P d nb k).2 ||| 2 ^ d k).testBit b = true ↔ _
      rw [Nat.testBit_or, Bool.or_eq_true, ih, Nat.testBit_two_pow]
      constructor
      · rintro (⟨i, hi, z⟩ | z)
        · exact ⟨i, by omega, z⟩
        · exact ⟨k, by omega, h, of_decide_eq_true z⟩
      · rintro ⟨i, hi, z1, z2⟩
        rcases Nat.lt_or_ge i k with q | q
        · exact Or.inl ⟨i, q, z1, z2⟩
        · obtain rfl : i = k := by omega
          exact Or.inr (decide_eq_true z2)
    | false =>
      rw [nmR_0 h, ih]
      constructor
      · rintro ⟨i, hi, z⟩
        exact ⟨i, by omega, z⟩
      · rintro ⟨i, hi, z1, z2⟩
        rcases Nat.lt_or_ge i k with q | q
        · exact ⟨i, q, z1, z2⟩
        · obtain rfl : i = k := by omega
          rw [h] at z1; cases z1
theorem nm_free {P : Nat → Bool} {d : Nat → Nat} {nb : Nat} (g : gdA P d nb) {k : Nat} (hk : k < 8) (h : P k = true) : (nmR P d nb k).2.testBit (d k) = false := by
  cases e : (nmR P d nb k).2.testBit (d k) with
  | false => rfl
  | true =>
    obtain ⟨i, hi, h1, h2⟩ := (nm_used (d k) k).mp e
    have := g.2.2 i k (by omega) hk h1 h h2
    omega
theorem nm_lt2 {P : Nat → Bool} {d : Nat → Nat} {nb : Nat} (g : gdA P d nb) : ∀ k, k ≤ 8 → (nmR P d nb k).2 < 2 ^ nb
  | 0 => fun _ => Nat.two_pow_pos nb
  | k + 1 => fun hk => by
    have ih := nm_lt2 g k (by omega)
    cases h : P k with
    | true =>
      rw [nmR_1 h]
      exact Nat.or_lt_two_pow ih (Nat.pow_lt_pow_right (by decide) (g.2.1 k (by omega) h))
    | false => rw [nmR_0 h]; exact ih
theorem nm_64 {P : Nat → Bool} {d : Nat → Nat} {nb : Nat} (g : gdA P d nb) {k : Nat} (hk : k ≤ 8) : (nmR P d nb k).2 < 64 :=
  Nat.lt_of_lt_of_le (nm_lt2 g k hk) (Nat.pow_le_pow_right (n := 2) (by decide) (show nb ≤ 6 by have := g.1; omega))
theorem nm_pc {P : Nat → Bool} {d : Nat → Nat} {nb : Nat} (g : gdA P d nb) : ∀ k, k ≤ 8 → pcN (nmR P d nb k).2 = fb_ct P k
  | 0 => fun _ => by show pcN 0 = 0; decide +kernel
  | k + 1 => fun hk => by
    have ih := nm_pc g k (by omega)
    have hn := g.1
    rw [fb_ct_succ]
    cases h : P k with
    | true =>
      have hd := g.2.1 k (by omega) h
      rw [nmR_1 h, if_pos rfl]
      show pcN ((nmR P d nb k).2 ||| 2 ^ d k) = _
      rw [pc_or _ (nm_64 g (by omega)) _ (by omega) (nm_free g (by omega) h), ih]
    | false => rw [nmR_0 h, if_neg Bool.false_ne_true]; exact ih
theorem nm_rr {P : Nat → Bool} {d : Nat → Nat} {nb : Nat} (g : gdA P d nb) {k : Nat} (hk : k < 8) (h : P k = true) : r9N (nmR P d nb k).2 (d k) + fb_ct P k < nb := by
  rw [← nm_pc g k (by omega)]
  exact r9_lt nb g.1 _ (nm_lt2 g k (by omega)) _ (g.2.1 k hk h) (nm_free g hk h)
theorem nm_num {P : Nat → Bool} {d : Nat → Nat} {nb : Nat} (g : gdA P d nb) : ∀ k, k ≤ 8 → (nmR P d nb k).1 < ffa nb (fb_ct P k)
  | 0 => fun _ => by show 0 < 1; omega
  | k + 1 => fun hk => by
    have ih := nm_num g k (by omega)
    rw [fb_ct_succ]
    cases h : P k with
    | true =>
      have hr := nm_rr g (by omega) h
      rw [nmR_1 h, if_pos rfl, ffa]
      show (nmR P d nb k).1 * (nb - pcN (nmR P d nb k).2) + r9N (nmR P d nb k).2 (d k) < _
      rw [nm_pc g k (by omega)]
      have h2 := Nat.mul_le_mul_right (nb - fb_ct P k) (show (nmR P d nb k).1 + 1 ≤ ffa nb (fb_ct P k) from ih)
      rw [Nat.add_mul, Nat.one_mul] at h2
      omega
    | false => rw [nmR_0 h, if_neg Bool.false_ne_true]; exact ih
theorem nm_720 {P : Nat → Bool} {d : Nat → Nat} {nb : Nat} (g : gdA P d nb) {k : Nat} (hk : k ≤ 8) : (nmR P d nb k).1 < 720 :=
  Nat.lt_of_lt_of_le (nm_num g k hk) (ffa_le nb g.1 _ (by have := fb_ct_le P k; omega))
theorem mix_inj {a b r q f : Nat} (hr : r < f) (hq : q < f) (h : a * f + r = b * f + q) : a = b ∧ r = q := by
  have h1 : (a * f + r) / f = a := by rw [Nat.add_comm, Nat.add_mul_div_right _ _ (by omega), Nat.div_eq_of_lt hr, Nat.zero_add]
  have h2 : (b * f + q) / f = b := by rw [Nat.add_comm, Nat.add_mul_div_right _ _ (by omega), Nat.div_eq_of_lt hq, Nat.zero_add]
  have h3 : a = b := by rw [← h1, ← h2, h]
  subst h3
  exact ⟨rfl, by omega⟩
theorem nm_cong {P : Nat → Bool} {d e : Nat → Nat} {nb : Nat} : ∀ k, (∀ i, i < k → P i = true → d i = e i) → nmR P d nb k = nmR P e nb k
  | 0, _ => rfl
  | k + 1, h => by
    have ih := nm_cong (P := P) (d := d) (e := e) (nb := nb) k (fun i hi => h i (by omega))
    cases hp : P k with
    | true => rw [nmR_1 hp, nmR_1 hp, ih, h k (by omega) hp]
    | false => rw [nmR_0 hp, nmR_0 hp, ih]
theorem nm_inj {P : Nat → Bool} {d e : Nat → Nat} {nb : Nat} (g : gdA P d nb) (g2 : gdA P e nb) : ∀ k, k ≤ 8 → (nmR P d nb k).1 = (nmR P e nb k).1 → ∀ i, i < k → P i = true → d i = e i
  | 0, _, _ => fun i hi => absurd hi (Nat.not_lt_zero _)
  | k + 1, hk, h => by
    cases hp : P k with
    | true =>
      have r1 := nm_rr g (by omega) hp
      have r2 := nm_rr g2 (by omega) hp
      rw [nmR_1 hp, nmR_1 hp] at h
      have h : (nmR P d nb k).1 * (nb - pcN (nmR P d nb k).2) + r9N (nmR P d nb k).2 (d k) = (nmR P e nb k).1 * (nb - pcN (nmR P e nb k).2) + r9N (nmR P e nb k).2 (e k) := h
      rw [nm_pc g k (by omega), nm_pc g2 k (by omega)] at h
      obtain ⟨h1, h2⟩ := mix_inj (by omega) (by omega) h
      have ih := nm_inj g g2 k (by omega) h1
      have hc := nm_cong (nb := nb) k ih
      intro i hi hpi
      rcases Nat.lt_or_ge i k with q | q
      · exact ih i q hpi
      · obtain rfl : i = k := by omega
        have d1 := g.2.1 i (by omega) hp
        have d2 := g2.2.1 i (by omega) hp
        have hn := g.1
        have f2 := nm_free g2 (by omega) hp
        rw [← hc] at h2 f2
        exact r9_inj _ (nm_64 g (by omega)) _ (by omega) _ (by omega) (nm_free g (by omega) hp) f2 h2
    | false =>
      rw [nmR_0 hp, nmR_0 hp] at h
      have ih := nm_inj g g2 k (by omega) h
      intro i hi hpi
      rcases Nat.lt_or_ge i k with q | q
      · exact ih i q hpi
      · obtain rfl : i = k := by omega
        rw [hp] at hpi; cases hpi
/-- the class counts so -/
theorem nmI_R {pb c : Int32} {P : Nat → Bool} {d : Nat → Nat} {nb : Nat} (g : gdA P d nb) (hp : ∀ j, j < 8 → hoB pb (nI j) = P j) (hd : ∀ j, j < 8 → P j = true → atE c j = nI (d j)) : ∀ k, k ≤ 8 → nmI pb c (nI nb) k = (nI (nmR P d nb k).1, nI (nmR P d nb k).2, nI (nb - pcN (nmR P d nb k).2))
  | 0 => fun _ => by
    show (0, 0, nI nb) = (nI 0, nI 0, nI (nb - pcN 0))
    rw [show pcN 0 = 0 by decide +kernel]; rfl
  | k + 1 => fun hk => by
    have ih := nmI_R g hp hd k (by omega)
    have hn := g.1
    cases h : P k with
    | true =>
      have hdk := g.2.1 k (by omega) h
      have hr := nm_rr g (by omega) h
      have h64 := nm_64 g (show k ≤ 8 by omega)
      have hpc := nm_pc g k (by omega)
      have hfr := nm_free g (by omega) h
      have hmod : (nmR P d nb k).2 % 2 ^ d k < 64 := Nat.lt_of_le_of_lt (Nat.mod_le _ _) h64
      rw [nmI_1 (by rw [hp k (by omega)]; exact h), ih, hd k (by omega) h, nmR_1 h, sh1 _ (by omega)]
      show (nI (nmR P d nb k).1 * nI (nb - pcN (nmR P d nb k).2) + nI (d k) - bcE (nI (nmR P d nb k).2 &&& (nI (2 ^ d k) - (1 : Int32))), nI (nmR P d nb k).2 ||| nI (2 ^ d k), nI (nb - pcN (nmR P d nb k).2) + (-1 : Int32)) = (nI ((nmR P d nb k).1 * (nb - pcN (nmR P d nb k).2) + r9N (nmR P d nb k).2 (d k)), nI ((nmR P d nb k).2 ||| 2 ^ d k), nI (nb - pcN ((nmR P d nb k).2 ||| 2 ^ d k)))
      have h2 : nI (2 ^ d k) - (1 : Int32) = nI (2 ^ d k - 1) := pk_sub (b := 1) (Nat.one_le_two_pow)
      have hle := pc_le _ h64 (d k) (by omega)
      rw [h2, nx_and, Nat.and_two_pow_sub_one_eq_mod, pc_I _ hmod, fa_or, pk_mul, nI_add, pk_sub (by omega), nI_dec (by rw [hpc]; omega), pc_or _ h64 _ (by omega) hfr]
      rw [show nb - pcN (nmR P d nb k).2 - 1 = nb - (pcN (nmR P d nb k).2 + 1) by omega]
      unfold r9N
      rw [Nat.add_sub_assoc hle]
    | false => rw [nmI_0 (by rw [hp k (by omega)]; exact h), nmR_0 h]; exact ih
