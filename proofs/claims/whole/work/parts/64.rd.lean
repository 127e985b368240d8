def RD (nb no : Nat) (W : Nat → Nat) (E : (Nat → Int32) → Nat → Nat → Prop) (g0 : Nat → Int32) (Cl : (Nat → Int32) → Prop) (tk : Nat) (mpl msh mse : Nat → Int32) (mq : Nat) : Prop :=
  RS nb no W E g0 mpl msh mse mq ∧ fb_ct (fun i => decide (mse i ≠ 0)) mq = tk ∧ cvd mpl msh mq (cdN g0 nb no 6) 0 ∧ (∀ i u, i < mq → msh i = nI u → u < 1000000 → u ≤ 200 * tk) ∧
  (∀ i u g, i < mq → mse i ≠ 0 → msh i = nI u → u < 1000000 → Va nb no g → mpl i = nI (cdN g nb no 6) → ¬ Cl g ∧ ∀ j k, E g j k → cvd mpl msh mq (cdN (upd g j (nI k)) nb no 6) (u + W j)) ∧
  ∀ i u q v, i < mq → mse i ≠ 0 → msh i = nI u → u < 1000000 → q < mq → mse q = 0 → msh q = nI v → v < 1000000 → u ≤ v
section RDK
variable {nb no : Nat} {W : Nat → Nat} {E : (Nat → Int32) → Nat → Nat → Prop} {g0 : Nat → Int32} {Cl : (Nat → Int32) → Prop}
theorem rd_tk {tk : Nat} {mpl msh mse : Nat → Int32} {mq : Nat} (h : RD nb no W E g0 Cl tk mpl msh mse mq) : tk ≤ mq := by
  rw [← h.2.1]; exact fb_ct_le _ _
theorem rd_front (hE : Eok nb no E) (hb : nb < 7) (h0 : Va nb no g0) {tk : Nat} {mpl msh mse : Nat → Int32} {mq : Nat} (h : RD nb no W E g0 Cl tk mpl msh mse mq) :
    ∀ {n : Nat} {g : Nat → Int32} {w : Nat}, RN no W E g0 n g w → (∃ i v, i < mq ∧ mse i ≠ 0 ∧ mpl i = nI (cdN g nb no 6) ∧ msh i = nI v ∧ v < 1000000 ∧ v ≤ w) ∨ ∃ q v, q < mq ∧ mse q = 0 ∧ msh q = nI v ∧ v < 1000000 ∧ v ≤ w := by
  have hsplit : ∀ {g : Nat → Int32} {w a : Nat}, cvd mpl msh mq (cdN g nb no 6) a → a ≤ w → (∃ i v, i < mq ∧ mse i ≠ 0 ∧ mpl i = nI (cdN g nb no 6) ∧ msh i = nI v ∧ v < 1000000 ∧ v ≤ w) ∨ ∃ q v, q < mq ∧ mse q = 0 ∧ msh q = nI v ∧ v < 1000000 ∧ v ≤ w := by
    intro g w a ⟨q, v, h1, h2, h3, h4, h5⟩ ha
    by_cases z : mse q = 0
    · exact Or.inr ⟨q, v, h1, z, h3, h4, by omega⟩
    · exact Or.inl ⟨q, v, h1, z, h2, h3, h4, by omega⟩
  intro n
  induction n with
  | zero =>
    intro g w hR
    refine hsplit (a := 0) ?_ (Nat.zero_le _)
    rw [cd_cong hR.1 6]
    exact h.2.2.1
  | succ n ih =>
    intro g w hR
    obtain ⟨e, j, k, u, h1, h2, h3, h4⟩ := id hR
    rcases ih h1 with ⟨i, v, a1, a2, a3, a4, a5, a6⟩ | ⟨q, v, b1, b2, b3, b4, b5⟩
    · have hc := (h.2.2.2.2.1 i v e a1 a2 a4 a5 (rn_va hE hb h0 h1).1 a3).2 j k h2
      rw [← cd_cong h3 6] at hc
      exact hsplit hc (by omega)
    · exact Or.inr ⟨q, v, b1, b2, b3, b4, by omega⟩
theorem rd_end (hE : Eok nb no E) (hb : nb < 7) (h0 : Va nb no g0) {tk : Nat} {mpl msh mse : Nat → Int32} {mq : Nat} (h : RD nb no W E g0 Cl tk mpl msh mse mq) (ha : ∀ i, i < mq → mse i ≠ 0) : Lst no W E g0 Cl (-1) := by
  refine Or.inl ⟨rfl, fun n g w hR hc => ?_⟩
  rcases rd_front hE hb h0 h hR with ⟨i, v, a1, a2, a3, a4, a5, a6⟩ | ⟨q, v, b1, b2, _⟩
  · exact (h.2.2.2.2.1 i v g a1 a2 a4 a5 (rn_va hE hb h0 hR).1 a3).1 hc
  · exact ha q b1 b2
theorem rd_found (hE : Eok nb no E) (hb : nb < 7) (h0 : Va nb no g0) {tk : Nat} {mpl msh mse : Nat → Int32} {mq i n u : Nat} {g : Nat → Int32} (h : RD nb no W E g0 Cl tk mpl msh mse mq) (hR : RN no W E g0 n g u) (hu : msh i = nI u) (hul : u < 1000000)
    (hmin : ∀ q, q < mq → mse q = 0 → msh i ≤ msh q) (hc : Cl g) : Lst no W E g0 Cl (msh i) := by
  refine Or.inr ⟨u, n, g, hu, hR, hc, fun n' g' w' r' c' => ?_⟩
  rcases rd_front hE hb h0 h r' with ⟨k, v, a1, a2, a3, a4, a5, a6⟩ | ⟨q, v, b1, b2, b3, b4, b5⟩
  · exact absurd c' (h.2.2.2.2.1 k v g' a1 a2 a4 a5 (rn_va hE hb h0 r').1 a3).1
  · have h5 := hmin q b1 b2
    rw [hu, b3] at h5
    have := (nI_leI (by omega) (by omega)).mp h5
    omega
theorem rs_settle {mpl msh mse : Nat → Int32} {mq i : Nat} (h : RS nb no W E g0 mpl msh mse mq) : RS nb no W E g0 mpl msh (upd mse i 1) mq := by
  refine ⟨h.1, h.2.1, fun k hk => ?_⟩
  by_cases z : k = i
  · subst z; rw [upd_eq]; exact Or.inr rfl
  · rw [upd_ne _ _ z]; exact h.2.2 k hk
theorem rd_step (hE : Eok nb no E) (hb : nb < 7) (h8 : no ≤ 8) (h0 : Va nb no g0) (hCl : ∀ g e, (∀ j, j < no → g j = e j) → Cl g → Cl e) {tk : Nat} {mpl msh mse : Nat → Int32} {mq i n u : Nat} {g9 : Nat → Int32} {mpl2 msh2 msl2 mse2 : Nat → Int32} {mq2 : Nat}
    (h : RD nb no W E g0 Cl tk mpl msh mse mq) (hi : i < mq) (hs : mse i = 0) (hR : RN no W E g0 n g9 u) (hp : mpl i = nI (cdN g9 nb no 6)) (hu : msh i = nI u) (hul : u ≤ 200000) (hmin : ∀ q, q < mq → mse q = 0 → msh i ≤ msh q) (hnc : ¬ Cl g9)
    (hT : RT nb no W E g0 u (u + 200) mpl msh (upd mse i 1) mq mpl2 msh2 msl2 mse2 mq2) (hcov : ∀ j k, j < no → k < nb → E g9 j k → cvd mpl2 msh2 mq2 (cdN (upd g9 j (nI k)) nb no 6) (u + W j)) : RD nb no W E g0 Cl (tk + 1) mpl2 msh2 mse2 mq2 := by
  obtain ⟨d1, d2, d3, d4, d5, d6⟩ := id h
  obtain ⟨k1, k2, k3, k4, k5⟩ := id hT
  have hu200 := d4 i u hi hu (by omega)
  have hset : ∀ q, q < mq2 → mse2 q ≠ 0 → q < mq ∧ (q = i ∨ mse q ≠ 0) := fun q hq hn => by
    by_cases z : q < mq
    · refine ⟨z, ?_⟩
      by_cases y : q = i
      · exact Or.inl y
      · refine Or.inr ?_
        rw [(k4 q z).2.1, upd_ne _ _ y] at hn
        exact hn
    · exact absurd (k5 q (by omega) hq).1 hn
  have hfix : ∀ q v, q < mq2 → mse2 q ≠ 0 → msh2 q = nI v → v < 1000000 → (q = i ∨ mse q ≠ 0) ∧ q < mq ∧ msh q = nI v ∧ v ≤ u := by
    intro q v hq hn e hv
    obtain ⟨z, y⟩ := hset q hq hn
    obtain ⟨n2, g2, v2, _, _, e2, l2⟩ := d1.1 q z
    have hle : v2 ≤ u := by
      rcases y with y | y
      · subst y
        have := nI_inj (e2.symm.trans hu) (by omega) (by omega)
        omega
      · exact d6 q v2 i u z y e2 l2 hi hs hu (by omega)
    have h5 := rt_fix (by omega) hT z e2 (by omega) l2
    have : v = v2 := nI_inj (e.symm.trans h5) (by omega) (by omega)
    subst this
    exact ⟨y, z, e2, hle⟩
  refine ⟨k1, ?_, rt_cvd (by omega) hT d3, fun q v hq e hv => ?_, fun q v g hq hn e hv hVg hpg => ?_, fun q v r z hq hn e hv hr hr0 er hz => ?_⟩
  · obtain ⟨d, rfl⟩ : ∃ d, mq2 = mq + d := ⟨mq2 - mq, by omega⟩
    have h1 := fb_ct_split (fun i => decide (mse2 i ≠ 0)) mq d
    have h2 : fb_ct (fun k => decide (mse2 (mq + k) ≠ 0)) d = 0 := fb_ct_zero.mpr fun k hk => decide_eq_false (fun z => z (k5 (mq + k) (by omega) (by omega)).1)
    have h3 : fb_ct (fun i => decide (mse2 i ≠ 0)) mq = fb_ct (fun k => if k = i then true else decide (mse k ≠ 0)) mq := fb_ct_cong fun k hk => by
      show decide (mse2 k ≠ 0) = if k = i then true else decide (mse k ≠ 0)
      rw [(k4 k hk).2.1]
      by_cases y : k = i
      · subst y; rw [upd_eq, if_pos rfl]; decide
      · rw [upd_ne _ _ y, if_neg y]
    have h4 := fb_ct_upd (fun k => decide (mse k ≠ 0)) true hi
    have h5 : decide (mse i ≠ 0) = false := decide_eq_false (fun z => z hs)
    simp only [h5] at h4
    simp at h1 h2 h3 h4 d2 ⊢
    omega
  · by_cases z : q < mq
    · rcases (k4 q z).2.2 with y | ⟨v', y, _, _, l⟩
      · have := d4 q v z (y.symm.trans e) hv
        omega
      · have : v = v' := nI_inj (e.symm.trans y) (by omega) (by omega)
        omega
    · obtain ⟨_, v', y, _, l⟩ := k5 q (by omega) hq
      have : v = v' := nI_inj (e.symm.trans y) (by omega) (by omega)
      omega
  · obtain ⟨y, z, e1, le⟩ := hfix q v hq hn e hv
    have hpq : mpl q = nI (cdN g nb no 6) := (k4 q z).1.symm.trans hpg
    rcases y with y | y
    · subst y
      have hvu : v = u := nI_inj (e1.symm.trans hu) (by omega) (by omega)
      subst hvu
      have hgg := cd_inj h8 hb hVg (rn_va hE hb h0 hR).1 (cd_nI h8 (hpq.symm.trans hp))
      refine ⟨fun x => hnc (hCl _ _ hgg x), fun j k he => ?_⟩
      have he9 := hE.2 _ _ j k hgg he
      have hjk := hE.1 _ _ _ he9
      rw [cd_cong (e := upd g9 j (nI k)) (fun r hr => ?_) 6]
      · exact hcov j k hjk.1 hjk.2.1 he9
      · by_cases y : r = j
        · subst y; rw [upd_eq, upd_eq]
        · rw [upd_ne _ _ y, upd_ne _ _ y, hgg r hr]
    · obtain ⟨b1, b2⟩ := d5 q v g z y e1 hv hVg hpq
      exact ⟨b1, fun j k he => rt_cvd (by omega) hT (b2 j k he)⟩
  · obtain ⟨_, _, _, le⟩ := hfix q v hq hn e hv
    by_cases y : r < mq
    · rcases (k4 r y).2.2 with x | ⟨v', x, _, l, _⟩
      · have hr2 : mse r = 0 := by
          rw [(k4 r y).2.1] at hr0
          by_cases w : r = i
          · subst w; rw [upd_eq] at hr0; exact absurd hr0 (by decide)
          · rw [upd_ne _ _ w] at hr0; exact hr0
        have h5 := hmin r y hr2
        rw [hu, x.symm.trans er] at h5
        have := (nI_leI (by omega) (by omega)).mp h5
        omega
      · have : z = v' := nI_inj (er.symm.trans x) (by omega) (by omega)
        omega
    · obtain ⟨_, v', x, l, _⟩ := k5 r (by omega) hr
      have : z = v' := nI_inj (er.symm.trans x) (by omega) (by omega)
      omega
end RDK
