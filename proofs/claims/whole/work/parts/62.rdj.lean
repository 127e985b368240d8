/-! the reference's search: places in the order in which they are met -/
def RS (nb no : Nat) (W : Nat → Nat) (E : (Nat → Int32) → Nat → Nat → Prop) (g0 : Nat → Int32) (mpl msh mse : Nat → Int32) (mq : Nat) : Prop :=
  (∀ i, i < mq → ∃ n g u, RN no W E g0 n g u ∧ mpl i = nI (cdN g nb no 6) ∧ msh i = nI u ∧ u < 1000000) ∧ (∀ i k, i < mq → k < mq → mpl i = mpl k → i = k) ∧ ∀ i, i < mq → mse i = 0 ∨ mse i = 1
def RT (nb no : Nat) (W : Nat → Nat) (E : (Nat → Int32) → Nat → Nat → Prop) (g0 : Nat → Int32) (lo hi : Nat) (mpl msh mse : Nat → Int32) (mq : Nat) (mpl' msh' msl' mse' : Nat → Int32) (mq' : Nat) : Prop :=
  RS nb no W E g0 mpl' msh' mse' mq' ∧ HS mpl' msl' mq' ∧ mq ≤ mq' ∧ (∀ i, i < mq → mpl' i = mpl i ∧ mse' i = mse i ∧ (msh' i = msh i ∨ ∃ v, msh' i = nI v ∧ nI v < msh i ∧ lo < v ∧ v ≤ hi)) ∧
  ∀ i, mq ≤ i → i < mq' → mse' i = 0 ∧ ∃ v, msh' i = nI v ∧ lo < v ∧ v ≤ hi
def cvd (mpl msh : Nat → Int32) (mq c a : Nat) : Prop := ∃ q v, q < mq ∧ mpl q = nI c ∧ msh q = nI v ∧ v < 1000000 ∧ v ≤ a
section RDJ
variable {nb no : Nat} {W : Nat → Nat} {E : (Nat → Int32) → Nat → Nat → Prop} {g0 : Nat → Int32} {Cl : (Nat → Int32) → Prop}
theorem cd_nI {g e : Nat → Int32} (h8 : no ≤ 8) (h : nI (cdN g nb no 6) = nI (cdN e nb no 6)) : cdN g nb no 6 = cdN e nb no 6 := by
  have h1 := cd_6 (g := g) (nb := nb) (k := 6) h8 (Nat.le_refl _)
  have h2 := cd_6 (g := e) (nb := nb) (k := 6) h8 (Nat.le_refl _)
  exact nI_inj h (by omega) (by omega)
theorem rs_720 (hE : Eok nb no E) (hb : nb < 7) (h8 : no ≤ 8) (h0 : Va nb no g0) {mpl msh mse : Nat → Int32} {mq : Nat} (h : RS nb no W E g0 mpl msh mse mq) : mq ≤ 720 := by
  have hx : ∀ i, ∃ g : Nat → Int32, i < mq → ∃ n u, RN no W E g0 n g u ∧ mpl i = nI (cdN g nb no 6) := fun i => by
    by_cases z : i < mq
    · obtain ⟨n, g, u, a, b, _⟩ := h.1 i z
      exact ⟨g, fun _ => ⟨n, u, a, b⟩⟩
    · exact ⟨g0, fun y => absurd y z⟩
  obtain ⟨f, hf⟩ := Classical.axiomOfChoice hx
  refine fb_holes 720 mq (fun i => nmA nb no (f i)) (fun i hi => ?_) (fun i j hij hj e => ?_)
  · obtain ⟨n, u, a, _⟩ := hf i hi
    exact nmA_720 (rn_va hE hb h0 a).1 hb
  · obtain ⟨n, u, a, ea⟩ := hf i (by omega)
    obtain ⟨n2, u2, b, eb⟩ := hf j hj
    have va := rn_va hE hb h0 a
    have vb := rn_va hE hb h0 b
    have hg := nmA_inj va.1 vb.1 hb h8 (fun r hr => by rw [va.2 r hr, vb.2 r hr]) e
    have := h.2.1 i j (by omega) hj (by rw [ea, eb, cd_cong hg])
    omega
theorem rs_new {mpl msh mse : Nat → Int32} {mq n w : Nat} {g : Nat → Int32} (h : RS nb no W E g0 mpl msh mse mq) (hR : RN no W E g0 n g w) (hw : w < 1000000) (hn : ∀ i, i < mq → mpl i ≠ nI (cdN g nb no 6)) :
    RS nb no W E g0 (upd mpl mq (nI (cdN g nb no 6))) (upd msh mq (nI w)) (upd mse mq 0) (mq + 1) := by
  refine ⟨fun i hi => ?_, fun i k hi hk e => ?_, fun i hi => ?_⟩
  · by_cases z : i = mq
    · subst z; rw [upd_eq, upd_eq]; exact ⟨n, g, w, hR, rfl, rfl, hw⟩
    · rw [upd_ne _ _ z, upd_ne _ _ z]; exact h.1 i (by omega)
  · by_cases z : i = mq
    · by_cases y : k = mq
      · omega
      · subst z
        rw [upd_eq, upd_ne _ _ y] at e
        exact absurd e.symm (hn k (by omega))
    · by_cases y : k = mq
      · subst y
        rw [upd_eq, upd_ne _ _ z] at e
        exact absurd e (hn i (by omega))
      · rw [upd_ne _ _ z, upd_ne _ _ y] at e
        exact h.2.1 i k (by omega) (by omega) e
  · by_cases z : i = mq
    · subst z; rw [upd_eq]; exact Or.inl rfl
    · rw [upd_ne _ _ z]; exact h.2.2 i (by omega)
theorem rs_room (hE : Eok nb no E) (hb : nb < 7) (h8 : no ≤ 8) (h0 : Va nb no g0) {mpl msh mse : Nat → Int32} {mq n w : Nat} {g : Nat → Int32} (h : RS nb no W E g0 mpl msh mse mq) (hR : RN no W E g0 n g w) (hw : w < 1000000) (hn : ∀ i, i < mq → mpl i ≠ nI (cdN g nb no 6)) : mq < 720 :=
  rs_720 hE hb h8 h0 (rs_new h hR hw hn)
theorem rt_refl {lo hi : Nat} {mpl msh mse msl : Nat → Int32} {mq : Nat} (h : RS nb no W E g0 mpl msh mse mq) (h2 : HS mpl msl mq) : RT nb no W E g0 lo hi mpl msh mse mq mpl msh msl mse mq :=
  ⟨h, h2, Nat.le_refl _, fun i _ => ⟨rfl, rfl, Or.inl rfl⟩, fun i a b => by omega⟩
theorem rt_trans {lo hi : Nat} {mpl msh mse : Nat → Int32} {mq : Nat} {mpl1 msh1 msl1 mse1 : Nat → Int32} {mq1 : Nat} {mpl2 msh2 msl2 mse2 : Nat → Int32} {mq2 : Nat}
    (h : RT nb no W E g0 lo hi mpl msh mse mq mpl1 msh1 msl1 mse1 mq1) (k : RT nb no W E g0 lo hi mpl1 msh1 mse1 mq1 mpl2 msh2 msl2 mse2 mq2) : RT nb no W E g0 lo hi mpl msh mse mq mpl2 msh2 msl2 mse2 mq2 := by
  obtain ⟨h1, h2, h3, h4, h5⟩ := h
  obtain ⟨k1, k2, k3, k4, k5⟩ := k
  refine ⟨k1, k2, by omega, fun i hi => ?_, fun i a b => ?_⟩
  · obtain ⟨a1, a2, a3⟩ := h4 i hi
    obtain ⟨b1, b2, b3⟩ := k4 i (by omega)
    refine ⟨b1.trans a1, b2.trans a2, ?_⟩
    rcases b3 with z | ⟨v, e, l, q⟩
    · rw [z]; exact a3
    · refine Or.inr ⟨v, e, ?_, q⟩
      rcases a3 with y | ⟨v1, e1, l1, _⟩
      · rw [← y]; exact l
      · exact Int32.lt_trans l (by rw [e1]; exact l1)
  · by_cases z : i < mq1
    · obtain ⟨a1, v, e, q⟩ := h5 i a z
      obtain ⟨b1, b2, b3⟩ := k4 i z
      refine ⟨b2.trans a1, ?_⟩
      rcases b3 with y | ⟨v2, e2, _, q2⟩
      · exact ⟨v, y.trans e, q⟩
      · exact ⟨v2, e2, q2⟩
    · exact k5 i (by omega) b
theorem rt_meets {lo hi : Nat} (hE : Eok nb no E) (hb : nb < 7) (h8 : no ≤ 8) (h0 : Va nb no g0) {mpl msh msl mse : Nat → Int32} {mq n w : Nat} {g : Nat → Int32} {mpl9 msh9 msl9 mse9 : Nat → Int32} {mp9 : Nat} (h : RS nb no W E g0 mpl msh mse mq) (h2 : HS mpl msl mq) (hR : RN no W E g0 n g w)
    (hw : lo < w) (hw2 : w ≤ hi) (hh : hi < 1000000) (hm : MtR mpl msh msl mse mq (nI (cdN g nb no 6)) (nI w) mpl9 msh9 msl9 mse9 mp9) :
    RT nb no W E g0 lo hi mpl msh mse mq mpl9 msh9 msl9 mse9 mp9 ∧ cvd mpl9 msh9 mp9 (cdN g nb no 6) w := by
  rcases hm with ⟨i, hi, e, rfl, rfl, rfl, rfl, hs⟩ | ⟨hn, rfl, rfl, rfl, rfl, hs⟩
  · obtain ⟨n2, g2, u, r2, e2, eu, lu⟩ := h.1 i hi
    rcases hs with ⟨z, rfl⟩ | ⟨z, rfl⟩
    · refine ⟨⟨⟨fun k hk => ?_, h.2.1, h.2.2⟩, h2, Nat.le_refl _, fun k hk => ⟨rfl, rfl, ?_⟩, fun k a b => by omega⟩, i, w, hi, e, upd_eq _ _ _, by omega, Nat.le_refl _⟩
      · by_cases y : k = i
        · subst y
          refine ⟨n, g, w, hR, e, upd_eq _ _ _, by omega⟩
        · rw [upd_ne _ _ y]; exact h.1 k hk
      · by_cases y : k = i
        · subst y; exact Or.inr ⟨w, upd_eq _ _ _, z, hw, hw2⟩
        · exact Or.inl (upd_ne _ _ y)
    · refine ⟨rt_refl h h2, i, u, hi, e, eu, lu, ?_⟩
      rw [eu] at z
      exact Nat.le_of_not_lt fun y => z (nI_lt y (by omega))
  · refine ⟨⟨rs_new h hR (by omega) hn, hs, by omega, fun k hk => ⟨upd_ne _ _ (by omega), upd_ne _ _ (by omega), Or.inl (upd_ne _ _ (by omega))⟩, fun k a b => ?_⟩, mq, w, by omega, upd_eq _ _ _, upd_eq _ _ _, by omega, Nat.le_refl _⟩
    obtain rfl : k = mq := by omega
    exact ⟨upd_eq _ _ _, w, upd_eq _ _ _, hw, hw2⟩
theorem rt_cvd {lo hi : Nat} (hh : hi < 1000000) {mpl msh mse : Nat → Int32} {mq : Nat} {mpl1 msh1 msl1 mse1 : Nat → Int32} {mq1 c a : Nat} (h : RT nb no W E g0 lo hi mpl msh mse mq mpl1 msh1 msl1 mse1 mq1) (k : cvd mpl msh mq c a) : cvd mpl1 msh1 mq1 c a := by
  obtain ⟨q, v, hq, e1, e2, l, le⟩ := k
  obtain ⟨a1, a2, a3⟩ := h.2.2.2.1 q hq
  have := h.2.2.1
  rcases a3 with z | ⟨u, z, y, _, l2⟩
  · exact ⟨q, v, by omega, a1.trans e1, z.trans e2, l, le⟩
  · rw [e2] at y
    have := (nI_ltI (by omega) (by omega)).mp y
    exact ⟨q, u, by omega, a1.trans e1, z, by omega, by omega⟩
theorem rt_fix {lo hi : Nat} (hh : hi < 1000000) {mpl msh mse : Nat → Int32} {mq : Nat} {mpl1 msh1 msl1 mse1 : Nat → Int32} {mq1 i u : Nat} (h : RT nb no W E g0 lo hi mpl msh mse mq mpl1 msh1 msl1 mse1 mq1) (hi2 : i < mq) (hu : msh i = nI u) (hl : u ≤ lo + 1) (hul : u < 1000000) : msh1 i = nI u := by
  rcases (h.2.2.2.1 i hi2).2.2 with z | ⟨v, z, y, l, l2⟩
  · exact z.trans hu
  · rw [hu] at y
    have := (nI_ltI (by omega) (by omega)).mp y
    omega
end RDJ
theorem upd_back (f : Nat → Int32) (j : Nat) (v : Int32) : upd (upd f j v) j (f j) = f := by
  funext k
  by_cases z : k = j
  · subst z; rw [upd_eq]
  · rw [upd_ne _ _ z, upd_ne _ _ z]
def EdM (nb no : Nat) (cap : Int32) (olf fr ow ol bw bl : Nat → Int32) (Ed : (Nat → Int32) → Nat → Nat → Prop) : Prop := ∀ g j k, j < no → k < nb → (Ed g j k ↔ seM cap g olf fr ow ol bw bl no j k = 110)
