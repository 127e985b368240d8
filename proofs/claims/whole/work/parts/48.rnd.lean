/-! the least weight by rounds -/
def LA (pw pli : Nat → Int32) (nl : Nat) : Prop := ∀ p, p < 720 → pw p ≠ 1000000 → ∃ i, i < nl ∧ pli i = nI p
def IW (pw pli : Nat → Int32) (nl : Nat) : Prop := ∀ i x v, i < nl → pli i = nI x → x < 720 → pw x = nI v → v < 1000000 → v ≤ 200 * i
def OKw (nb no : Nat) (pw : Nat → Int32) (g : Nat → Int32) (w : Nat) : Prop := ∃ u, u < 1000000 ∧ u ≤ w ∧ pw (nmA nb no g) = nI u
def AF (nb no : Nat) (W : Nat → Nat) (E : (Nat → Int32) → Nat → Nat → Prop) (g0 : Nat → Int32) (pw : Nat → Int32) : Prop := ∀ n g w, RN no W E g0 n g w → OKw nb no pw g w
def FPw (nb no : Nat) (W : Nat → Nat) (E : (Nat → Int32) → Nat → Nat → Prop) (g0 : Nat → Int32) (pw : Nat → Int32) (p : Nat) : Prop := ∀ n g w, RN no W E g0 n g w → nmA nb no g = p → OKw nb no pw g w
noncomputable def fctW (nb no : Nat) (W : Nat → Nat) (E : (Nat → Int32) → Nat → Nat → Prop) (g0 : Nat → Int32) (pw : Nat → Int32) : Nat := fb_ct (fun p => @decide (FPw nb no W E g0 pw p) (Classical.propDecidable _)) 720
def RJ (nb no : Nat) (W : Nat → Nat) (E : (Nat → Int32) → Nat → Nat → Prop) (g0 : Nat → Int32) (pb : Int32) (rd : Nat) (less : Bool) (pcd pw pli : Nat → Int32) (nl : Nat) : Prop :=
  SI nb no W E g0 pb pcd pw pli nl ∧ LA pw pli nl ∧ IW pw pli nl ∧ pw (nmA nb no g0) = nI 0 ∧ (AF nb no W E g0 pw ∨ (less = true ∧ rd ≤ fctW nb no W E g0 pw))
def RI (nb no : Nat) (W : Nat → Nat) (E : (Nat → Int32) → Nat → Nat → Prop) (g0 : Nat → Int32) (pb : Int32) (pcd0 pw0 pli0 : Nat → Int32) (nl0 ix : Nat) (r : Bool) (pcd pw pli : Nat → Int32) (nl : Nat) : Prop :=
  GT nb no W E g0 pb 0 200000 pcd0 pw0 pli0 nl0 pcd pw pli nl ∧ (r = false → pw = pw0) ∧ LA pw pli nl ∧ IW pw pli nl ∧ ix ≤ nl ∧
  ∀ i x u, i < ix → x < 720 → pli i = nI x → u < 1000000 → pw0 x = nI u → ∀ g, CA pb no (pcd x) g → Va nb no g → ∀ j k, E g j k → pw (nmA nb no (upd g j (nI k))) ≤ nI (u + W j)
section RDS
variable {nb no : Nat} {W : Nat → Nat} {E : (Nat → Int32) → Nat → Nat → Prop} {g0 : Nat → Int32} {pb : Int32} {Cl : (Nat → Int32) → Prop}
theorem gt_weaken {lo hi lo2 hi2 : Nat} {pcd pw pli : Nat → Int32} {nl : Nat} {pcd' pw' pli' : Nat → Int32} {nl' : Nat} (h : GT nb no W E g0 pb lo hi pcd pw pli nl pcd' pw' pli' nl') (h1 : lo2 ≤ lo) (h2 : hi ≤ hi2) : GT nb no W E g0 pb lo2 hi2 pcd pw pli nl pcd' pw' pli' nl' := by
  obtain ⟨a1, a2, a3, a4, a5, a6, a7⟩ := h
  exact ⟨a1, a2, a3, a4, fun p hp => (a5 p hp).imp (fun z => z) (fun ⟨v, b1, b2, b3, b4⟩ => ⟨v, b1, b2, by omega, by omega⟩), a6, a7⟩
theorem si_u {pcd pw pli : Nat → Int32} {nl : Nat} (h : SI nb no W E g0 pb pcd pw pli nl) {p : Nat} (hp : p < 720) (hn : pw p ≠ 1000000) : ∃ u, pw p = nI u ∧ u < 1000000 := by
  rcases h.1 p hp with z | ⟨u, _, _, e, l, _⟩
  · exact absurd z hn
  · exact ⟨u, e, l⟩
theorem iw_le {pcd pw pli : Nat → Int32} {nl : Nat} (h : SI nb no W E g0 pb pcd pw pli nl) (hl : LA pw pli nl) (hi : IW pw pli nl) {p u : Nat} (hp : p < 720) (hu : u < 1000000) (e : pw p = nI u) : u ≤ 144000 := by
  obtain ⟨i, a, b⟩ := hl p hp (by rw [e]; exact nr_ne hu)
  have h1 := hi i p u a b hp e hu
  have h2 := si_nl h
  omega
theorem ok_le {pcd pw pli : Nat → Int32} {nl : Nat} (hE : Eok nb no E) (hb : nb < 7) (h0 : Va nb no g0) (h : SI nb no W E g0 pb pcd pw pli nl) {n w a : Nat} {g : Nat → Int32} (hR : RN no W E g0 n g w) (hle : pw (nmA nb no g) ≤ nI a) (ha : a ≤ w) (ha2 : a < 1000000) : OKw nb no pw g w := by
  have hv := rn_va hE hb h0 hR
  obtain ⟨u, e, l⟩ := si_u h (nmA_720 hv.1 hb) (le_nr hle ha2)
  rw [e] at hle
  have := (nI_leI (by omega) (by omega)).mp hle
  exact ⟨u, l, by omega, e⟩
theorem ri_start {pcd pw pli : Nat → Int32} {nl : Nat} (h : SI nb no W E g0 pb pcd pw pli nl) (hl : LA pw pli nl) (hi : IW pw pli nl) : RI nb no W E g0 pb pcd pw pli nl 0 false pcd pw pli nl :=
  ⟨gt_refl h, fun _ => rfl, hl, hi, Nat.zero_le _, fun i x u hi => absurd hi (Nat.not_lt_zero _)⟩
theorem ri_step (hE : Eok nb no E) (hb : nb < 7) (h8 : no ≤ 8) (hW : ∀ j, j < no → W j ≤ 200) {pcd0 pw0 pli0 : Nat → Int32} {nl0 ix x n u : Nat} {r r2 : Bool} {pcd pw pli : Nat → Int32} {nl : Nat} {pcd2 pw2 pli2 : Nat → Int32} {nl2 : Nat} {g9 : Nat → Int32}
    (h : RI nb no W E g0 pb pcd0 pw0 pli0 nl0 ix r pcd pw pli nl) (hx : ix < nl) (hq : pli ix = nI x) (hx7 : x < 720) (hu : pw x = nI u) (hul : u < 1000000) (hR : RN no W E g0 n g9 u) (hC : CA pb no (pcd x) g9)
    (hG : GT nb no W E g0 pb u (u + 200) pcd pw pli nl pcd2 pw2 pli2 nl2) (hr : r2 = false → pw2 = pw) (hcov : ∀ j k, j < no → k < nb → E g9 j k → pw2 (nmA nb no (upd g9 j (nI k))) ≤ nI (u + W j)) :
    ∀ r3 : Bool, (r3 = false → r = false ∧ r2 = false) → RI nb no W E g0 pb pcd0 pw0 pli0 nl0 (ix + 1) r3 pcd2 pw2 pli2 nl2 := by
  obtain ⟨a1, a2, a3, a4, a5, a6⟩ := h
  have hnl := si_nl a1.1
  have hu2 := a4 ix x u hx hq hx7 hu hul
  obtain ⟨k1, ⟨k2, k2b⟩, k3, k4, k5, k6, k7⟩ := id hG
  intro r3 hr3
  refine ⟨gt_trans (by omega) a1 (gt_weaken hG (by omega) (by omega)), fun z => (hr (hr3 z).2).trans (a2 (hr3 z).1), fun p hp hn => ?_, fun i y v hi ey hy ev hv => ?_, by omega, fun i y v hi hy ey hv ev g hg hvg j k he => ?_⟩
  · by_cases z : pw p = 1000000
    · obtain ⟨i, _, b, c⟩ := k7 p hp z hn
      exact ⟨i, b, c⟩
    · obtain ⟨i, b, c⟩ := a3 p hp z
      exact ⟨i, by omega, by rw [k3 i b, c]⟩
  · by_cases z : i < nl
    · have ey1 : pli i = nI y := by rw [← k3 i z]; exact ey
      obtain ⟨y', hy', e1, e2⟩ := a1.1.2.1 i z
      have : y = y' := nI_inj (ey1.symm.trans e1) (by omega) (by omega)
      subst this
      obtain ⟨v1, e3, l3⟩ := si_u a1.1 hy e2
      have h1 := a4 i y v1 z ey1 hy e3 l3
      have h2 := gt_le hG hy
      rw [ev, e3] at h2
      have := (nI_leI (by omega) (by omega)).mp h2
      omega
    · obtain ⟨y', hy', e1, e2⟩ := k6 i (by omega) hi
      have : y = y' := nI_inj (ey.symm.trans e1) (by omega) (by omega)
      subst this
      rcases k5 y hy with q | ⟨v', q, _, _, l⟩
      · rw [e2, ev] at q
        exact absurd q (nr_ne hv)
      · have : v = v' := nI_inj (ev.symm.trans q) (by omega) (by omega)
        omega
  · by_cases z : i < ix
    · have ey1 : pli i = nI y := by rw [← k3 i (by omega)]; exact ey
      obtain ⟨y', hy', e1, e2⟩ := a1.1.2.1 i (by omega)
      have : y = y' := nI_inj (ey1.symm.trans e1) (by omega) (by omega)
      subst this
      rw [k4 y hy e2] at hg
      exact Int32.le_trans (gt_le hG (cov_va hE hb hvg he)) (a6 i y v z hy ey1 hv ev g hg hvg j k he)
    · obtain rfl : i = ix := by omega
      have : y = x := nI_inj (by rw [← ey, k3 i hx, hq]) (by omega) (by omega)
      subst this
      rw [k4 y hy (by rw [hu]; exact nr_ne hul)] at hg
      have hgg := ca_uniq hg hC h8
      have he9 := hE.2 _ _ j k hgg he
      have hjk := hE.1 _ _ _ he9
      have h2 := gt_le a1 hy
      rw [hu, ev] at h2
      have huv := (nI_leI (by omega) (by omega)).mp h2
      rw [nmA_cong (e := upd g9 j (nI k)) (fun r hr => ?_)]
      · exact Int32.le_trans (hcov j k hjk.1 hjk.2.1 he9) (nI_le (by omega) (by have := hW j hjk.1; omega))
      · by_cases y : r = j
        · subst y; rw [upd_eq, upd_eq]
        · rw [upd_ne _ _ y, upd_ne _ _ y, hgg r hr]
theorem ri_end (hE : Eok nb no E) (hb : nb < 7) (h8 : no ≤ 8) (h0 : Va nb no g0) (hW : ∀ j, j < no → 1 ≤ W j ∧ W j ≤ 200) {rd : Nat} {less : Bool} {pcd0 pw0 pli0 : Nat → Int32} {nl0 ix : Nat} {r : Bool} {pcd pw pli : Nat → Int32} {nl : Nat}
    (hS : RJ nb no W E g0 pb rd less pcd0 pw0 pli0 nl0) (h : RI nb no W E g0 pb pcd0 pw0 pli0 nl0 ix r pcd pw pli nl) (hix : nl ≤ ix) : RJ nb no W E g0 pb (rd + 1) r pcd pw pli nl := by
  obtain ⟨s1, s2, s3, s4, s5⟩ := hS
  obtain ⟨a1, a2, a3, a4, a5, a6⟩ := h
  have h0v := nmA_720 h0 hb
  have hmono : ∀ {n g w}, RN no W E g0 n g w → OKw nb no pw0 g w → OKw nb no pw g w := by
    intro n g w hR ⟨u, l, le, e⟩
    have hq := nmA_720 (rn_va hE hb h0 hR).1 hb
    exact ok_le hE hb h0 a1.1 hR (by rw [← e]; exact gt_le a1 hq) le l
  have hst : pw (nmA nb no g0) = nI 0 := gt_fix a1 (by omega) h0v s4 (by omega)
  -- who was covered with u at the start of the round covers its next ones
  have hcv : ∀ {n e w g w2 j k u}, RN no W E g0 n e w → u < 1000000 → pw0 (nmA nb no e) = nI u → u ≤ w → E e j k → RN no W E g0 (n + 1) g w2 → (∀ i, i < no → g i = upd e j (nI k) i) → w2 = w + W j → OKw nb no pw g w2 := by
    intro n e w g w2 j k u hR l eu le he hR2 hg hw
    have hv := rn_va hE hb h0 hR
    have hq := nmA_720 hv.1 hb
    have hne := gt_nr (by omega) a1 hq (by rw [eu]; exact nr_ne l)
    obtain ⟨i, b1, b2⟩ := a3 _ hq hne
    obtain ⟨c1, _⟩ := si_ca hE hb h8 h0 a1.1 hR hne
    have h5 := a6 i _ u (by omega) hq b2 l eu e c1 hv.1 j k he
    rw [← nmA_cong hg] at h5
    have hu := iw_le s1 s2 s3 hq l eu
    have hWj := hW j (hE.1 _ _ _ he).1
    exact ok_le hE hb h0 a1.1 hR2 h5 (by omega) (by omega)
  refine ⟨a1.1, a3, a4, hst, ?_⟩
  rcases s5 with s5 | ⟨s5, s6⟩
  · exact Or.inl fun n g w hR => hmono hR (s5 n g w hR)
  by_cases hA : AF nb no W E g0 pw
  · exact Or.inl hA
  refine Or.inr ⟨?_, ?_⟩
  · cases r with
    | true => rfl
    | false =>
      refine absurd ?_ hA
      have e9 := a2 rfl
      intro n
      induction n with
      | zero =>
        intro g w hR
        exact ⟨0, by omega, Nat.zero_le _, by rw [nmA_cong hR.1]; exact hst⟩
      | succ n ih =>
        intro g w hR
        obtain ⟨e, j, k, u, h1, h2, h3, h4⟩ := id hR
        obtain ⟨v, l, le, ev⟩ := ih e u h1
        rw [e9] at ev
        exact hcv h1 l ev le h2 hR h3 h4
  · have hnA : ¬ AF nb no W E g0 pw0 := fun z => hA fun n g w hR => hmono hR (z n g w hR)
    have hex : ∃ w, ∃ n g, RN no W E g0 n g w ∧ ¬ OKw nb no pw0 g w := Classical.byContradiction fun z => hnA fun n g w hR => Classical.byContradiction fun y => z ⟨w, n, g, hR, y⟩
    obtain ⟨w0, hw0⟩ := hex
    obtain ⟨w, ⟨n, g, hR, hno⟩, hmin⟩ := least_ex (B := fun w => ∃ n g, RN no W E g0 n g w ∧ ¬ OKw nb no pw0 g w) hw0
    have hmin2 : ∀ {n' g' w'}, RN no W E g0 n' g' w' → w' < w → OKw nb no pw0 g' w' := fun r l => Classical.byContradiction fun y => hmin _ l ⟨_, _, r, y⟩
    have hok : OKw nb no pw g w := by
      cases n with
      | zero => exact absurd ⟨0, by omega, Nat.zero_le _, by rw [nmA_cong hR.1]; exact s4⟩ hno
      | succ n =>
        obtain ⟨e, j, k, u, h1, h2, h3, h4⟩ := id hR
        obtain ⟨v, l, le, ev⟩ := hmin2 h1 (by have := (hW j (hE.1 _ _ _ h2).1).1; omega)
        exact hcv h1 l ev le h2 hR h3 h4
    have hq := nmA_720 (rn_va hE hb h0 hR).1 hb
    have hlt : fctW nb no W E g0 pw0 + 1 ≤ fctW nb no W E g0 pw := by
      refine ct_lt (j := nmA nb no g) (fun p _ hp => ?_) hq ?_ ?_
      · have h1 := @of_decide_eq_true _ (Classical.propDecidable _) hp
        exact @decide_eq_true _ (Classical.propDecidable _) (fun n' g' w' r e => hmono r (h1 n' g' w' r e))
      · exact @decide_eq_false _ (Classical.propDecidable _) (fun z => hno (z n g w hR rfl))
      · refine @decide_eq_true _ (Classical.propDecidable _) (fun n' g' w' r e => ?_)
        rcases Nat.lt_or_ge w' w with y | y
        · exact hmono r (hmin2 r y)
        · obtain ⟨u, l, le, eu⟩ := hok
          exact ⟨u, l, by omega, by rw [e]; exact eu⟩
    omega
theorem rj_end (hE : Eok nb no E) (hb : nb < 7) (h0 : Va nb no g0) {rd : Nat} {less : Bool} {pcd pw pli : Nat → Int32} {nl : Nat} (h : RJ nb no W E g0 pb rd less pcd pw pli nl) (hx : 720 ≤ rd ∨ less = false) : AF nb no W E g0 pw := by
  rcases h.2.2.2.2 with z | ⟨z, y⟩
  · exact z
  · rcases hx with x | x
    · intro n g w hR
      have := ct_full (Nat.le_trans x y) _ (nmA_720 (rn_va hE hb h0 hR).1 hb)
      exact @of_decide_eq_true _ (Classical.propDecidable _) this n g w hR rfl
    · rw [z] at x; cases x
def LcR (clr : Nat → Bool) (pw pli : Nat → Int32) (nl : Nat) (v : Int32) : Prop :=
  (v = -1 ∧ ∀ i x, i < nl → pli i = nI x → x < 720 → clr x = false) ∨ ∃ i x u, i < nl ∧ pli i = nI x ∧ x < 720 ∧ clr x = true ∧ pw x = nI u ∧ u < 1000000 ∧ v = nI u ∧ ∀ k y, k < nl → pli k = nI y → y < 720 → clr y = true → nI u ≤ pw y
theorem lc_skip {clr : Nat → Bool} {pw pli : Nat → Int32} {k x : Nat} {v : Int32} (h : LcR clr pw pli k v) (ex : pli k = nI x) (hx : x < 720) (hc : clr x = false) : LcR clr pw pli (k + 1) v := by
  rcases h with ⟨h1, h2⟩ | ⟨i, y, u, a1, a2, a3, a4, a5, a6, a7, a8⟩
  · refine Or.inl ⟨h1, fun i z hi ez hz => ?_⟩
    rcases Nat.lt_or_ge i k with q | q
    · exact h2 i z q ez hz
    · obtain rfl : i = k := by omega
      have : z = x := nI_inj (ez.symm.trans ex) (by omega) (by omega)
      rw [this]; exact hc
  · refine Or.inr ⟨i, y, u, by omega, a2, a3, a4, a5, a6, a7, fun i z hi ez hz hcz => ?_⟩
    rcases Nat.lt_or_ge i k with q | q
    · exact a8 i z q ez hz hcz
    · obtain rfl : i = k := by omega
      have : z = x := nI_inj (ez.symm.trans ex) (by omega) (by omega)
      rw [this, hc] at hcz; cases hcz
theorem lc_keep {clr : Nat → Bool} {pw pli : Nat → Int32} {k x : Nat} {v : Int32} (h : LcR clr pw pli k v) (ex : pli k = nI x) (hx : x < 720) (hv : ¬ v = -1) (hle : v ≤ pw x) : LcR clr pw pli (k + 1) v := by
  rcases h with ⟨h1, h2⟩ | ⟨i, y, u, a1, a2, a3, a4, a5, a6, a7, a8⟩
  · exact absurd h1 hv
  · refine Or.inr ⟨i, y, u, by omega, a2, a3, a4, a5, a6, a7, fun i z hi ez hz hcz => ?_⟩
    rcases Nat.lt_or_ge i k with q | q
    · exact a8 i z q ez hz hcz
    · obtain rfl : i = k := by omega
      have : z = x := nI_inj (ez.symm.trans ex) (by omega) (by omega)
      rw [this, ← a7]; exact hle
theorem lc_new {clr : Nat → Bool} {pw pli : Nat → Int32} {k x u : Nat} {v : Int32} (h : LcR clr pw pli k v) (ex : pli k = nI x) (hx : x < 720) (hc : clr x = true) (hu : pw x = nI u) (hl : u < 1000000) (hv : v = -1 ∨ pw x < v) : LcR clr pw pli (k + 1) (pw x) := by
  refine Or.inr ⟨k, x, u, by omega, ex, hx, hc, hu, hl, hu, fun i z hi ez hz hcz => ?_⟩
  rcases Nat.lt_or_ge i k with q | q
  · rcases h with ⟨h1, h2⟩ | ⟨i', y, u', a1, a2, a3, a4, a5, a6, a7, a8⟩
    · rw [h2 i z q ez hz] at hcz; cases hcz
    · rcases hv with w | w
      · rw [a7] at w; exact absurd w (nI_m1 (by omega))
      · rw [← hu]
        exact Int32.le_trans (Int32.le_of_lt w) (by rw [a7]; exact a8 i z q ez hz hcz)
  · obtain rfl : i = k := by omega
    have : z = x := nI_inj (ez.symm.trans ex) (by omega) (by omega)
    rw [this, hu]; exact Int32.le_refl _
theorem lc_lst (hE : Eok nb no E) (hb : nb < 7) (h8 : no ≤ 8) (h0 : Va nb no g0) {bi : Nat → Int32} {j : Nat} (hCl : ClC nb no pb bi j Cl) {pcd pw pli : Nat → Int32} {nl : Nat} (h : SI nb no W E g0 pb pcd pw pli nl) (hl : LA pw pli nl) (hA : AF nb no W E g0 pw) {v : Int32}
    (hv : LcR (fun x => clrC pcd pb bi nb x j) pw pli nl v) : Lst no W E g0 Cl v := by
  have hfind : ∀ {n g w}, RN no W E g0 n g w → Cl g → ∃ i u, i < nl ∧ pli i = nI (nmA nb no g) ∧ nmA nb no g < 720 ∧ clrC pcd pb bi nb (nmA nb no g) j = true ∧ pw (nmA nb no g) = nI u ∧ u ≤ w ∧ u < 1000000 := by
    intro n g w hR hc
    have hv := rn_va hE hb h0 hR
    have hq := nmA_720 hv.1 hb
    obtain ⟨u, l, le, e⟩ := hA n g w hR
    have hne : pw (nmA nb no g) ≠ 1000000 := by rw [e]; exact nr_ne l
    obtain ⟨i, b1, b2⟩ := hl _ hq hne
    exact ⟨i, u, b1, b2, hq, (hCl.2 pcd _ g (si_ca hE hb h8 h0 h hR hne).1 hv.1).mpr hc, e, le, l⟩
  rcases hv with ⟨h1, h2⟩ | ⟨i, x, u, a1, a2, a3, a4, a5, a6, a7, a8⟩
  · refine Or.inl ⟨h1, fun n g w hR hc => ?_⟩
    obtain ⟨i, u, b1, b2, b3, b4, _⟩ := hfind hR hc
    have := h2 i _ b1 b2 b3
    rw [show clrC pcd pb bi nb (nmA nb no g) j = false from this] at b4
    cases b4
  · rcases h.1 x a3 with z | ⟨u2, n, g, e1, e2, r, c, e3⟩
    · rw [a5] at z; exact absurd z (nr_ne a6)
    · have : u = u2 := nI_inj (a5.symm.trans e1) (by omega) (by omega)
      subst this
      refine Or.inr ⟨u, n, g, a7, r, (hCl.2 pcd x g c (rn_va hE hb h0 r).1).mp a4, fun n' g' w' r' c' => ?_⟩
      obtain ⟨i, u', b1, b2, b3, b4, b5, b6, b7⟩ := hfind r' c'
      have h5 := a8 i _ b1 b2 b3 b4
      rw [b5] at h5
      have := (nI_leI (by omega) (by omega)).mp h5
      omega
theorem rj_start {ob pcd pw pli : Nat → Int32} (hb : nb < 7) (hva : Va nb no (gB ob nb)) (h : stR nb no ob pcd pw pli) : RJ nb no W E (gB ob nb) (beS ob nb no) 0 true pcd pw pli 1 := by
  obtain ⟨a1, a2, a3, a4, a5⟩ := st_si (W := W) (E := E) hb hva h
  refine ⟨a1, fun p hp hn => ⟨0, by omega, by rw [a5 p hp hn]; exact a4⟩, fun i x v hi ex hx ev hv => ?_, a3, Or.inr ⟨rfl, Nat.zero_le _⟩⟩
  obtain rfl : i = 0 := by omega
  have : x = nmA nb no (gB ob nb) := nI_inj (ex.symm.trans a4) (by omega) (by have := nmA_720 hva hb; omega)
  subst this
  have := nI_inj (ev.symm.trans a3) (by omega) (by omega)
  omega
end RDS
