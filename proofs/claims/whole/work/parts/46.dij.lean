/-! the least weight by taking the nearest place -/
def offL (pli : Nat → Int32) (nl p : Nat) : Prop := ∀ i, i < nl → pli i ≠ nI p
def CovR (nb no : Nat) (W : Nat → Nat) (E : (Nat → Int32) → Nat → Nat → Prop) (pb : Int32) (Cl : (Nat → Int32) → Prop) (pcd pw : Nat → Int32) (p u : Nat) : Prop :=
  ∀ g, CA pb no (pcd p) g → Va nb no g → ¬ Cl g ∧ ∀ j k, E g j k → pw (nmA nb no (upd g j (nI k))) ≤ nI (u + W j)
def DJ (nb no : Nat) (W : Nat → Nat) (E : (Nat → Int32) → Nat → Nat → Prop) (g0 : Nat → Int32) (pb : Int32) (Cl : (Nat → Int32) → Prop) (tk : Nat) (pcd pw pli : Nat → Int32) (nl : Nat) : Prop :=
  SI nb no W E g0 pb pcd pw pli nl ∧ cR pw = tk + nl ∧ pw (nmA nb no g0) = nI 0 ∧ (∀ p u, p < 720 → u < 1000000 → pw p = nI u → u ≤ 200 * tk) ∧
  (∀ p u, p < 720 → u < 1000000 → pw p = nI u → offL pli nl p → CovR nb no W E pb Cl pcd pw p u) ∧
  ∀ p u i x v, p < 720 → u < 1000000 → pw p = nI u → offL pli nl p → i < nl → pli i = nI x → x < 720 → pw x = nI v → v < 1000000 → u ≤ v
theorem nI_inj {a b : Nat} (h : nI a = nI b) (ha : a < 2 ^ 31) (hb : b < 2 ^ 31) : a = b := (nI_eq ha hb).mp h
theorem le_nr {x : Int32} {w : Nat} (h : x ≤ nI w) (hw : w < 1000000) : x ≠ 1000000 := fun z => by
  rw [z] at h
  have := (nI_leI (a := 1000000) (b := w) (by omega) (by omega)).mp h
  omega
section DJS
variable {nb no : Nat} {W : Nat → Nat} {E : (Nat → Int32) → Nat → Nat → Prop} {g0 : Nat → Int32} {pb : Int32} {Cl : (Nat → Int32) → Prop}
theorem cov_va (hE : Eok nb no E) (hb : nb < 7) {g : Nat → Int32} {j k : Nat} (hv : Va nb no g) (he : E g j k) : nmA nb no (upd g j (nI k)) < 720 := by
  obtain ⟨_, q2, q3, q4⟩ := hE.1 g j k he
  exact nmA_720 (va_upd hv hb q2 q3 q4).1 hb
/-- the place of an arrangement that is reached holds its code -/
theorem si_ca (hE : Eok nb no E) (hb : nb < 7) (h8 : no ≤ 8) (h0 : Va nb no g0) {pcd pw pli : Nat → Int32} {nl : Nat} (h : SI nb no W E g0 pb pcd pw pli nl) {n w : Nat} {g : Nat → Int32} (hR : RN no W E g0 n g w) (hn : pw (nmA nb no g) ≠ 1000000) :
    CA pb no (pcd (nmA nb no g)) g ∧ ∃ v, pw (nmA nb no g) = nI v ∧ v < 1000000 := by
  have hv := rn_va hE hb h0 hR
  rcases h.1 _ (nmA_720 hv.1 hb) with z | ⟨v, n2, g2, e1, e2, r2, c2, e3⟩
  · exact absurd z hn
  · have hv2 := rn_va hE hb h0 r2
    exact ⟨ca_cong c2 (nmA_inj hv2.1 hv.1 hb h8 (fun j hj => by rw [hv2.2 j hj, hv.2 j hj]) e3), v, e1, e2⟩
theorem dj_tk {tk : Nat} {pcd pw pli : Nat → Int32} {nl : Nat} (h : DJ nb no W E g0 pb Cl tk pcd pw pli nl) : tk + nl ≤ 720 := by
  have := fb_ct_le (rchd pw) 720
  have h2 := h.2.1
  unfold cR at h2
  omega
theorem dj_front (hE : Eok nb no E) (hb : nb < 7) (h8 : no ≤ 8) (h0 : Va nb no g0) (hW : ∀ j, j < no → W j ≤ 200) {tk : Nat} {pcd pw pli : Nat → Int32} {nl : Nat} (h : DJ nb no W E g0 pb Cl tk pcd pw pli nl) :
    ∀ {n : Nat} {g : Nat → Int32} {w : Nat}, RN no W E g0 n g w → (∃ v, v ≤ w ∧ v < 1000000 ∧ pw (nmA nb no g) = nI v ∧ offL pli nl (nmA nb no g)) ∨ ∃ i x v, i < nl ∧ pli i = nI x ∧ x < 720 ∧ pw x = nI v ∧ v < 1000000 ∧ v ≤ w := by
  have hsplit : ∀ {g : Nat → Int32} {w v : Nat}, nmA nb no g < 720 → v ≤ w → v < 1000000 → pw (nmA nb no g) = nI v → (∃ v, v ≤ w ∧ v < 1000000 ∧ pw (nmA nb no g) = nI v ∧ offL pli nl (nmA nb no g)) ∨ ∃ i x v, i < nl ∧ pli i = nI x ∧ x < 720 ∧ pw x = nI v ∧ v < 1000000 ∧ v ≤ w := by
    intro g w v hq h1 h2 h3
    by_cases hx : ∃ i, i < nl ∧ pli i = nI (nmA nb no g)
    · obtain ⟨i, a, b⟩ := hx
      exact Or.inr ⟨i, _, v, a, b, hq, h3, h2, h1⟩
    · exact Or.inl ⟨v, h1, h2, h3, fun i a b => hx ⟨i, a, b⟩⟩
  intro n
  induction n with
  | zero =>
    intro g w hR
    have hv := rn_va hE hb h0 hR
    refine hsplit (nmA_720 hv.1 hb) (Nat.zero_le _) (by omega) ?_
    rw [nmA_cong (e := g0) hR.1]
    exact h.2.2.1
  | succ n ih =>
    intro g w hR
    obtain ⟨e, j, k, u, h1, h2, h3, h4⟩ := id hR
    have hv := rn_va hE hb h0 hR
    rcases ih h1 with ⟨v, a1, a2, a3, a4⟩ | ⟨i, x, v, b1, b2, b3, b4, b5, b6⟩
    · have hve := rn_va hE hb h0 h1
      have hq := nmA_720 hve.1 hb
      obtain ⟨hce, _⟩ := si_ca hE hb h8 h0 h.1 h1 (by rw [a3]; exact nr_ne a2)
      have hcov := (h.2.2.2.2.1 _ v hq a2 a3 a4 e hce hve.1).2 j k h2
      rw [← nmA_cong h3] at hcov
      have hb2 := h.2.2.2.1 _ v hq a2 a3
      have hWj := hW j (hE.1 e j k h2).1
      have htk := dj_tk h
      obtain ⟨_, v2, e2, l2⟩ := si_ca hE hb h8 h0 h.1 hR (le_nr hcov (by omega))
      rw [e2] at hcov
      have := (nI_leI (by omega) (by omega)).mp hcov
      exact hsplit (nmA_720 hv.1 hb) (by omega) l2 e2
    · exact Or.inr ⟨i, x, v, b1, b2, b3, b4, b5, by omega⟩
theorem dj_end (hE : Eok nb no E) (hb : nb < 7) (h8 : no ≤ 8) (h0 : Va nb no g0) (hW : ∀ j, j < no → W j ≤ 200) {tk : Nat} {pcd pw pli : Nat → Int32} (h : DJ nb no W E g0 pb Cl tk pcd pw pli 0) : Lst no W E g0 Cl (-1) := by
  refine Or.inl ⟨rfl, fun n g w hR hc => ?_⟩
  have hv := rn_va hE hb h0 hR
  rcases dj_front hE hb h8 h0 hW h hR with ⟨v, a1, a2, a3, a4⟩ | ⟨i, x, v, b1, _⟩
  · obtain ⟨hce, _⟩ := si_ca hE hb h8 h0 h.1 hR (by rw [a3]; exact nr_ne a2)
    exact (h.2.2.2.2.1 _ v (nmA_720 hv.1 hb) a2 a3 a4 g hce hv.1).1 hc
  · exact absurd b1 (Nat.not_lt_zero _)
theorem dj_found (hE : Eok nb no E) (hb : nb < 7) (h8 : no ≤ 8) (h0 : Va nb no g0) (hW : ∀ j, j < no → W j ≤ 200) {tk : Nat} {pcd pw pli pli1 : Nat → Int32} {nl i q : Nat} (h : DJ nb no W E g0 pb Cl tk pcd pw pli nl) (ht : tkR pw pli nl i q pli1)
    (hc : ∀ g, CA pb no (pcd q) g → Va nb no g → Cl g) : Lst no W E g0 Cl (pw q) := by
  obtain ⟨hi, hq, hq7, hmin, _⟩ := ht
  obtain ⟨x, hx, ex, hne⟩ := h.1.2.1 i hi
  have : x = q := nI_inj (by rw [← ex, hq]) (by omega) (by omega)
  subst this
  rcases h.1.1 x hx with z | ⟨u, n, g, e1, e2, r, c, e3⟩
  · exact absurd z hne
  · refine Or.inr ⟨u, n, g, e1, r, hc g c (rn_va hE hb h0 r).1, fun n' g' w' r' c' => ?_⟩
    have hv := rn_va hE hb h0 r'
    rcases dj_front hE hb h8 h0 hW h r' with ⟨v, a1, a2, a3, a4⟩ | ⟨k, y, v, b1, b2, b3, b4, b5, b6⟩
    · obtain ⟨hce, _⟩ := si_ca hE hb h8 h0 h.1 r' (by rw [a3]; exact nr_ne a2)
      exact absurd c' (h.2.2.2.2.1 _ v (nmA_720 hv.1 hb) a2 a3 a4 g' hce hv.1).1
    · have h5 := hmin k y b1 b2 b3
      rw [e1, b4] at h5
      have := (nI_leI (by omega) (by omega)).mp h5
      omega
/-- a place off the list -/
theorem tk_si {pcd pw pli pli1 : Nat → Int32} {nl i q : Nat} (h : SI nb no W E g0 pb pcd pw pli nl) (ht : tkR pw pli nl i q pli1) : SI nb no W E g0 pb pcd pw pli1 (nl - 1) := by
  obtain ⟨hi, hq, hq7, hmin, rfl⟩ := ht
  refine ⟨h.1, fun k hk => ?_, fun k r hk hr e => ?_⟩
  · by_cases z : k = i
    · subst z; rw [upd_eq]; exact h.2.1 _ (by omega)
    · rw [upd_ne _ _ z]; exact h.2.1 k (by omega)
  · by_cases z : k = i
    · by_cases y : r = i
      · omega
      · subst z
        rw [upd_eq, upd_ne _ _ y] at e
        have := h.2.2 _ _ (by omega) (by omega) e
        omega
    · by_cases y : r = i
      · subst y
        rw [upd_eq, upd_ne _ _ z] at e
        have := h.2.2 _ _ (by omega) (by omega) e
        omega
      · rw [upd_ne _ _ z, upd_ne _ _ y] at e
        exact h.2.2 _ _ (by omega) (by omega) e
theorem tk_off {pw pli pli1 : Nat → Int32} {nl i q p : Nat} (ht : tkR pw pli nl i q pli1) (hp : p < 720) (h : offL pli1 (nl - 1) p) : offL pli nl p ∨ p = q := by
  obtain ⟨hi, hq, hq7, hmin, rfl⟩ := ht
  by_cases e : p = q
  · exact Or.inr e
  · refine Or.inl fun k hk z => ?_
    by_cases y : k = i
    · subst y
      exact e (nI_inj (by rw [← z, hq]) (by omega) (by omega))
    · by_cases x : k = nl - 1
      · refine h i (by omega) ?_
        rw [upd_eq, ← x]; exact z
      · refine h k (by omega) ?_
        rw [upd_ne _ _ y]; exact z
theorem tk_in {pw pli pli1 : Nat → Int32} {nl i q k x : Nat} (ht : tkR pw pli nl i q pli1) (hk : k < nl - 1) (h : pli1 k = nI x) : ∃ r, r < nl ∧ pli r = nI x := by
  obtain ⟨hi, hq, hq7, hmin, rfl⟩ := ht
  by_cases y : k = i
  · subst y
    rw [upd_eq] at h
    exact ⟨nl - 1, by omega, h⟩
  · rw [upd_ne _ _ y] at h
    exact ⟨k, by omega, h⟩
theorem dj_step (hE : Eok nb no E) (hb : nb < 7) (h8 : no ≤ 8) (h0 : Va nb no g0) (hCl : ∀ g e, (∀ j, j < no → g j = e j) → Cl g → Cl e) {tk : Nat} {pcd pw pli pli1 : Nat → Int32} {nl i q : Nat} {pcd2 pw2 pli2 : Nat → Int32} {nl2 : Nat} {n u : Nat} {g9 : Nat → Int32}
    (h : DJ nb no W E g0 pb Cl tk pcd pw pli nl) (ht : tkR pw pli nl i q pli1) (hR : RN no W E g0 n g9 u) (hC : CA pb no (pcd q) g9) (hu : pw q = nI u) (hu2 : u ≤ 200000) (hnc : ¬ Cl g9)
    (hG : GT nb no W E g0 pb u (u + 200) pcd pw pli1 (nl - 1) pcd2 pw2 pli2 nl2) (hcov : ∀ j k, j < no → k < nb → E g9 j k → pw2 (nmA nb no (upd g9 j (nI k))) ≤ nI (u + W j)) : DJ nb no W E g0 pb Cl (tk + 1) pcd2 pw2 pli2 nl2 := by
  obtain ⟨hi, hq, hq7, hmin, _⟩ := id ht
  have htk := dj_tk h
  obtain ⟨d1, d2, d3, d4, d5, d6⟩ := id h
  obtain ⟨k1, ⟨k2, k2b⟩, k3, k4, k5, k6, k7⟩ := id hG
  have hu200 := d4 q u hq7 (by omega) hu
  have h0v := nmA_720 h0 hb
  have hold : ∀ p v, p < 720 → v < 1000000 → pw2 p = nI v → offL pli2 nl2 p → (pw p = nI v ∧ v ≤ u) ∧ ((offL pli nl p) ∨ p = q) := by
    intro p v hp hv e ho
    have hne : pw p ≠ 1000000 := fun z => by
      obtain ⟨r, _, a, b⟩ := k7 p hp z (by rw [e]; exact nr_ne hv)
      exact ho r a b
    rcases d1.1 p hp with z | ⟨v0, _, _, e0, l0, _⟩
    · exact absurd z hne
    · have ho1 : offL pli1 (nl - 1) p := fun r hr z => ho r (by omega) (by rw [k3 r hr]; exact z)
      have h2 := tk_off ht hp ho1
      have hle : v0 ≤ u := by
        rcases h2 with z | z
        · exact d6 p v0 i q u hp l0 e0 z hi hq hq7 hu (by omega)
        · subst z
          have := nI_inj (e0.symm.trans hu) (by omega) (by omega)
          omega
      have hf := gt_fix hG (by omega) hp e0 (by omega)
      have hvv : v = v0 := nI_inj (e.symm.trans hf) (by omega) (by omega)
      subst hvv
      exact ⟨⟨e0, hle⟩, h2⟩
  refine ⟨k1, by omega, gt_fix hG (by omega) h0v d3 (by omega), fun p v hp hv e => ?_, fun p v hp hv e ho => ?_, fun p v r x z hp hv e ho hr ex hx ez hz => ?_⟩
  · rcases k5 p hp with y | ⟨v', y, _, _, l⟩
    · have := d4 p v hp hv (by rw [← y]; exact e)
      omega
    · have : v = v' := nI_inj (e.symm.trans y) (by omega) (by omega)
      omega
  · obtain ⟨⟨a1, a2⟩, a3⟩ := hold p v hp hv e ho
    have hpc : pcd2 p = pcd p := k4 p hp (by rw [a1]; exact nr_ne hv)
    intro g hCg hVg
    rw [hpc] at hCg
    rcases a3 with z | z
    · obtain ⟨b1, b2⟩ := d5 p v hp hv a1 z g hCg hVg
      exact ⟨b1, fun j k he => Int32.le_trans (gt_le hG (cov_va hE hb hVg he)) (b2 j k he)⟩
    · subst z
      have hvu : v = u := nI_inj (a1.symm.trans hu) (by omega) (by omega)
      subst hvu
      have hgg := ca_uniq hCg hC h8
      refine ⟨fun z => hnc (hCl _ _ hgg z), fun j k he => ?_⟩
      have he9 := hE.2 _ _ j k hgg he
      have hjk := hE.1 _ _ _ he9
      rw [nmA_cong (e := upd g9 j (nI k)) (fun r hr => ?_)]
      · exact hcov j k hjk.1 hjk.2.1 he9
      · by_cases y : r = j
        · subst y; rw [upd_eq, upd_eq]
        · rw [upd_ne _ _ y, upd_ne _ _ y, hgg r hr]
  · obtain ⟨⟨a1, a2⟩, _⟩ := hold p v hp hv e ho
    rcases k5 x hx with y | ⟨v', y, _, l, _⟩
    · have hxw : pw x = nI z := by rw [← y]; exact ez
      have hr1 : r < nl - 1 := Nat.lt_of_not_le fun hge => by
        obtain ⟨x', hx', e1, e2⟩ := k6 r hge hr
        have : x = x' := nI_inj (ex.symm.trans e1) (by omega) (by omega)
        subst this
        rw [hxw] at e2
        exact nr_ne hz e2
      obtain ⟨r2, hr2, er2⟩ := tk_in ht hr1 (by rw [← k3 r hr1]; exact ex)
      have h5 := hmin r2 x hr2 er2 hx
      rw [hu, hxw] at h5
      have := (nI_leI (by omega) (by omega)).mp h5
      omega
    · have : z = v' := nI_inj (ez.symm.trans y) (by omega) (by omega)
      omega
end DJS
