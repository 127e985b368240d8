/-! the state of a search, and how it goes on -/
def rchd (pw : Nat → Int32) (p : Nat) : Bool := decide (pw p ≠ 1000000)
def cR (pw : Nat → Int32) : Nat := fb_ct (rchd pw) 720
theorem nr_ne {w : Nat} (h : w < 1000000) : nI w ≠ 1000000 := fun z => by
  have := (nI_eq (a := w) (b := 1000000) (by omega) (by omega)).mp z
  omega
def SI (nb no : Nat) (W : Nat → Nat) (E : (Nat → Int32) → Nat → Nat → Prop) (g0 : Nat → Int32) (pb : Int32) (pcd pw pli : Nat → Int32) (nl : Nat) : Prop :=
  (∀ p, p < 720 → pw p = 1000000 ∨ ∃ w n g, pw p = nI w ∧ w < 1000000 ∧ RN no W E g0 n g w ∧ CA pb no (pcd p) g ∧ nmA nb no g = p) ∧
  (∀ i, i < nl → ∃ p, p < 720 ∧ pli i = nI p ∧ pw p ≠ 1000000) ∧ ∀ i k, i < nl → k < nl → pli i = pli k → i = k
def GT (nb no : Nat) (W : Nat → Nat) (E : (Nat → Int32) → Nat → Nat → Prop) (g0 : Nat → Int32) (pb : Int32) (lo hi : Nat) (pcd pw pli : Nat → Int32) (nl : Nat) (pcd' pw' pli' : Nat → Int32) (nl' : Nat) : Prop :=
  SI nb no W E g0 pb pcd' pw' pli' nl' ∧ (nl ≤ nl' ∧ cR pw' + nl = cR pw + nl') ∧ (∀ i, i < nl → pli' i = pli i) ∧ (∀ p, p < 720 → pw p ≠ 1000000 → pcd' p = pcd p) ∧
  (∀ p, p < 720 → pw' p = pw p ∨ ∃ v, pw' p = nI v ∧ nI v < pw p ∧ lo < v ∧ v ≤ hi) ∧
  (∀ i, nl ≤ i → i < nl' → ∃ p, p < 720 ∧ pli' i = nI p ∧ pw p = 1000000) ∧
  ∀ p, p < 720 → pw p = 1000000 → pw' p ≠ 1000000 → ∃ i, nl ≤ i ∧ i < nl' ∧ pli' i = nI p
section SIS
variable {nb no : Nat} {W : Nat → Nat} {E : (Nat → Int32) → Nat → Nat → Prop} {g0 : Nat → Int32} {pb : Int32}
theorem si_room {pcd pw pli : Nat → Int32} {nl : Nat} (h : SI nb no W E g0 pb pcd pw pli nl) {q : Nat} (hq : q < 720) (hn : pw q = 1000000) : nl < 720 := by
  have := fb_holes 720 (nl + 1) (fun i => if i < nl then nN (pli i) else q) (fun i hi => ?_) (fun i k hik hk => ?_)
  · omega
  · show (if i < nl then nN (pli i) else q) < 720
    split
    · rename_i z
      obtain ⟨p, hp, e, _⟩ := h.2.1 i z
      rw [e]
      rw [show nN (nI p) = p from nI_clamp (by omega)]; exact hp
    · exact hq
  · show (if i < nl then nN (pli i) else q) ≠ (if k < nl then nN (pli k) else q)
    obtain ⟨p, hp, e, h1⟩ := h.2.1 i (by omega)
    have e1 : nN (pli i) = p := by rw [e]; exact nI_clamp (by omega)
    rw [if_pos (show i < nl by omega), e1]
    split
    · rename_i z
      obtain ⟨r, hr, e2, h2⟩ := h.2.1 k z
      have e3 : nN (pli k) = r := by rw [e2]; exact nI_clamp (by omega)
      rw [e3]
      intro y
      have := h.2.2 i k (by omega) z (by rw [e, e2, y])
      omega
    · intro y
      rw [y] at h1
      exact h1 hn
theorem si_nl {pcd pw pli : Nat → Int32} {nl : Nat} (h : SI nb no W E g0 pb pcd pw pli nl) : nl ≤ 720 := by
  refine fb_holes 720 nl (fun i => nN (pli i)) (fun i hi => ?_) (fun i k hik hk => ?_)
  · obtain ⟨p, hp, e, _⟩ := h.2.1 i hi
    show nN (pli i) < 720
    rw [e]
    rw [show nN (nI p) = p from nI_clamp (by omega)]; exact hp
  · obtain ⟨p, hp, e, h1⟩ := h.2.1 i (by omega)
    obtain ⟨r, hr, e2, h2⟩ := h.2.1 k hk
    have e1 : nN (pli i) = p := by rw [e]; exact nI_clamp (by omega)
    have e3 : nN (pli k) = r := by rw [e2]; exact nI_clamp (by omega)
    show nN (pli i) ≠ nN (pli k)
    rw [e1, e3]
    intro y
    have := h.2.2 i k (by omega) hk (by rw [e, e2, y])
    omega
theorem gt_refl {lo hi : Nat} {pcd pw pli : Nat → Int32} {nl : Nat} (h : SI nb no W E g0 pb pcd pw pli nl) : GT nb no W E g0 pb lo hi pcd pw pli nl pcd pw pli nl :=
  ⟨h, ⟨Nat.le_refl _, rfl⟩, fun _ _ => rfl, fun _ _ _ => rfl, fun _ _ => Or.inl rfl, fun i h1 h2 => by omega, fun p _ h1 h2 => absurd h1 h2⟩
theorem gt_le {lo hi : Nat} {pcd pw pli : Nat → Int32} {nl : Nat} {pcd' pw' pli' : Nat → Int32} {nl' : Nat} (h : GT nb no W E g0 pb lo hi pcd pw pli nl pcd' pw' pli' nl') {p : Nat} (hp : p < 720) : pw' p ≤ pw p := by
  rcases h.2.2.2.2.1 p hp with e | ⟨v, e, h1, _⟩
  · rw [e]; exact Int32.le_refl _
  · rw [e]; exact Int32.le_of_lt h1
theorem gt_nr {lo hi : Nat} (hh : hi < 1000000) {pcd pw pli : Nat → Int32} {nl : Nat} {pcd' pw' pli' : Nat → Int32} {nl' : Nat} (h : GT nb no W E g0 pb lo hi pcd pw pli nl pcd' pw' pli' nl') {p : Nat} (hp : p < 720) (hn : pw p ≠ 1000000) : pw' p ≠ 1000000 := by
  rcases h.2.2.2.2.1 p hp with e | ⟨v, e, _, _, h2⟩
  · rw [e]; exact hn
  · rw [e]; exact nr_ne (by omega)
theorem gt_trans {lo hi : Nat} (hh : hi < 1000000) {pcd pw pli : Nat → Int32} {nl : Nat} {pcd1 pw1 pli1 : Nat → Int32} {nl1 : Nat} {pcd2 pw2 pli2 : Nat → Int32} {nl2 : Nat}
    (h : GT nb no W E g0 pb lo hi pcd pw pli nl pcd1 pw1 pli1 nl1) (k : GT nb no W E g0 pb lo hi pcd1 pw1 pli1 nl1 pcd2 pw2 pli2 nl2) : GT nb no W E g0 pb lo hi pcd pw pli nl pcd2 pw2 pli2 nl2 := by
  have hnr := @gt_nr nb no W E g0 pb lo hi hh
  obtain ⟨h1, ⟨h2, h2b⟩, h3, h4, h5, h6, h7⟩ := id h
  obtain ⟨k1, ⟨k2, k2b⟩, k3, k4, k5, k6, k7⟩ := id k
  refine ⟨k1, ⟨by omega, by omega⟩, fun i hi => by rw [k3 i (by omega), h3 i hi], fun p hp hn => by rw [k4 p hp (hnr h hp hn), h4 p hp hn], fun p hp => ?_, fun i hi1 hi2 => ?_, fun p hp e1 e2 => ?_⟩
  · rcases k5 p hp with e | ⟨v, e, a, b⟩
    · rw [e]; exact h5 p hp
    · refine Or.inr ⟨v, e, Int32.lt_of_lt_of_le a (gt_le h hp), b⟩
  · by_cases q : i < nl1
    · obtain ⟨p, hp, e, z⟩ := h6 i hi1 q
      exact ⟨p, hp, by rw [k3 i q, e], z⟩
    · obtain ⟨p, hp, e, z⟩ := k6 i (by omega) hi2
      refine ⟨p, hp, e, Decidable.byContradiction fun y => hnr h hp y z⟩
  · by_cases q : pw1 p = 1000000
    · obtain ⟨i, a, b, e⟩ := k7 p hp q e2
      exact ⟨i, by omega, b, e⟩
    · obtain ⟨i, a, b, e⟩ := h7 p hp e1 q
      exact ⟨i, a, by omega, by rw [k3 i b, e]⟩
theorem cR_new {pw : Nat → Int32} {q : Nat} {v : Int32} (hq : q < 720) (h : pw q = 1000000) (hv : v ≠ 1000000) : cR (upd pw q v) = cR pw + 1 := by
  have e : rchd (upd pw q v) = fun k => if k = q then true else rchd pw k := by
    funext k
    unfold rchd
    by_cases z : k = q
    · subst z; rw [upd_eq, if_pos rfl, decide_eq_true hv]
    · rw [upd_ne _ _ z, if_neg z]
  have h1 := fb_ct_upd (rchd pw) true hq
  have h2 : rchd pw q = false := decide_eq_false (fun z => z h)
  rw [h2] at h1
  unfold cR
  rw [e]
  simpa using h1
theorem cR_old {pw : Nat → Int32} {q : Nat} {v : Int32} (h : pw q ≠ 1000000) (hv : v ≠ 1000000) : cR (upd pw q v) = cR pw := by
  unfold cR
  refine fb_ct_cong fun k _ => ?_
  unfold rchd
  by_cases z : k = q
  · subst z; rw [upd_eq, decide_eq_true hv, decide_eq_true h]
  · rw [upd_ne _ _ z]
theorem gt_reach (hE : Eok nb no E) (hb : nb < 7) (h8 : no ≤ 8) (h0 : Va nb no g0) {lo hi : Nat} {pcd pw pli : Nat → Int32} {nl : Nat} {pcd' pw' pli' : Nat → Int32} {nl' : Nat} {r : Bool} {nc : Int32} {n w : Nat} {g : Nat → Int32}
    (h : SI nb no W E g0 pb pcd pw pli nl) (hR : RN no W E g0 n g w) (hC : CA pb no nc g) (hw : lo < w) (hw2 : w ≤ hi) (hh : hi < 1000000)
    (hr : rchR pcd pw pli nl nc (nI w) (nmA nb no g) pcd' pw' pli' nl' r) :
    GT nb no W E g0 pb lo hi pcd pw pli nl pcd' pw' pli' nl' ∧ (r = false → pw' = pw) ∧ pw' (nmA nb no g) ≤ nI w := by
  have hv := rn_va hE hb h0 hR
  have hq := nmA_720 hv.1 hb
  rcases hr with ⟨z, hrr, rfl, rfl, rfl, rfl⟩ | ⟨z, hrr, rfl, hr⟩
  · exact ⟨gt_refl h, fun _ => rfl, Int32.not_lt.mp z⟩
  · refine ⟨?_, fun y => (by rw [hrr] at y; cases y), by rw [upd_eq]; exact Int32.le_refl _⟩
    have hwn : nI w ≠ 1000000 := nr_ne (by omega)
    have h5 : ∀ p, p < 720 → upd pw (nmA nb no g) (nI w) p = pw p ∨ ∃ v, upd pw (nmA nb no g) (nI w) p = nI v ∧ nI v < pw p ∧ lo < v ∧ v ≤ hi := fun p hp => by
      by_cases e : p = nmA nb no g
      · subst e; exact Or.inr ⟨w, upd_eq _ _ _, z, hw, hw2⟩
      · exact Or.inl (upd_ne _ _ e)
    rcases hr with ⟨hnew, rfl, rfl, rfl⟩ | ⟨hold, rfl, rfl, rfl⟩
    · refine ⟨⟨fun p hp => ?_, fun i hi => ?_, fun i k hi hk e => ?_⟩, ⟨by omega, by rw [cR_new hq hnew hwn]; omega⟩, fun i hi => upd_ne _ _ (by omega), fun p hp hn => upd_ne _ _ (fun e => hn (by rw [e]; exact hnew)), h5, fun i a b => ?_, fun p hp e1 e2 => ?_⟩
      · by_cases e : p = nmA nb no g
        · subst e; exact Or.inr ⟨w, n, g, upd_eq _ _ _, by omega, hR, by rw [upd_eq]; exact hC, rfl⟩
        · rw [upd_ne _ _ e, upd_ne _ _ e]; exact h.1 p hp
      · by_cases q : i = nl
        · subst q; exact ⟨_, hq, upd_eq _ _ _, by rw [upd_eq]; exact hwn⟩
        · obtain ⟨p, hp, e, y⟩ := h.2.1 i (by omega)
          refine ⟨p, hp, by rw [upd_ne _ _ q, e], ?_⟩
          rw [upd_ne _ _ (fun e => y (by rw [e]; exact hnew))]; exact y
      · have hx : ∀ i, i < nl → pli i ≠ nI (nmA nb no g) := fun i hi e => by
          obtain ⟨p, hp, e2, y⟩ := h.2.1 i hi
          rw [e2] at e
          rw [(nI_eq (by omega) (by omega)).mp e] at y
          exact y hnew
        by_cases q : i = nl
        · by_cases q2 : k = nl
          · omega
          · subst q
            rw [upd_eq, upd_ne _ _ q2] at e
            exact absurd e.symm (hx k (by omega))
        · by_cases q2 : k = nl
          · subst q2
            rw [upd_eq, upd_ne _ _ q] at e
            exact absurd e (hx i (by omega))
          · rw [upd_ne _ _ q, upd_ne _ _ q2] at e
            exact h.2.2 i k (by omega) (by omega) e
      · obtain rfl : i = nl := by omega
        exact ⟨_, hq, upd_eq _ _ _, hnew⟩
      · by_cases e : p = nmA nb no g
        · subst e; exact ⟨nl, Nat.le_refl _, by omega, upd_eq _ _ _⟩
        · rw [upd_ne _ _ e] at e2
          exact absurd e1 e2
    · refine ⟨⟨fun p hp => ?_, fun i hi => ?_, h.2.2⟩, ⟨Nat.le_refl _, by rw [cR_old hold hwn]⟩, fun _ _ => rfl, fun _ _ _ => rfl, h5, fun i a b => by omega, fun p hp e1 e2 => ?_⟩
      · by_cases e : p = nmA nb no g
        · subst e
          rcases h.1 _ hq with y | ⟨w2, n2, g2, _, _, r2, c2, e2⟩
          · exact absurd y hold
          · have hv2 := rn_va hE hb h0 r2
            have hg := nmA_inj hv2.1 hv.1 hb h8 (fun j hj => by rw [hv2.2 j hj, hv.2 j hj]) e2
            exact Or.inr ⟨w, n, g, upd_eq _ _ _, by omega, hR, ca_cong c2 hg, rfl⟩
        · rw [upd_ne _ _ e]; exact h.1 p hp
      · obtain ⟨p, hp, e, y⟩ := h.2.1 i hi
        refine ⟨p, hp, e, ?_⟩
        by_cases e2 : p = nmA nb no g
        · subst e2; rw [upd_eq]; exact hwn
        · rw [upd_ne _ _ e2]; exact y
      · by_cases e : p = nmA nb no g
        · subst e; exact absurd e1 hold
        · rw [upd_ne _ _ e] at e2
          exact absurd e1 e2
end SIS
