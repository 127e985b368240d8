/-! what each call does keeps the relation -/
section RLB
variable {t nw : Nat} {wf wt : Nat → Int32} {nb : Nat} {fr bi bb : Nat → Int32} {no : Nat} {ow ob olf at_ aw : Nat → Int32}
theorem ba_congx {g e : Nat → Int32} {x : Int32} : ∀ {n : Nat}, (∀ j, j < n → (g j = x ↔ e j = x)) → baM g x n = baM e x n
  | 0, _ => rfl
  | n + 1, h => by
    rw [baM, baM, ba_congx (fun j hj => h j (by omega))]
    have h1 := h n (by omega)
    by_cases c : g n = x
    · rw [if_pos c, if_pos (h1.mp c)]
    · rw [if_neg c, if_neg (fun z => c (h1.mpr z))]
theorem va_mono {n m no : Nat} {g : Nat → Int32} (h : Va n no g) (hn : n ≤ m) : Va m no g := ⟨fun j hj => (h.1 j hj).imp (fun z => z) (fun ⟨k, hk, e⟩ => ⟨k, by omega, e⟩), h.2⟩
theorem rel_addBerth (h : Rel t nw wf wt nb fr bi bb no ow ob olf at_ aw) {f g l : Int32} (c : abC nb f g l = 0) : Rel t nw wf wt (nb + 1) (upd fr nb f) (upd bi nb (biF bi nb f)) (upd bb nb (-1 : Int32)) no ow ob olf at_ aw := by
  obtain ⟨⟨q1, q2, q3, q4⟩, q5, q6, q7, q8, q9, q10, q11, q12⟩ := h
  unfold abC at c
  split at c
  case isFalse z => cases c
  rename_i c1
  split at c
  case isFalse z => cases c
  split at c
  case isFalse z => cases c
  rename_i c2
  refine ⟨⟨q1, q2, by omega, q4⟩, q5, q6, fun k hk => ?_, q8, fun j hj => ?_, va_mono q10 (by omega), fun k hk => ?_, q12⟩
  · by_cases e : k = nb
    · subst e
      rw [upd_eq, upd_eq]
      rcases c1 with c1 | c1
      · subst c1
        refine Or.inl ⟨rfl, ?_⟩
        rw [biF, if_neg]
        exact fun z => absurd (of_decide_eq_true z).1 (by decide)
      · obtain ⟨j, hj, rfl⟩ := (inB_iff (by omega)).mp c1
        refine Or.inr ⟨j, hj, rfl, ?_⟩
        rw [biF, if_pos c1, nI_clamp (by omega), upd_ne _ _ (by omega)]
    · rw [upd_ne _ _ e, upd_ne _ _ e]
      rcases q7 k (by omega) with z | ⟨j, hj, z1, z2⟩
      · exact Or.inl z
      · exact Or.inr ⟨j, hj, z1, by rw [z2, upd_ne _ _ (by omega)]⟩
  · rcases q9 j hj with z | z | ⟨k, hk, z⟩
    · exact Or.inl z
    · exact Or.inr (Or.inl z)
    · exact Or.inr (Or.inr ⟨k, by omega, z⟩)
  · by_cases e : k = nb
    · subst e
      rw [upd_eq]
      symm
      rw [ba_none q4]
      intro j hj z
      rcases q10.1 j hj with y | ⟨m, hm, y⟩
      · rw [z] at y; exact nI_m1 (by omega) y
      · rw [z] at y
        have := nI_inj y (by omega) (by omega)
        omega
    · rw [upd_ne _ _ e, q11 k (by omega)]
theorem rel_addBoat (h : Rel t nw wf wt nb fr bi bb no ow ob olf at_ aw) {f g l r : Int32} (c : aoC no f g l r = 0) : Rel t nw wf wt nb fr bi bb (no + 1) (upd ow no g) (upd ob no (-1 : Int32)) olf (upd at_ no (-1 : Int32)) aw := by
  obtain ⟨⟨q1, q2, q3, q4⟩, q5, q6, q7, q8, q9, q10, q11, q12⟩ := h
  unfold aoC at c
  split at c
  case isFalse z => cases c
  rename_i c1
  split at c
  case isFalse z => cases c
  rename_i c2
  refine ⟨⟨q1, q2, q3, by omega⟩, q5, q6, q7, fun j hj => ?_, fun j hj => ?_, ⟨fun j hj => ?_, fun i j hi hj h1 h2 => ?_⟩, fun k hk => ?_, fun j hj => q12 j (by omega)⟩
  · by_cases e : j = no
    · subst e
      rw [upd_eq]
      obtain ⟨w, h1, h2, e⟩ := outR_nat (lo := 1) (hi := 200) c1.2.1 (by decide) (by decide)
      exact ⟨w, h1, h2, e⟩
    · rw [upd_ne _ _ e]; exact q8 j (by omega)
  · by_cases e : j = no
    · subst e
      rw [upd_eq, upd_eq]
      exact Or.inl ⟨rfl, rfl, q12 _ (Nat.le_refl _)⟩
    · rw [upd_ne _ _ e, upd_ne _ _ e]; exact q9 j (by omega)
  · by_cases e : j = no
    · subst e; rw [upd_eq]; exact Or.inl rfl
    · rw [upd_ne _ _ e]; exact q10.1 j (by omega)
  · by_cases e : i = no
    · subst e; rw [upd_eq] at h1; exact absurd rfl h1
    · rw [upd_ne _ _ e] at h1 h2
      by_cases e2 : j = no
      · subst e2; rw [upd_eq] at h2; exact absurd h2 h1
      · rw [upd_ne _ _ e2] at h2
        exact q10.2 i j (by omega) (by omega) h1 h2
  · rw [q11 k hk, baM, upd_eq, if_neg (fun z => nI_m1 (show k < 2 ^ 31 by omega) z.symm)]
    rw [ba_congx (g := upd at_ no (-1)) (e := at_) (fun j hj => by rw [upd_ne _ _ (by omega)])]
theorem rel_tell (h : Rel t nw wf wt nb fr bi bb no ow ob olf at_ aw) {f g : Int32} (c : twC t nw f g = 0) : Rel t (nw + 1) (upd wf nw f) (upd wt nw g) nb fr bi bb no ow ob olf at_ aw := by
  obtain ⟨⟨q1, q2, q3, q4⟩, q5, q6⟩ := h
  unfold twC at c
  split at c
  case isFalse z => cases c
  rename_i c1
  split at c
  case isFalse z => cases c
  rename_i c2
  refine ⟨⟨q1, by omega, q3, q4⟩, fun k hk => ?_, q6⟩
  by_cases e : k = nw
  · subst e
    rw [upd_eq, upd_eq]
    obtain ⟨b1, b2⟩ := tw_bounds c1.1 q1
    have b3 : f.toInt < g.toInt := by
      have z := c1.2.1
      rw [Int32.le_iff_toInt_le] at z
      omega
    have b4 : g.toInt ≤ 10000 := by
      have z := c1.2.2
      rw [Int32.le_iff_toInt_le] at z
      have : (10000 : Int32).toInt = 10000 := by decide
      omega
    have e0 : (0 : Int32).toInt = 0 := by decide
    obtain ⟨f', hf, rfl⟩ := nI_of (x := f) (fun z => by rw [Int32.lt_iff_toInt_lt] at z; omega)
    obtain ⟨g', hg, rfl⟩ := nI_of (x := g) (fun z => by rw [Int32.lt_iff_toInt_lt] at z; omega)
    rw [nI_toInt hf] at b1 b2 b3
    rw [nI_toInt hg] at b3 b4
    exact ⟨f', g', rfl, rfl, by omega, by omega⟩
  · rw [upd_ne _ _ e, upd_ne _ _ e]
    exact q5 k (by omega)
theorem kp_ok {h : Int32} : ∀ k, k ≤ nw → spOk wf wt nw → spOk (kp wf wt h k).1 (kp wf wt h k).2.1 (kp wf wt h k).2.2 ∧ ∀ i, k ≤ i → (kp wf wt h k).1 i = wf i ∧ (kp wf wt h k).2.1 i = wt i
  | 0, _, _ => ⟨fun k hk => absurd hk (Nat.not_lt_zero _), fun _ _ => ⟨rfl, rfl⟩⟩
  | k + 1, hk, hs => by
    obtain ⟨i1, i2⟩ := kp_ok (h := h) k (by omega) hs
    have hl := kp_le wf wt h k
    by_cases c : (kp wf wt h k).2.1 k ≤ h
    · rw [kp_f c]
      exact ⟨i1, fun i hi => i2 i (by omega)⟩
    · rw [kp_t c]
      refine ⟨fun q hq => ?_, fun i hi => ?_⟩
      · show ∃ f g : Nat, upd (kp wf wt h k).1 (kp wf wt h k).2.2 ((kp wf wt h k).1 k) q = nI f ∧ upd (kp wf wt h k).2.1 (kp wf wt h k).2.2 ((kp wf wt h k).2.1 k) q = nI g ∧ f < g ∧ g ≤ 10000
        by_cases e : q = (kp wf wt h k).2.2
        · rw [e, upd_eq, upd_eq, (i2 k (Nat.le_refl k)).1, (i2 k (Nat.le_refl k)).2]
          exact hs k (by omega)
        · rw [upd_ne _ _ e, upd_ne _ _ e]
          exact i1 q (by have hq : q < (kp wf wt h k).2.2 + 1 := hq; omega)
      · show upd (kp wf wt h k).1 (kp wf wt h k).2.2 ((kp wf wt h k).1 k) i = wf i ∧ upd (kp wf wt h k).2.1 (kp wf wt h k).2.2 ((kp wf wt h k).2.1 k) i = wt i
        rw [upd_ne _ _ (by omega), upd_ne _ _ (by omega)]
        exact i2 i (by omega)
theorem rel_forget (h : Rel t nw wf wt nb fr bi bb no ow ob olf at_ aw) (x : Int32) : Rel t (kp wf wt x nw).2.2 (kp wf wt x nw).1 (kp wf wt x nw).2.1 nb fr bi bb no ow ob olf at_ aw := by
  obtain ⟨⟨q1, q2, q3, q4⟩, q5, q6⟩ := h
  have := kp_le wf wt x nw
  exact ⟨⟨q1, by omega, q3, q4⟩, (kp_ok nw (Nat.le_refl _) q5).1, q6⟩
/-- a boat's new place -/
theorem rel_move (h : Rel t nw wf wt nb fr bi bb no ow ob olf at_ aw) {j : Nat} (hj : j < no) {o x w : Int32} (hp : Pos nb o x w) (hf : ∀ i, i < no → i ≠ j → x ≠ -1 → at_ i ≠ x) {bb' : Nat → Int32} (hB : BBr nb no bb' (upd at_ j x)) : Rel t nw wf wt nb fr bi bb' no ow (upd ob j o) olf (upd at_ j x) (upd aw j w) := by
  obtain ⟨⟨q1, q2, q3, q4⟩, q5, q6, q7, q8, q9, q10, q11, q12⟩ := h
  refine ⟨⟨q1, q2, q3, q4⟩, q5, q6, q7, q8, fun i hi => ?_, ⟨fun i hi => ?_, fun i k hi hk h1 h2 => ?_⟩, hB, fun i hi => by rw [upd_ne _ _ (by omega)]; exact q12 i hi⟩
  · by_cases e : i = j
    · subst e; rw [upd_eq, upd_eq, upd_eq]; exact hp
    · rw [upd_ne _ _ e, upd_ne _ _ e, upd_ne _ _ e]; exact q9 i hi
  · by_cases e : i = j
    · subst e; rw [upd_eq]
      rcases hp with ⟨_, z, _⟩ | ⟨_, z, _⟩ | ⟨k, hk, _, z, _⟩
      · exact Or.inl z
      · exact Or.inl z
      · exact Or.inr ⟨k, hk, z⟩
    · rw [upd_ne _ _ e]; exact q10.1 i hi
  · by_cases e : i = j
    · by_cases e2 : k = j
      · omega
      · subst e
        rw [upd_eq] at h1
        rw [upd_eq, upd_ne _ _ e2] at h2
        exact absurd h2.symm (hf k hk e2 h1)
    · by_cases e2 : k = j
      · subst e2
        rw [upd_ne _ _ e] at h1
        rw [upd_eq, upd_ne _ _ e] at h2
        exact absurd h2 (hf i hi e (by rw [← h2]; exact h1))
      · rw [upd_ne _ _ e] at h1 h2
        rw [upd_ne _ _ e2] at h2
        exact q10.2 i k hi hk h1 h2
theorem bb_put {bb1 : Nat → Int32} {e : Nat → Int32} {j k : Nat} (v : Va nb no e) (h6 : nb ≤ 6) (hj : j < no) (hk : k < nb) (he : e j = nI k) (h : ∀ q, q < nb → q ≠ k → bb1 q = fI (baM e (nI q) no)) : BBr nb no (upd bb1 k (nI j)) e := fun q hq => by
  by_cases c : q = k
  · subst c
    rw [upd_eq, ba_va v hj (by omega) he]
    rfl
  · rw [upd_ne _ _ c]
    exact h q hq c
theorem ba_upd {j q : Nat} {x : Int32} (h1 : x ≠ nI q) (h2 : at_ j ≠ nI q) : baM (upd at_ j x) (nI q) no = baM at_ (nI q) no := ba_congx fun i _ => by
  by_cases e : i = j
  · subst e; rw [upd_eq]; exact ⟨fun z => absurd z h1, fun z => absurd z h2⟩
  · rw [upd_ne _ _ e]
theorem vr_free {g : Nat → Int32} {x : Int32} (h8 : no ≤ 8) (h : fI (baM g x no) = -1) : ∀ i, i < no → g i ≠ x := (ba_none h8).mp h
theorem va_set {j k : Nat} (v : Va nb no at_) (hk : k < nb) (h6 : nb ≤ 6) (hf : ∀ i, i < no → at_ i ≠ nI k) : Va nb no (upd at_ j (nI k)) := by
  refine ⟨fun i hi => ?_, fun i q hi hq h1 h2 => ?_⟩
  · by_cases e : i = j
    · subst e; rw [upd_eq]; exact Or.inr ⟨k, hk, rfl⟩
    · rw [upd_ne _ _ e]; exact v.1 i hi
  · by_cases e : i = j
    · by_cases e2 : q = j
      · omega
      · subst e
        rw [upd_eq, upd_ne _ _ e2] at h2
        exact absurd h2.symm (hf q hq)
    · by_cases e2 : q = j
      · subst e2
        rw [upd_eq, upd_ne _ _ e] at h2
        exact absurd h2 (hf i hi)
      · rw [upd_ne _ _ e] at h1 h2
        rw [upd_ne _ _ e2] at h2
        exact v.2 i q hi hq h1 h2
theorem aw_0 {k : Nat} (hk : k < 2 ^ 31) : (if nI k = -1 then (1 : Int32) else 0) = 0 := if_neg (nI_m1 hk)
theorem rel_lift (h : Rel t nw wf wt nb fr bi bb no ow ob olf at_ aw) {cap clr tb tf ts hom now : Int32} {bad : Bool} {od ol bw bl : Nat → Int32} {b g : Int32} (c : mvC no nb b g (liM cap clr tb tf ts hom now bad aw at_ fr od ow ol bw bl no (nN b) (nN g)) = 0) :
    Rel t nw wf wt nb fr bi (upd bb (nN g) b) no ow (upd ob (nN b) g) olf (upd at_ (nN b) g) (upd aw (nN b) (if g = -1 then 1 else 0)) := by
  have h6 := h.1.2.2.1
  have h8 := h.1.2.2.2
  unfold mvC at c
  split at c
  case isFalse z => cases c
  rename_i c1
  split at c
  case isFalse z => cases c
  rename_i c2
  obtain ⟨j, hj, rfl⟩ := (inB_iff (by omega)).mp c1.1
  obtain ⟨k, hk, rfl⟩ := (inB_iff (by omega)).mp c1.2
  rw [show nN (nI j) = j from nI_clamp (by omega), show nN (nI k) = k from nI_clamp (by omega)] at c2 ⊢
  rw [aw_0 (by omega)]
  unfold liM at c2
  split at c2
  case isFalse z => exact absurd c2 (by decide)
  split at c2
  case isFalse z => exact absurd c2 (by decide)
  rename_i d1 d2
  split at c2
  case isFalse z => exact absurd c2 (by decide)
  rename_i d3
  have hf := vr_free h8 d3
  refine rel_move h hj (Or.inr (Or.inr ⟨k, hk, rfl, rfl, rfl⟩)) (fun i hi _ _ => hf i hi) (bb_put (va_set (rel_va h) hk h6 hf) h6 hj hk (upd_eq _ _ _) (fun q hq hn => ?_))
  rw [ba_upd (fun z => hn (nI_inj z (by omega) (by omega)).symm) (by rw [d2]; exact fun z => nI_m1 (show q < 2 ^ 31 by omega) z.symm), rel_bb h q hq]
theorem rel_launch (h : Rel t nw wf wt nb fr bi bb no ow ob olf at_ aw) {cap clr tb tf ts hom now : Int32} {bad : Bool} {od : Nat → Int32} {b : Int32} (c : mlC no b (lnM cap clr tb tf ts hom now bad at_ olf fr od ow no (nN b)) = 0) :
    Rel t nw wf wt nb fr bi (upd bb (nN (ob (nN b))) (-1 : Int32)) no ow (upd ob (nN b) (-2 : Int32)) olf (upd at_ (nN b) (-1 : Int32)) (upd aw (nN b) (if (-1 : Int32) = -1 then 1 else 0)) := by
  have h6 := h.1.2.2.1
  have h8 := h.1.2.2.2
  have hv := rel_va h
  unfold mlC at c
  split at c
  case isFalse z => cases c
  rename_i c1
  split at c
  case isFalse z => cases c
  rename_i c2
  obtain ⟨j, hj, rfl⟩ := (inB_iff (by omega)).mp c1
  rw [show nN (nI j) = j from nI_clamp (by omega)] at c2 ⊢
  rw [if_pos rfl]
  rcases pos_in h hj with ⟨e1, e2⟩ | ⟨f, hf, e1, e2, e3, e4, e5, e6⟩
  · rw [lnM, if_pos e1] at c2; exact absurd c2 (by decide)
  · rw [e4]
    refine rel_move h hj (Or.inr (Or.inl ⟨rfl, rfl, rfl⟩)) (fun i _ _ z => absurd rfl z) (fun q hq => ?_)
    by_cases e : q = f
    · subst e
      rw [upd_eq]
      symm
      rw [ba_none h8]
      intro i hi z
      by_cases e9 : i = j
      · subst e9; rw [upd_eq] at z; exact nI_m1 (show q < 2 ^ 31 by omega) z.symm
      · rw [upd_ne _ _ e9] at z
        exact e9 (hv.2 i j hi hj (by rw [z]; exact nI_m1 (by omega)) (by rw [z, e1]))
    · rw [upd_ne _ _ e, ba_upd (fun z => nI_m1 (show q < 2 ^ 31 by omega) z.symm) (by rw [e1]; exact fun z => e (nI_inj z (by omega) (by omega)).symm), rel_bb h q hq]
theorem rel_shift (h : Rel t nw wf wt nb fr bi bb no ow ob olf at_ aw) {cap hom now : Int32} {bad : Bool} {ol bw bl : Nat → Int32} {b g : Int32} (c : mvC no nb b g (snM cap hom now bad at_ olf fr ow ol bw bl no (nN b) (nN g)) = 0) :
    Rel t nw wf wt nb fr bi (upd (upd bb (nN (ob (nN b))) (-1 : Int32)) (nN g) b) no ow (upd ob (nN b) g) olf (upd at_ (nN b) g) (upd aw (nN b) (if g = -1 then 1 else 0)) := by
  have h6 := h.1.2.2.1
  have h8 := h.1.2.2.2
  have hv := rel_va h
  unfold mvC at c
  split at c
  case isFalse z => cases c
  rename_i c1
  split at c
  case isFalse z => cases c
  rename_i c2
  obtain ⟨j, hj, rfl⟩ := (inB_iff (by omega)).mp c1.1
  obtain ⟨k, hk, rfl⟩ := (inB_iff (by omega)).mp c1.2
  rw [show nN (nI j) = j from nI_clamp (by omega), show nN (nI k) = k from nI_clamp (by omega)] at c2 ⊢
  rw [aw_0 (by omega)]
  have c3 : seM cap at_ olf fr ow ol bw bl no j k = 110 := by
    unfold snM at c2
    split at c2
    · assumption
    · assumption
  unfold seM at c3
  split at c3
  case isTrue z => exact absurd c3 (by decide)
  split at c3
  case isFalse z => exact absurd c3 (by decide)
  split at c3
  case isFalse z => exact absurd c3 (by decide)
  rename_i d3
  have hfr := vr_free h8 d3
  rcases pos_in h hj with ⟨e1, e2⟩ | ⟨f, hf, e1, e2, e3, e4, e5, e6⟩
  · rename_i d1 _; exact absurd e1 d1
  · rw [e4]
    refine rel_move h hj (Or.inr (Or.inr ⟨k, hk, rfl, rfl, rfl⟩)) (fun i hi _ _ => hfr i hi) (bb_put (va_set hv hk h6 hfr) h6 hj hk (upd_eq _ _ _) (fun q hq hn => ?_))
    by_cases e : q = f
    · subst e
      rw [upd_eq]
      symm
      rw [ba_none h8]
      intro i hi z
      by_cases e9 : i = j
      · subst e9; rw [upd_eq] at z; exact hn (nI_inj z (by omega) (by omega)).symm
      · rw [upd_ne _ _ e9] at z
        exact e9 (hv.2 i j hi hj (by rw [z]; exact nI_m1 (by omega)) (by rw [z, e1]))
    · rw [upd_ne _ _ e, ba_upd (fun z => hn (nI_inj z (by omega) (by omega)).symm) (by rw [e1]; exact fun z => e (nI_inj z (by omega) (by omega)).symm), rel_bb h q hq]
theorem upd_self {f : Nat → Int32} {k : Nat} {v : Int32} (h : f k = v) : upd f k v = f := by
  funext j
  by_cases e : j = k
  · subst e; rw [upd_eq, h]
  · rw [upd_ne _ _ e]
theorem rel_comeBack (h : Rel t nw wf wt nb fr bi bb no ow ob olf at_ aw) {b : Int32} (c : cbC no ob b = 0) : Rel t nw wf wt nb fr bi bb no ow (upd ob (nN b) (-1 : Int32)) olf at_ (upd aw (nN b) (0 : Int32)) := by
  have h6 := h.1.2.2.1
  have h8 := h.1.2.2.2
  unfold cbC at c
  split at c
  case isFalse z => cases c
  rename_i c1
  split at c
  case isFalse z => cases c
  rename_i c2
  obtain ⟨j, hj, rfl⟩ := (inB_iff (by omega)).mp c1
  rw [show nN (nI j) = j from nI_clamp (by omega)] at c2 ⊢
  have e1 : at_ j = -1 := by
    rcases rel_pos h hj with ⟨z, z2, _⟩ | ⟨_, z2, _⟩ | ⟨k, hk, z, _, _⟩
    · exact z2
    · exact z2
    · rw [z] at c2; exact absurd c2 (fun y => nI_pos (n := k) (by omega) (by rw [y]; decide))
  have hu : upd at_ j (-1) = at_ := upd_self e1
  have h2 := rel_move h hj (o := -1) (x := -1) (w := 0) (Or.inl ⟨rfl, rfl, rfl⟩) (fun i _ _ z => absurd rfl z) (bb' := bb) (by rw [hu]; exact rel_bb h)
  rw [hu] at h2
  exact h2
theorem rel_olf (h : Rel t nw wf wt nb fr bi bb no ow ob olf at_ aw) {t' : Nat} {olf' : Nat → Int32} (h1 : t' ≤ 9999) (h2 : OL olf') : Rel t' nw wf wt nb fr bi bb no ow ob olf' at_ aw := ⟨⟨h1, h.1.2⟩, h.2.1, h2, h.2.2.2⟩
theorem rel_paint (h : Rel t nw wf wt nb fr bi bb no ow ob olf at_ aw) {bad : Bool} {b x : Int32} (c : paM no bad at_ olf b x = 0) : Rel t nw wf wt nb fr bi bb no ow ob (upd olf (nN b) x) at_ aw := by
  refine rel_olf h h.1.1 (fun j hj => ?_)
  unfold paM at c
  split at c
  case isFalse z => cases c
  split at c
  case isFalse z => cases c
  rename_i c1
  by_cases e : j = nN b
  · rw [e, upd_eq]
    obtain ⟨w, _, h2, e⟩ := outR_nat (lo := 4) (hi := 48) c1 (by decide) (by decide)
    exact ⟨w, h2, e⟩
  · rw [upd_ne _ _ e]; exact h.2.2.1 j hj
theorem dry1_ok {f : Nat → Int32} (h : OL f) : ∀ k, OL (dry1 f k)
  | 0 => h
  | k + 1 => by
    have ih := dry1_ok h k
    rw [dry1]
    split
    · exact ih
    · rename_i c
      intro j hj
      by_cases e : j = k
      · subst e
        rw [upd_eq]
        obtain ⟨L, hL, e⟩ := ih j hj
        rw [e] at c ⊢
        have h0 : 0 < L := Nat.pos_of_ne_zero fun z => c (by rw [z]; decide)
        exact ⟨L - 1, by omega, pk_sub (a := L) (b := 1) h0⟩
      · rw [upd_ne _ _ e]; exact ih j hj
theorem pdF_ok (h : OL olf) : ∀ k, OL (pdF wf wt nw no t olf k)
  | 0 => h
  | k + 1 => by
    rw [pdF]
    split
    · exact pdF_ok h k
    · exact dry1_ok (pdF_ok h k) no
theorem rel_pass (h : Rel t nw wf wt nb fr bi bb no ow ob olf at_ aw) {x : Int32} (c : psC t x = 0) : Rel (t + nN x) nw wf wt nb fr bi bb no ow ob (pdF wf wt nw no t olf (nN x)) at_ aw := by
  unfold psC at c
  split at c
  case isFalse z => cases c
  split at c
  case isFalse z => cases c
  rename_i c1
  exact rel_olf h c1 (pdF_ok h.2.2.1 _)
end RLB
