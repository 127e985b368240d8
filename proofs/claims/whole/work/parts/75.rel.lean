/-! the class's state and the reference's: how they belong together -/
def Pos (nb : Nat) (o a w : Int32) : Prop := (o = -1 ∧ a = -1 ∧ w = 0) ∨ (o = -2 ∧ a = -1 ∧ w = 1) ∨ ∃ k, k < nb ∧ o = nI k ∧ a = nI k ∧ w = 0
def FR (nb : Nat) (fr bi : Nat → Int32) : Prop := ∀ k, k < nb → (fr k = -1 ∧ bi k = 0) ∨ ∃ j, j < k ∧ fr k = nI j ∧ bi k = bi j ||| ((1 : Int32) <<< (nI j &&& 31))
def OW (no : Nat) (ow : Nat → Int32) : Prop := ∀ j, j < no → ∃ w, 1 ≤ w ∧ w ≤ 200 ∧ ow j = nI w
def OL (olf : Nat → Int32) : Prop := ∀ j, j < 8 → ∃ L, L ≤ 48 ∧ olf j = nI L
def BBr (nb no : Nat) (bb at_ : Nat → Int32) : Prop := ∀ k, k < nb → bb k = fI (baM at_ (nI k) no)
def Rel (t nw : Nat) (wf wt : Nat → Int32) (nb : Nat) (fr bi bb : Nat → Int32) (no : Nat) (ow ob olf at_ aw : Nat → Int32) : Prop :=
  (t ≤ 9999 ∧ nw ≤ 6 ∧ nb ≤ 6 ∧ no ≤ 8) ∧ spOk wf wt nw ∧ OL olf ∧ FR nb fr bi ∧ OW no ow ∧ (∀ j, j < no → Pos nb (ob j) (at_ j) (aw j)) ∧ Va nb no at_ ∧ BBr nb no bb at_ ∧ ∀ j, no ≤ j → aw j = 0
def OccA (no : Nat) (g : Nat → Int32) (O : Int32) : Prop := ∀ i, i < 32 → (bt O i = true ↔ ∃ j, j < no ∧ g j = nI i)
theorem fr_hfr {nb : Nat} {fr bi : Nat → Int32} (h : FR nb fr bi) : ∀ k, k < nb → fr k = -1 ∨ ∃ j, j < k ∧ fr k = nI j := fun k hk => by
  rcases h k hk with ⟨e, _⟩ | ⟨j, hj, e, _⟩
  · exact Or.inl e
  · exact Or.inr ⟨j, hj, e⟩
theorem fr_bt {nb : Nat} {fr bi : Nat → Int32} (hF : FR nb fr bi) (h6 : nb ≤ 6) : ∀ k, k < nb → (∀ i, i < 32 → bt (bi k) i = true → i < k) ∧ ∀ (q : Int32 → Bool) (f : Nat), k ≤ f → (shG q fr f (fr k) = true ↔ ∃ i, i < 32 ∧ bt (bi k) i = true ∧ q (nI i) = true) := by
  intro k
  induction k using Nat.strongRecOn with
  | _ k ih =>
    intro hk
    rcases hF k hk with ⟨e1, e2⟩ | ⟨j, hj, e1, e2⟩
    · refine ⟨fun i hi z => ?_, fun q f hf => ?_⟩
      · rw [e2, b_0] at z; cases z
      · rw [e1, shG_end]
        refine ⟨fun z => (by cases z), fun ⟨i, hi, z, _⟩ => ?_⟩
        rw [e2, b_0] at z; cases z
    · obtain ⟨i1, i2⟩ := ih j hj (by omega)
      refine ⟨fun i hi z => ?_, fun q f hf => ?_⟩
      · rw [e2, b_or, Bool.or_eq_true, sh_bt (by omega) hi] at z
        rcases z with z | z
        · have := i1 i hi z; omega
        · have := of_decide_eq_true z; omega
      · obtain ⟨f', rfl⟩ : ∃ f', f = f' + 1 := ⟨f - 1, by omega⟩
        rw [e1, shG, if_neg (nI_m1 (by omega)), Bool.or_eq_true, show nN (nI j) = j from nI_clamp (by omega), i2 q f' (by omega)]
        constructor
        · rintro (z | ⟨i, hi, z1, z2⟩)
          · exact ⟨j, by omega, by rw [e2, b_or, sh_bt (by omega) (by omega), decide_eq_true rfl, Bool.or_true], z⟩
          · exact ⟨i, hi, by rw [e2, b_or, z1, Bool.true_or], z2⟩
        · rintro ⟨i, hi, z1, z2⟩
          rw [e2, b_or, Bool.or_eq_true, sh_bt (by omega) hi] at z1
          rcases z1 with z1 | z1
          · exact Or.inr ⟨i, hi, z1, z2⟩
          · have := of_decide_eq_true z1
            subst this
            exact Or.inl z2
theorem fI_m1 (n : Nat) (h : n ≤ 8) : fI n = -1 ↔ n = 0 := ⟨fun z => fi_0 h z, fun z => by rw [z]; rfl⟩
theorem ba_none {g : Nat → Int32} {no : Nat} {x : Int32} (h8 : no ≤ 8) : fI (baM g x no) = -1 ↔ ∀ j, j < no → g j ≠ x := by
  rw [fI_m1 _ (Nat.le_trans (baM_le g x no) h8)]
  constructor
  · intro z j hj e
    obtain ⟨n, e2, _⟩ := ba_some hj e
    omega
  · intro z
    cases e : baM g x no with
    | zero => rfl
    | succ n => exact absurd (ba_get e).2 (z n (ba_get e).1)
theorem shQ_0 {g : Nat → Int32} {no i : Nat} (h8 : no ≤ 8) : shQ g no (-1) (nI i) = true ↔ ∃ j, j < no ∧ g j = nI i := by
  unfold shQ
  rw [Bool.and_self, Bool.not_eq_true', decide_eq_false_iff_not, ba_none h8]
  constructor
  · intro z
    exact Decidable.byContradiction fun y => z fun j hj e => y ⟨j, hj, e⟩
  · rintro ⟨j, hj, e⟩ z
    exact z j hj e
theorem shQ_j {g : Nat → Int32} {nb no i j : Nat} (h8 : no ≤ 8) (v : Va nb no g) (hi : i < 32) (hj : j < no) : shQ g no (nI j) (nI i) = true ↔ ∃ k, k < no ∧ g k = nI i ∧ k ≠ j := by
  unfold shQ
  rw [Bool.and_eq_true, Bool.not_eq_true', decide_eq_false_iff_not, ba_none h8, Bool.not_eq_true', decide_eq_false_iff_not]
  constructor
  · rintro ⟨z1, z2⟩
    refine Decidable.byContradiction fun y => z1 fun k hk e => y ⟨k, hk, e, fun ej => z2 ?_⟩
    rw [ba_va v hk (by omega) e, fI, ej]
  · rintro ⟨k, hk, e, hn⟩
    refine ⟨fun z => z k hk e, fun z => ?_⟩
    rw [ba_va v hk (by omega) e, fI] at z
    exact hn (nI_inj z (by omega) (by omega))
theorem and_0 {x y : Int32} : (x &&& y) = 0 ↔ ∀ i, i < 32 → ¬ (bt x i = true ∧ bt y i = true) := by
  constructor
  · rintro z i hi ⟨h1, h2⟩
    have h := congrArg (fun q => bt q i) z
    simp only [b_and, b_0, h1, h2] at h
    cases h
  · intro z
    refine b_ext fun i hi => ?_
    rw [b_and, b_0]
    cases h1 : bt x i with
    | false => rfl
    | true =>
      cases h2 : bt y i with
      | false => rfl
      | true => exact absurd ⟨h1, h2⟩ (z i hi)
theorem sh1_0 {nb no k : Nat} {g fr bi : Nat → Int32} {O : Int32} (hO : OccA no g O) (hF : FR nb fr bi) (h6 : nb ≤ 6) (h8 : no ≤ 8) (hk : k < nb) : (O &&& bi k) = 0 ↔ shM g fr no k (-1) = false := by
  have h := ((fr_bt hF h6 k hk).2 (shQ g no (-1)) k (Nat.le_refl k))
  unfold shM
  rw [← Bool.not_eq_true, h, and_0]
  constructor
  · rintro z ⟨i, hi, z1, z2⟩
    exact z i hi ⟨(hO i hi).mpr ((shQ_0 h8).mp z2), z1⟩
  · rintro z i hi ⟨z1, z2⟩
    exact z ⟨i, hi, z2, (shQ_0 h8).mpr ((hO i hi).mp z1)⟩
theorem sh1_j {nb no k f j : Nat} {g fr bi : Nat → Int32} {O : Int32} (hO : OccA no g O) (hF : FR nb fr bi) (h6 : nb ≤ 6) (h8 : no ≤ 8) (v : Va nb no g) (hf : f < nb) (hj : j < no) (e : g j = nI f) (hk : k < nb) :
    ((O &&& (((1 : Int32) <<< (nI f &&& 31)) ^^^ (-1 : Int32))) &&& bi k) = 0 ↔ shM g fr no k (nI j) = false := by
  have h := ((fr_bt hF h6 k hk).2 (shQ g no (nI j)) k (Nat.le_refl k))
  have hb : ∀ i, i < 32 → (bt (O &&& (((1 : Int32) <<< (nI f &&& 31)) ^^^ (-1 : Int32))) i = true ↔ shQ g no (nI j) (nI i) = true) := fun i hi => by
    rw [shQ_j h8 v hi hj, b_and, b_xor, b_m1 i hi, sh_bt (by omega) hi, Bool.and_eq_true, hO i hi]
    constructor
    · rintro ⟨⟨q, hq, eq⟩, z⟩
      refine ⟨q, hq, eq, fun ej => ?_⟩
      subst ej
      rw [e] at eq
      have := nI_inj eq (by omega) (by omega)
      subst this
      rw [decide_eq_true rfl] at z; cases z
    · rintro ⟨q, hq, eq, hn⟩
      refine ⟨⟨q, hq, eq⟩, ?_⟩
      rw [decide_eq_false (fun z => hn ?_)]
      · rfl
      · subst z
        exact v.2 q j hq hj (by rw [eq]; exact nI_m1 (by omega)) (by rw [eq, e])
  unfold shM
  rw [← Bool.not_eq_true, h, and_0]
  constructor
  · rintro z ⟨i, hi, z1, z2⟩
    exact z i hi ⟨(hb i hi).mpr z2, z1⟩
  · rintro z i hi ⟨z1, z2⟩
    exact z ⟨i, hi, z2, (hb i hi).mp z1⟩
theorem and_or0 {x y z : Int32} : (x &&& (y ||| z)) = 0 ↔ (x &&& y) = 0 ∧ (x &&& z) = 0 := by
  rw [and_0, and_0, and_0]
  constructor
  · intro h
    exact ⟨fun i hi q => h i hi ⟨q.1, by rw [b_or, q.2, Bool.true_or]⟩, fun i hi q => h i hi ⟨q.1, by rw [b_or, q.2, Bool.or_true]⟩⟩
  · rintro ⟨h1, h2⟩ i hi ⟨q1, q2⟩
    rw [b_or, Bool.or_eq_true] at q2
    rcases q2 with q2 | q2
    · exact h1 i hi ⟨q1, q2⟩
    · exact h2 i hi ⟨q1, q2⟩
theorem ho_occ {no k : Nat} {g : Nat → Int32} {O : Int32} (hO : OccA no g O) (h8 : no ≤ 8) (hk : k < 32) : hoB O (nI k) = true ↔ ¬ fI (baM g (nI k) no) = -1 := by
  rw [ho_bt hk, hO k hk, ba_none h8]
  constructor
  · rintro ⟨j, hj, e⟩ z
    exact z j hj e
  · intro z
    exact Decidable.byContradiction fun y => z fun j hj e => y ⟨j, hj, e⟩
theorem oc_ca {pb c : Int32} {nb no : Nat} {g : Nat → Int32} (h : CA pb no c g) (v : Va nb no g) (h8 : no ≤ 8) : OccA no g (ocA pb c 8) := fun i hi => by
  rw [oc_bt hi 8]
  constructor
  · rintro ⟨j, hj, h1, h2⟩
    exact ⟨j, ((h j hj).1.mp h1).1, by rw [← (h j hj).2 h1]; exact h2⟩
  · rintro ⟨j, hj, e⟩
    have h1 := (h j (by omega)).1.mpr ⟨hj, by rw [e]; exact nI_m1 (by omega)⟩
    exact ⟨j, by omega, h1, by rw [(h j (by omega)).2 h1]; exact e⟩
theorem occ_bb {nb no : Nat} {bb at_ : Nat → Int32} (h8 : no ≤ 8) (h6 : nb ≤ 6) (v : Va nb no at_) (hB : BBr nb no bb at_) : OccA no at_ (nI (occN bb nb)) := fun i hi => by
  rw [b_nI _ i hi, occN_bit, decide_eq_true_iff]
  constructor
  · rintro ⟨h1, h2⟩
    rw [hB i h1, Ne, ba_none h8] at h2
    exact Decidable.byContradiction fun y => h2 fun j hj e => y ⟨j, hj, e⟩
  · rintro ⟨j, hj, e⟩
    rcases v.1 j hj with z | ⟨k, hk, z⟩
    · rw [e] at z; exact absurd z (nI_m1 (by omega))
    · rw [e] at z
      have := nI_inj z (by omega) (by omega)
      subst this
      refine ⟨hk, ?_⟩
      rw [hB i hk, Ne, ba_none h8]
      exact fun y => y j hj e
theorem pl_se {nb no j f k : Nat} {cap O : Int32} {olf g fr ow ol bw bl bi : Nat → Int32} (hO : OccA no g O) (hF : FR nb fr bi) (h6 : nb ≤ 6) (h8 : no ≤ 8) (v : Va nb no g) (hf : f < nb) (hj : j < no) (e : g j = nI f) (hk : k < nb) :
    plF cap olf ow ol bw bl bi j f k O = seM cap g olf fr ow ol bw bl no j k := by
  have h1 := sh1_j hO hF h6 h8 v hf hj e hf
  have h2 := sh1_j hO hF h6 h8 v hf hj e hk
  have h3 := ho_occ hO h8 (show k < 32 by omega)
  unfold plF seM
  rw [if_neg (show ¬ g j = -1 by rw [e]; exact nI_m1 (by omega)), show nN (g j) = f by rw [e]; exact nI_clamp (by omega)]
  by_cases c1 : olf j ≤ 0
  · rw [if_pos c1, if_pos c1]
    by_cases c2 : fI (baM g (nI k) no) = -1
    · have c3 : hoB O (nI k) = false := by rw [← Bool.not_eq_true, h3]; exact fun z => z c2
      have h4 := and_or0.trans (and_congr h1 h2)
      rw [if_pos c2, c3, if_neg Bool.false_ne_true]
      cases z1 : shM g fr no f (nI j) with
      | true => rw [if_neg (fun y => by have y := (h4.mp y).1; rw [z1] at y; cases y), if_pos rfl]
      | false =>
        rw [if_neg Bool.false_ne_true]
        cases z2 : shM g fr no k (nI j) with
        | true => rw [if_neg (fun y => by have y := (h4.mp y).2; rw [z2] at y; cases y), if_pos rfl]
        | false => rw [if_pos (h4.mpr ⟨z1, z2⟩), if_neg Bool.false_ne_true]
    · rw [if_neg c2, if_pos (h3.mpr c2)]
  · rw [if_neg c1, if_neg c1]
