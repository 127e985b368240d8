/-! what a shift of the class needs, told of arrangements -/
def EC (nb no : Nat) (E : (Nat → Int32) → Nat → Nat → Prop) (pb cap : Int32) (olf ow ol bw bl bi : Nat → Int32) : Prop :=
  ∀ (c : Int32) (g : Nat → Int32), CA pb no c g → Va nb no g → ∀ j k, j < no → k < nb → (E g j k ↔ hoB pb (nI j) = true ∧ inB (atE c j) nb = true ∧ plF cap olf ow ol bw bl bi j (nN (atE c j)) k (ocA pb c 8) = 110)
def Wok (no : Nat) (ow : Nat → Int32) (W : Nat → Nat) : Prop := ∀ j, j < no → ow j = nI (W j) ∧ 1 ≤ W j ∧ W j ≤ 200
theorem cov_lt {nb no : Nat} {W : Nat → Nat} {E : (Nat → Int32) → Nat → Nat → Prop} {g0 : Nat → Int32} (hE : Eok nb no E) (hb : nb < 7) (h0 : Va nb no g0) {n w j k : Nat} {g : Nat → Int32} (hR : RN no W E g0 n g w) (he : E g j k) : nmA nb no (upd g j (nI k)) < 720 := by
  have h1 : RN no W E g0 (n + 1) (upd g j (nI k)) (w + W j) := ⟨g, j, k, w, hR, he, fun _ _ => rfl, rfl⟩
  exact nmA_720 (rn_va hE hb h0 h1).1 hb
theorem oc_no {nb no : Nat} {E : (Nat → Int32) → Nat → Nat → Prop} (hE : Eok nb no E) {pb c : Int32} {g : Nat → Int32} (hC : CA pb no c g) {j k : Nat} (hk : k < 32) (h : hoB (ocA pb c 8) (nI k) = true) : ¬ E g j k := by
  intro he
  rw [ho_bt hk] at h
  obtain ⟨i, hi, h1, h2⟩ := (oc_bt hk 8).mp h
  have h3 := hC i hi
  exact (hE.1 g j k he).2.2.2 i (h3.1.mp h1).1 (by rw [← h3.2 h1]; exact h2)
theorem gt_fix {nb no : Nat} {W : Nat → Nat} {E : (Nat → Int32) → Nat → Nat → Prop} {g0 : Nat → Int32} {pb : Int32} {lo hi : Nat} {pcd pw pli : Nat → Int32} {nl : Nat} {pcd' pw' pli' : Nat → Int32} {nl' : Nat} (h : GT nb no W E g0 pb lo hi pcd pw pli nl pcd' pw' pli' nl')
    (hh : hi < 1000000) {p : Nat} (hp : p < 720) {u : Nat} (hu : pw p = nI u) (hl : u ≤ lo + 1) : pw' p = nI u := by
  rcases h.2.2.2.2.1 p hp with e | ⟨v, e, h1, h2, h3⟩
  · rw [e, hu]
  · rw [hu] at h1
    by_cases z : u < 1000000
    · have := (nI_ltI (by omega) (by omega)).mp h1
      omega
    · omega
def gB (ob : Nat → Int32) (nb j : Nat) : Int32 := if inB (ob j) nb = true then ob j else -1
def coS (ob : Nat → Int32) (nb : Nat) : Nat → Int32
  | 0 => 0
  | j + 1 => if inB (ob j) nb = true then putE (coS ob nb j) j (ob j) else coS ob nb j
def beS (ob : Nat → Int32) (nb : Nat) : Nat → Int32
  | 0 => 0
  | j + 1 => if inB (ob j) nb = true then beS ob nb j ||| ((1 : Int32) <<< (nI j &&& 31)) else beS ob nb j
theorem be_bt {ob : Nat → Int32} {nb i : Nat} (hi : i < 32) : ∀ k, k ≤ 8 → (bt (beS ob nb k) i = true ↔ i < k ∧ inB (ob i) nb = true)
  | 0 => fun _ => by
    rw [beS, b_0]
    exact ⟨fun z => (by cases z), fun z => absurd z.1 (Nat.not_lt_zero _)⟩
  | k + 1 => fun hk => by
    have ih := be_bt (ob := ob) (nb := nb) hi k (by omega)
    rw [beS]
    split
    · rename_i h
      rw [b_or, Bool.or_eq_true, ih, sh_bt (by omega) hi]
      constructor
      · rintro (⟨a, b⟩ | z)
        · exact ⟨by omega, b⟩
        · have := of_decide_eq_true z
          subst this
          exact ⟨by omega, h⟩
      · rintro ⟨a, b⟩
        rcases Nat.lt_or_ge i k with q | q
        · exact Or.inl ⟨q, b⟩
        · exact Or.inr (decide_eq_true (by omega))
    · rename_i h
      rw [ih]
      constructor
      · rintro ⟨a, b⟩; exact ⟨by omega, b⟩
      · rintro ⟨a, b⟩
        rcases Nat.lt_or_ge i k with q | q
        · exact ⟨q, b⟩
        · obtain rfl : i = k := by omega
          exact absurd b h
theorem co_at {ob : Nat → Int32} {nb i : Nat} (hb : nb < 7) (hi : i < 8) (h : inB (ob i) nb = true) : ∀ k, k ≤ 8 → i < k → atE (coS ob nb k) i = ob i
  | 0 => fun _ h9 => absurd h9 (Nat.not_lt_zero _)
  | k + 1 => fun hk hik => by
    rw [coS]
    by_cases e : i = k
    · subst e
      rw [if_pos h]
      obtain ⟨v, hv, ev⟩ := (inB_iff (by omega)).mp h
      rw [ev]
      exact at_put_eq hi (by omega)
    · have ih := co_at hb hi h k (by omega) (by omega)
      split
      · rename_i h2
        obtain ⟨v, hv, ev⟩ := (inB_iff (by omega)).mp h2
        rw [ev, at_put_ne (by omega) hi (by omega) e]
        exact ih
      · exact ih
theorem ca_start {ob : Nat → Int32} {nb no : Nat} (hb : nb < 7) (h8 : no ≤ 8) : CA (beS ob nb no) no (coS ob nb no) (gB ob nb) := by
  intro j hj
  rw [ho_bt (by omega), be_bt (by omega) no h8]
  refine ⟨⟨fun z => ⟨z.1, ?_⟩, fun z => ⟨z.1, ?_⟩⟩, fun z => ?_⟩
  · rw [gB, if_pos z.2]
    obtain ⟨v, hv, ev⟩ := (inB_iff (by omega)).mp z.2
    rw [ev]
    exact nI_m1 (by omega)
  · exact Decidable.byContradiction fun y => z.2 (by rw [gB, if_neg y])
  · rw [gB, if_pos z.2]
    exact co_at hb hj z.2 no h8 z.1
def stR (nb no : Nat) (ob pcd pw pli : Nat → Int32) : Prop :=
  CA (beS ob nb no) no (pcd (nmA nb no (gB ob nb))) (gB ob nb) ∧ (∀ p, p < 720 → pw p = if p = nmA nb no (gB ob nb) then 0 else 1000000) ∧ pli 0 = nI (nmA nb no (gB ob nb))
theorem st_reach {nb no : Nat} {ob pcd pw pli : Nat → Int32} {pcd' pw' pli' : Nat → Int32} {nl' : Nat} {r : Bool} (hb : nb < 7) (h8 : no ≤ 8) (hva : Va nb no (gB ob nb))
    (h : rchR pcd (fun j => if j < 720 then (1000000 : Int32) else pw j) pli 0 (coS ob nb no) 0 (nmA nb no (gB ob nb)) pcd' pw' pli' nl' r) : stR nb no ob pcd' pw' pli' ∧ nl' = 1 := by
  have hq := nmA_720 hva hb
  have e9 : (fun j => if j < 720 then (1000000 : Int32) else pw j) (nmA nb no (gB ob nb)) = 1000000 := if_pos hq
  rcases h with ⟨z, _⟩ | ⟨_, _, rfl, ⟨_, rfl, rfl, rfl⟩ | ⟨z, _⟩⟩
  · rw [e9] at z; exact absurd (by decide) z
  · refine ⟨⟨by rw [upd_eq]; exact ca_start hb h8, fun p hp => ?_, upd_eq _ _ _⟩, rfl⟩
    by_cases e : p = nmA nb no (gB ob nb)
    · subst e; rw [upd_eq, if_pos rfl]
    · rw [upd_ne _ _ e, if_neg e]; exact if_pos hp
  · exact absurd e9 z
