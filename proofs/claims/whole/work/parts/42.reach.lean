/-! arrangements that can be reached, and with what weight -/
def pA (no : Nat) (g : Nat → Int32) (j : Nat) : Bool := decide (j < no ∧ g j ≠ -1)
def dA (g : Nat → Int32) (j : Nat) : Nat := nN (g j)
def Va (nb no : Nat) (g : Nat → Int32) : Prop := (∀ j, j < no → g j = -1 ∨ ∃ k, k < nb ∧ g j = nI k) ∧ ∀ i j, i < no → j < no → g i ≠ -1 → g i = g j → i = j
def nmA (nb no : Nat) (g : Nat → Int32) : Nat := (nmR (pA no g) (dA g) nb 8).1
theorem pA_iff {no : Nat} {g : Nat → Int32} {j : Nat} : pA no g j = true ↔ j < no ∧ g j ≠ -1 := decide_eq_true_iff
theorem va_k {nb no : Nat} {g : Nat → Int32} (h : Va nb no g) {j : Nat} (hj : j < no) (hn : g j ≠ -1) (hb : nb < 7) : ∃ k, k < nb ∧ g j = nI k ∧ dA g j = k := by
  rcases h.1 j hj with z | ⟨k, hk, z⟩
  · exact absurd z hn
  · exact ⟨k, hk, z, by rw [dA, z]; exact nI_clamp (by omega)⟩
theorem va_gd {nb no : Nat} {g : Nat → Int32} (h : Va nb no g) (hb : nb < 7) : gdA (pA no g) (dA g) nb := by
  refine ⟨hb, fun j _ hp => ?_, fun i j _ _ hi hj e => ?_⟩
  · obtain ⟨h1, h2⟩ := pA_iff.mp hp
    obtain ⟨k, hk, _, e⟩ := va_k h h1 h2 hb
    omega
  · obtain ⟨i1, i2⟩ := pA_iff.mp hi
    obtain ⟨j1, j2⟩ := pA_iff.mp hj
    obtain ⟨k, _, ek, e1⟩ := va_k h i1 i2 hb
    obtain ⟨q, _, eq, e2⟩ := va_k h j1 j2 hb
    refine h.2 i j i1 j1 i2 ?_
    rw [ek, eq, ← e1, ← e2, e]
theorem nmA_720 {nb no : Nat} {g : Nat → Int32} (h : Va nb no g) (hb : nb < 7) : nmA nb no g < 720 := nm_720 (va_gd h hb) (Nat.le_refl 8)
theorem pA_eq {no : Nat} {g e : Nat → Int32} (h : ∀ j, j < no → (g j = -1 ↔ e j = -1)) : pA no g = pA no e := by
  funext j
  unfold pA
  by_cases hj : j < no
  · have := h j hj
    simp only [hj, true_and, ne_eq, this]
  · simp [hj]
theorem nmA_inj {nb no : Nat} {g e : Nat → Int32} (h : Va nb no g) (h2 : Va nb no e) (hb : nb < 7) (h8 : no ≤ 8) (hs : ∀ j, j < no → (g j = -1 ↔ e j = -1)) (hn : nmA nb no g = nmA nb no e) : ∀ j, j < no → g j = e j := by
  intro j hj
  by_cases q : g j = -1
  · rw [q, (hs j hj).mp q]
  · have q2 : e j ≠ -1 := fun z => q ((hs j hj).mpr z)
    have g1 := va_gd h hb
    have g2 := va_gd h2 hb
    unfold nmA at hn
    rw [← pA_eq hs] at hn g2
    have h5 := nm_inj g1 g2 8 (Nat.le_refl 8) hn j (by omega) (pA_iff.mpr ⟨hj, q⟩)
    obtain ⟨k, _, ek, e1⟩ := va_k h hj q hb
    obtain ⟨r, _, er, e2⟩ := va_k h2 hj q2 hb
    rw [ek, er, ← e1, ← e2, h5]
theorem nmA_cong {nb no : Nat} {g e : Nat → Int32} (h : ∀ j, j < no → g j = e j) : nmA nb no g = nmA nb no e := by
  unfold nmA
  rw [← pA_eq (g := g) (e := e) (fun j hj => by rw [h j hj]), nm_cong (e := dA e) 8 (fun i _ hp => by rw [dA, dA, h i (pA_iff.mp hp).1])]
def RN (no : Nat) (W : Nat → Nat) (E : (Nat → Int32) → Nat → Nat → Prop) (g0 : Nat → Int32) : Nat → (Nat → Int32) → Nat → Prop
  | 0, g, w => (∀ j, j < no → g j = g0 j) ∧ w = 0
  | n + 1, g, w => ∃ (e : Nat → Int32) (j k u : Nat), RN no W E g0 n e u ∧ E e j k ∧ (∀ i, i < no → g i = upd e j (nI k) i) ∧ w = u + W j
def Eok (nb no : Nat) (E : (Nat → Int32) → Nat → Nat → Prop) : Prop := (∀ g j k, E g j k → j < no ∧ k < nb ∧ g j ≠ -1 ∧ ∀ i, i < no → g i ≠ nI k) ∧ ∀ g e j k, (∀ i, i < no → g i = e i) → E g j k → E e j k
theorem upd_eq (f : Nat → Int32) (k : Nat) (v : Int32) : upd f k v k = v := if_pos rfl
theorem upd_ne (f : Nat → Int32) {k j : Nat} (v : Int32) (h : j ≠ k) : upd f k v j = f j := if_neg h
theorem nI_m1 {k : Nat} (h : k < 2 ^ 31) : nI k ≠ -1 := fun z => nI_pos h (by rw [z]; decide)
theorem va_upd {nb no : Nat} {g : Nat → Int32} {j k : Nat} (h : Va nb no g) (hb : nb < 7) (hk : k < nb) (hn : g j ≠ -1) (hf : ∀ i, i < no → g i ≠ nI k) : Va nb no (upd g j (nI k)) ∧ ∀ i, i < no → (upd g j (nI k) i = -1 ↔ g i = -1) := by
  refine ⟨⟨fun i hi => ?_, fun i q hi hq h1 h2 => ?_⟩, fun i hi => ?_⟩
  · by_cases e : i = j
    · subst e; rw [upd_eq]; exact Or.inr ⟨k, hk, rfl⟩
    · rw [upd_ne _ _ e]; exact h.1 i hi
  · by_cases e : i = j
    · by_cases e2 : q = j
      · omega
      · subst e
        rw [upd_eq, upd_ne _ _ e2] at h2
        exact absurd h2.symm (hf q hq)
    · by_cases e2 : q = j
      · subst e2
        rw [upd_eq, upd_ne _ _ e] at h2
        exact absurd h2 (hf i hi)
      · rw [upd_ne _ _ e] at h1 h2
        rw [upd_ne _ _ e2] at h2
        exact h.2 i q hi hq h1 h2
  · by_cases e : i = j
    · subst e; rw [upd_eq]
      exact ⟨fun z => absurd z (nI_m1 (by omega)), fun z => absurd z hn⟩
    · rw [upd_ne _ _ e]
theorem va_cong {nb no : Nat} {g e : Nat → Int32} (h : ∀ j, j < no → g j = e j) (v : Va nb no e) : Va nb no g := by
  refine ⟨fun j hj => by rw [h j hj]; exact v.1 j hj, fun i j hi hj h1 h2 => v.2 i j hi hj (by rw [← h i hi]; exact h1) (by rw [← h i hi, ← h j hj]; exact h2)⟩
section RNS
variable {nb no : Nat} {W : Nat → Nat} {E : (Nat → Int32) → Nat → Nat → Prop} {g0 : Nat → Int32}
theorem rn_va (hE : Eok nb no E) (hb : nb < 7) (h0 : Va nb no g0) : ∀ {n : Nat} {g : Nat → Int32} {w : Nat}, RN no W E g0 n g w → Va nb no g ∧ ∀ j, j < no → (g j = -1 ↔ g0 j = -1)
  | 0, g, w, h => ⟨va_cong h.1 h0, fun j hj => by rw [h.1 j hj]⟩
  | n + 1, g, w, ⟨e, j, k, u, h1, h2, h3, _⟩ => by
    obtain ⟨i1, i2⟩ := rn_va hE hb h0 h1
    obtain ⟨_, q2, q3, q4⟩ := hE.1 e j k h2
    obtain ⟨v1, v2⟩ := va_upd i1 hb q2 q3 q4
    exact ⟨va_cong h3 v1, fun i hi => by rw [h3 i hi, v2 i hi, i2 i hi]⟩
theorem rn_cong {g e : Nat → Int32} (h : ∀ j, j < no → e j = g j) : ∀ {n w : Nat}, RN no W E g0 n g w → RN no W E g0 n e w
  | 0, w, q => ⟨fun j hj => by rw [h j hj, q.1 j hj], q.2⟩
  | n + 1, w, ⟨f, j, k, u, h1, h2, h3, h4⟩ => ⟨f, j, k, u, h1, h2, fun i hi => by rw [h i hi, h3 i hi], h4⟩
/-- the least weight of those that please, or -1 -/
def Lst (no : Nat) (W : Nat → Nat) (E : (Nat → Int32) → Nat → Nat → Prop) (g0 : Nat → Int32) (Cl : (Nat → Int32) → Prop) (v : Int32) : Prop :=
  (v = -1 ∧ ∀ n g w, RN no W E g0 n g w → ¬ Cl g) ∨ ∃ w n g, v = nI w ∧ RN no W E g0 n g w ∧ Cl g ∧ ∀ n' g' w', RN no W E g0 n' g' w' → Cl g' → w ≤ w'
theorem lst_uniq {Cl : (Nat → Int32) → Prop} {u v : Int32} (h : Lst no W E g0 Cl u) (h2 : Lst no W E g0 Cl v) : u = v := by
  rcases h with ⟨e, h⟩ | ⟨w, n, g, e, r, c, m⟩
  · rcases h2 with ⟨e2, _⟩ | ⟨w', n', g', _, r', c', _⟩
    · rw [e, e2]
    · exact absurd c' (h _ _ _ r')
  · rcases h2 with ⟨_, h2⟩ | ⟨w', n', g', e', r', c', m'⟩
    · exact absurd c (h2 _ _ _ r)
    · have a1 := m _ _ _ r' c'
      have a2 := m' _ _ _ r c
      rw [e, e', show w = w' by omega]
theorem least_ex {B : Nat → Prop} {w : Nat} (h : B w) : ∃ w, B w ∧ ∀ u, u < w → ¬ B u := by
  induction w using Nat.strongRecOn with
  | _ w ih =>
    by_cases z : ∃ u, u < w ∧ B u
    · obtain ⟨u, a, b⟩ := z
      exact ih u a b
    · exact ⟨w, h, fun u a b => z ⟨u, a, b⟩⟩
theorem lst_ex (Cl : (Nat → Int32) → Prop) : ∃ v, Lst no W E g0 Cl v := by
  by_cases h : ∃ w n g, RN no W E g0 n g w ∧ Cl g
  · obtain ⟨w0, h⟩ := h
    obtain ⟨w, ⟨n, g, r, c⟩, m⟩ := least_ex (B := fun w => ∃ n g, RN no W E g0 n g w ∧ Cl g) h
    exact ⟨nI w, Or.inr ⟨w, n, g, rfl, r, c, fun n' g' w' r' c' => Nat.le_of_not_lt fun z => m w' z ⟨n', g', r', c'⟩⟩⟩
  · exact ⟨-1, Or.inl ⟨rfl, fun n g w r c => h ⟨w, n, g, r, c⟩⟩⟩
theorem lst_0 {Cl : (Nat → Int32) → Prop} {v : Int32} (h : Lst no W E g0 Cl v) (hc : Cl g0) : v = nI 0 := by
  rcases h with ⟨_, h⟩ | ⟨w, n, g, e, _, _, m⟩
  · exact absurd hc (h 0 g0 0 ⟨fun _ _ => rfl, rfl⟩)
  · have := m 0 g0 0 ⟨fun _ _ => rfl, rfl⟩ hc
    rw [e, show w = 0 by omega]
end RNS
/-- an arrangement by its code -/
def CA (pb : Int32) (no : Nat) (c : Int32) (g : Nat → Int32) : Prop := ∀ j, j < 8 → (hoB pb (nI j) = true ↔ j < no ∧ g j ≠ -1) ∧ (hoB pb (nI j) = true → atE c j = g j)
theorem ca_nm {pb c : Int32} {nb no : Nat} {g : Nat → Int32} (h : CA pb no c g) (v : Va nb no g) (hb : nb < 7) : (nmI pb c (nI nb) 8).1 = nI (nmA nb no g) := by
  have hp : ∀ j, j < 8 → hoB pb (nI j) = pA no g j := fun j hj => by
    have h1 := (h j hj).1
    cases e : pA no g j with
    | true => exact h1.mpr (pA_iff.mp e)
    | false =>
      cases e2 : hoB pb (nI j) with
      | false => rfl
      | true => rw [pA_iff.mpr (h1.mp e2)] at e; cases e
  rw [nmI_R (va_gd v hb) hp (fun j hj hq => ?_) 8 (Nat.le_refl 8)]
  · rfl
  · rw [(h j hj).2 (by rw [hp j hj]; exact hq)]
    obtain ⟨q1, q2⟩ := pA_iff.mp hq
    obtain ⟨k, _, e1, e2⟩ := va_k v q1 q2 hb
    rw [e2, e1]
theorem ca_put {pb c : Int32} {nb no : Nat} {g : Nat → Int32} (h : CA pb no c g) (h8 : no ≤ 8) (hb : nb < 7) {j k : Nat} (hj : j < no) (hk : k < nb) (hn : g j ≠ -1) : CA pb no (putE c j (nI k)) (upd g j (nI k)) := by
  intro i hi
  by_cases e : i = j
  · subst e
    rw [upd_eq, at_put_eq (by omega) (by omega)]
    exact ⟨⟨fun _ => ⟨hj, nI_m1 (by omega)⟩, fun _ => (h i hi).1.mpr ⟨hj, hn⟩⟩, fun _ => rfl⟩
  · rw [upd_ne _ _ e, at_put_ne (by omega) hi (by omega) e]
    exact h i hi
theorem ca_cong {pb c : Int32} {no : Nat} {g e : Nat → Int32} (h : CA pb no c g) (q : ∀ j, j < no → g j = e j) : CA pb no c e := by
  intro j hj
  have h1 := h j hj
  refine ⟨h1.1.trans ⟨fun z => ⟨z.1, by rw [← q j z.1]; exact z.2⟩, fun z => ⟨z.1, by rw [q j z.1]; exact z.2⟩⟩, fun z => ?_⟩
  rw [h1.2 z, q j (h1.1.mp z).1]
theorem ca_uniq {pb c : Int32} {no : Nat} {g e : Nat → Int32} (h : CA pb no c g) (h2 : CA pb no c e) (h8 : no ≤ 8) : ∀ j, j < no → g j = e j := by
  intro j hj
  have h1 := h j (by omega)
  have h3 := h2 j (by omega)
  cases q : hoB pb (nI j) with
  | true => rw [← h1.2 q, ← h3.2 q]
  | false =>
    have a1 : g j = -1 := Decidable.byContradiction fun z => by rw [h1.1.mpr ⟨hj, z⟩] at q; cases q
    have a2 : e j = -1 := Decidable.byContradiction fun z => by rw [h3.1.mpr ⟨hj, z⟩] at q; cases q
    rw [a1, a2]
