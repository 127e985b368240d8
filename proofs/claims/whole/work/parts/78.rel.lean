/-! the searches: one relation of shifts for both sides -/
def Ed0 (nb no : Nat) (cap : Int32) (olf fr ow ol bw bl : Nat → Int32) : (Nat → Int32) → Nat → Nat → Prop := fun g j k => j < no ∧ k < nb ∧ seM cap g olf fr ow ol bw bl no j k = 110
def Cl0 (no : Nat) (fr : Nat → Int32) (j : Nat) : (Nat → Int32) → Prop := fun g => g j ≠ -1 ∧ shM g fr no (nN (g j)) (-1) = false
def Wf0 (ow : Nat → Int32) : Nat → Nat := fun j => nN (ow j)
theorem sh_cong {no k : Nat} {g e fr : Nat → Int32} {bu : Int32} (h : ∀ i, i < no → g i = e i) : shM g fr no k bu = shM e fr no k bu := by
  have hq : shQ g no bu = shQ e no bu := by
    funext x
    unfold shQ
    rw [ba_cong h]
  unfold shM
  rw [hq]
theorem se_cong {no j k : Nat} {cap : Int32} {g e olf fr ow ol bw bl : Nat → Int32} (h : ∀ i, i < no → g i = e i) (hj : j < no) : seM cap g olf fr ow ol bw bl no j k = seM cap e olf fr ow ol bw bl no j k := by
  unfold seM
  rw [h j hj, ba_cong h, sh_cong h, sh_cong h]
theorem rn_g0 {no : Nat} {W : Nat → Nat} {E : (Nat → Int32) → Nat → Nat → Prop} {g0 g1 : Nat → Int32} (h : ∀ i, i < no → g0 i = g1 i) : ∀ {n : Nat} {g : Nat → Int32} {w : Nat}, RN no W E g0 n g w → RN no W E g1 n g w
  | 0, g, w, q => ⟨fun j hj => by rw [q.1 j hj, h j hj], q.2⟩
  | n + 1, g, w, ⟨e, j, k, u, h1, h2, h3, h4⟩ => ⟨e, j, k, u, rn_g0 h h1, h2, h3, h4⟩
theorem lst_g0 {no : Nat} {W : Nat → Nat} {E : (Nat → Int32) → Nat → Nat → Prop} {g0 g1 : Nat → Int32} {Cl : (Nat → Int32) → Prop} {v : Int32} (h : ∀ i, i < no → g0 i = g1 i) (q : Lst no W E g0 Cl v) : Lst no W E g1 Cl v := by
  have h' : ∀ i, i < no → g1 i = g0 i := fun i hi => (h i hi).symm
  rcases q with ⟨e, q⟩ | ⟨w, n, g, e, r, c, m⟩
  · exact Or.inl ⟨e, fun n g w r => q n g w (rn_g0 h' r)⟩
  · exact Or.inr ⟨w, n, g, e, rn_g0 h r, c, fun n' g' w' r' => m n' g' w' (rn_g0 h' r')⟩
section RLC
variable {t nw : Nat} {wf wt : Nat → Int32} {nb : Nat} {fr bi bb : Nat → Int32} {no : Nat} {ow ob olf at_ aw : Nat → Int32}
theorem gb_at (h : Rel t nw wf wt nb fr bi bb no ow ob olf at_ aw) : ∀ i, i < no → gB ob nb i = at_ i := fun i hi => by
  unfold gB
  rcases pos_in h hi with ⟨e1, e2⟩ | ⟨k, hk, e1, e2, e3, e4, e5, e6⟩
  · rw [e2, if_neg Bool.false_ne_true, e1]
  · rw [if_pos e3, e2, e1]
theorem ok_Ed (h : Rel t nw wf wt nb fr bi bb no ow ob olf at_ aw) (cap : Int32) (ol bw bl : Nat → Int32) : Eok nb no (Ed0 nb no cap olf fr ow ol bw bl) := by
  have h8 := h.1.2.2.2
  refine ⟨fun g j k ⟨hj, hk, e⟩ => ⟨hj, hk, fun z => ?_, ?_⟩, fun g e j k hg ⟨hj, hk, z⟩ => ⟨hj, hk, by rw [← se_cong hg hj]; exact z⟩⟩
  · rw [seM, if_pos z] at e; exact absurd e (by decide)
  · unfold seM at e
    split at e
    case isTrue z => exact absurd e (by decide)
    split at e
    case isFalse z => exact absurd e (by decide)
    split at e
    case isFalse z => exact absurd e (by decide)
    rename_i d3
    exact vr_free h8 d3
theorem ok_EdM (nb no : Nat) (cap : Int32) (olf fr ow ol bw bl : Nat → Int32) : EdM nb no cap olf fr ow ol bw bl (Ed0 nb no cap olf fr ow ol bw bl) := fun g j k hj hk => ⟨fun z => z.2.2, fun z => ⟨hj, hk, z⟩⟩
theorem ok_EC (h : Rel t nw wf wt nb fr bi bb no ow ob olf at_ aw) (cap pb : Int32) (ol bw bl : Nat → Int32) : EC nb no (Ed0 nb no cap olf fr ow ol bw bl) pb cap olf ow ol bw bl bi := by
  have h6 := h.1.2.2.1
  have h8 := h.1.2.2.2
  intro c g hC v j k hj hk
  have hcj := hC j (by omega)
  constructor
  · rintro ⟨_, _, e⟩
    have hn : g j ≠ -1 := fun z => by rw [seM, if_pos z] at e; exact absurd e (by decide)
    have hb := hcj.1.mpr ⟨hj, hn⟩
    have ea := hcj.2 hb
    obtain ⟨f, hf, ef, _⟩ := va_k v hj hn (by omega)
    refine ⟨hb, by rw [ea, ef]; exact (inB_iff (by omega)).mpr ⟨f, hf, rfl⟩, ?_⟩
    rw [ea, ef, show nN (nI f) = f from nI_clamp (by omega), pl_se (oc_ca hC v h8) (rel_fr h) h6 h8 v hf hj ef hk]
    exact e
  · rintro ⟨hb, _, e⟩
    obtain ⟨_, hn⟩ := hcj.1.mp hb
    have ea := hcj.2 hb
    obtain ⟨f, hf, ef, _⟩ := va_k v hj hn (by omega)
    rw [ea, ef, show nN (nI f) = f from nI_clamp (by omega), pl_se (oc_ca hC v h8) (rel_fr h) h6 h8 v hf hj ef hk] at e
    exact ⟨hj, hk, e⟩
theorem cl_cong {j : Nat} (hj : j < no) : ∀ g e : Nat → Int32, (∀ i, i < no → g i = e i) → Cl0 no fr j g → Cl0 no fr j e := fun g e hg ⟨z1, z2⟩ => ⟨by rw [← hg j hj]; exact z1, by rw [← hg j hj, ← sh_cong hg]; exact z2⟩
theorem ok_ClC (h : Rel t nw wf wt nb fr bi bb no ow ob olf at_ aw) {j : Nat} (hj : j < no) (hb : inB (ob j) nb = true) : ClC nb no (beS ob nb no) bi j (Cl0 no fr j) := by
  have h6 := h.1.2.2.1
  have h8 := h.1.2.2.2
  refine ⟨cl_cong hj, fun pcd p g hC v => ?_⟩
  have hcj := hC j (by omega)
  have hh : hoB (beS ob nb no) (nI j) = true := by
    rw [ho_bt (by omega)]
    exact (be_bt (by omega) no h8).mpr ⟨hj, hb⟩
  obtain ⟨_, hn⟩ := hcj.1.mp hh
  have ea := hcj.2 hh
  obtain ⟨f, hf, ef, _⟩ := va_k v hj hn (by omega)
  have e1 : nN (nI f) = f := nI_clamp (by omega)
  have e2 : inB (nI f) nb = true := (inB_iff (by omega)).mpr ⟨f, hf, rfl⟩
  unfold clrC Cl0
  rw [ea, ef, e1, e2, Bool.true_and, decide_eq_true_iff, sh1_0 (oc_ca hC v h8) (rel_fr h) h6 h8 hf]
  exact ⟨fun z => ⟨nI_m1 (by omega), z⟩, fun z => z.2⟩
theorem ok_cw (h : Rel t nw wf wt nb fr bi bb no ow ob olf at_ aw) {j : Nat} (hj : j < no) (hb : inB (ob j) nb = true) : cwF ob bb bi nb j = true ↔ Cl0 no fr j (gB ob nb) := by
  have h6 := h.1.2.2.1
  have h8 := h.1.2.2.2
  rcases pos_in h hj with ⟨e1, e2⟩ | ⟨k, hk, e1, e2, e3, e4, e5, e6⟩
  · rw [e2] at hb; cases hb
  · have e7 : (ob j).toNatClampNeg = k := e4
    have hg : Cl0 no fr j (gB ob nb) ↔ Cl0 no fr j at_ := ⟨cl_cong hj _ _ (gb_at h), cl_cong hj _ _ (fun i hi => (gb_at h i hi).symm)⟩
    rw [hg]
    unfold cwF Cl0
    rw [hb, Bool.true_and, decide_eq_true_iff, e7, sh1_0 (rel_occ h) (rel_fr h) h6 h8 hk, e5]
    exact ⟨fun z => ⟨e6, z⟩, fun z => z.2⟩
theorem ok_ClM {j : Nat} (hj : j < no) : ClM nb no fr j (Cl0 no fr j) := ⟨cl_cong hj, fun g v hn => ⟨fun z => z.2, fun z => ⟨hn, z⟩⟩⟩
theorem ok_W (h : Rel t nw wf wt nb fr bi bb no ow ob olf at_ aw) : Wok no ow (Wf0 ow) := fun j hj => by
  obtain ⟨w, h1, h2, e⟩ := h.2.2.2.2.1 j hj
  have e2 : Wf0 ow j = w := by
    unfold Wf0
    rw [e]
    exact nI_clamp (by omega)
  rw [e2]
  exact ⟨e, h1, h2⟩
theorem va_gB (h : Rel t nw wf wt nb fr bi bb no ow ob olf at_ aw) : Va nb no (gB ob nb) := va_cong (gb_at h) (rel_va h)
theorem in_lt (h : Rel t nw wf wt nb fr bi bb no ow ob olf at_ aw) {b : Int32} (c : inB b no = true) : nN b < no := by
  have h8 := h.1.2.2.2
  obtain ⟨j, hj, rfl⟩ := (inB_iff (by omega)).mp c
  rw [show nN (nI j) = j from nI_clamp (by omega)]
  exact hj
end RLC
