/-! reasons and codes agree -/
section RLA
variable {t nw : Nat} {wf wt : Nat → Int32} {nb : Nat} {fr bi bb : Nat → Int32} {no : Nat} {ow ob olf at_ aw : Nat → Int32}
theorem rel_pos (h : Rel t nw wf wt nb fr bi bb no ow ob olf at_ aw) {j : Nat} (hj : j < no) : Pos nb (ob j) (at_ j) (aw j) := h.2.2.2.2.2.1 j hj
theorem rel_occ (h : Rel t nw wf wt nb fr bi bb no ow ob olf at_ aw) : OccA no at_ (nI (occN bb nb)) := occ_bb h.1.2.2.2 h.1.2.2.1 h.2.2.2.2.2.2.1 h.2.2.2.2.2.2.2.1
theorem rel_va (h : Rel t nw wf wt nb fr bi bb no ow ob olf at_ aw) : Va nb no at_ := h.2.2.2.2.2.2.1
theorem rel_fr (h : Rel t nw wf wt nb fr bi bb no ow ob olf at_ aw) : FR nb fr bi := h.2.2.2.1
theorem rel_bb (h : Rel t nw wf wt nb fr bi bb no ow ob olf at_ aw) : BBr nb no bb at_ := h.2.2.2.2.2.2.2.1
theorem pos_wait (h : Rel t nw wf wt nb fr bi bb no ow ob olf at_ aw) {j : Nat} (hj : j < no) : wtM aw at_ j = true ↔ ob j = -1 := by
  have h6 := h.1.2.2.1
  unfold wtM
  rw [decide_eq_true_iff]
  rcases rel_pos h hj with ⟨e1, e2, e3⟩ | ⟨e1, e2, e3⟩ | ⟨k, hk, e1, e2, e3⟩
  · rw [e1, e2, e3]; simp
  · rw [e1, e2, e3]; decide
  · rw [e1, e2, e3]
    exact ⟨fun z => absurd z.2 (nI_m1 (by omega)), fun z => absurd z (nI_m1 (by omega))⟩
/-- where the boat is, by the class: in a berth just where the reference says so -/
theorem pos_in (h : Rel t nw wf wt nb fr bi bb no ow ob olf at_ aw) {j : Nat} (hj : j < no) : (at_ j = -1 ∧ inB (ob j) nb = false) ∨ ∃ k, k < nb ∧ at_ j = nI k ∧ ob j = nI k ∧ inB (ob j) nb = true ∧ nN (ob j) = k ∧ nN (at_ j) = k ∧ ¬ at_ j = -1 := by
  have h6 := h.1.2.2.1
  rcases rel_pos h hj with ⟨e1, e2, e3⟩ | ⟨e1, e2, e3⟩ | ⟨k, hk, e1, e2, e3⟩
  · exact Or.inl ⟨e2, by rw [e1]; exact decide_eq_false fun z => absurd z.1 (by decide)⟩
  · exact Or.inl ⟨e2, by rw [e1]; exact decide_eq_false fun z => absurd z.1 (by decide)⟩
  · exact Or.inr ⟨k, hk, e2, e1, by rw [e1]; exact (inB_iff (by omega)).mpr ⟨k, hk, rfl⟩, by rw [e1]; exact nI_clamp (by omega), by rw [e2]; exact nI_clamp (by omega), by rw [e2]; exact nI_m1 (by omega)⟩
theorem li_M (h : Rel t nw wf wt nb fr bi bb no ow ob olf at_ aw) (cap clr tb tf ts hom now : Int32) (bad : Bool) (od ol bw bl : Nat → Int32) {j k : Nat} (hj : j < no) (hk : k < nb) : liF cap clr tb tf ts hom now bad ob bb od ow ol bw bl bi nb j k = liM cap clr tb tf ts hom now bad aw at_ fr od ow ol bw bl no j k := by
  have h6 := h.1.2.2.1
  have h8 := h.1.2.2.2
  have hO := rel_occ h
  unfold liF liM goL
  rcases rel_pos h hj with ⟨e1, e2, e3⟩ | ⟨e1, e2, e3⟩ | ⟨q, hq, e1, e2, e3⟩
  · rw [if_pos e1, if_pos e3, if_pos e2]
    have h3 := ho_occ hO h8 (show k < 32 by omega)
    have h4 := sh1_0 hO (rel_fr h) h6 h8 hk
    by_cases c2 : fI (baM at_ (nI k) no) = -1
    · have c3 : hoB (nI (occN bb nb)) (nI k) = false := by rw [← Bool.not_eq_true, h3]; exact fun z => z c2
      rw [if_pos c2, c3, if_neg Bool.false_ne_true]
      cases z1 : shM at_ fr no k (-1) with
      | true => rw [if_neg (fun y => by rw [h4, z1] at y; cases y), if_pos rfl]
      | false => rw [if_pos (h4.mpr z1), if_neg Bool.false_ne_true]
    · rw [if_neg c2, if_pos (h3.mpr c2)]
  · rw [if_neg (show ¬ ob j = -1 by rw [e1]; decide), if_neg (show ¬ aw j = 0 by rw [e3]; decide)]
  · rw [if_neg (show ¬ ob j = -1 by rw [e1]; exact nI_m1 (by omega)), if_pos e3, if_neg (show ¬ at_ j = -1 by rw [e2]; exact nI_m1 (by omega))]
theorem la_M (h : Rel t nw wf wt nb fr bi bb no ow ob olf at_ aw) (cap clr tb tf ts hom now : Int32) (bad : Bool) (od : Nat → Int32) {j : Nat} (hj : j < no) : laR cap clr tb tf ts hom now bad ob olf bb od ow bi nb j = lnM cap clr tb tf ts hom now bad at_ olf fr od ow no j := by
  have h6 := h.1.2.2.1
  have h8 := h.1.2.2.2
  unfold laR lnM laF
  rcases pos_in h hj with ⟨e1, e2⟩ | ⟨k, hk, e1, e2, e3, e4, e5, e6⟩
  · rw [e2, if_neg Bool.false_ne_true, if_pos e1]
  · have h4 := sh1_0 (rel_occ h) (rel_fr h) h6 h8 hk
    rw [if_pos e3, if_neg e6, e4, e5]
    by_cases c1 : olf j ≤ 0
    · rw [if_pos c1, if_pos c1]
      cases z1 : shM at_ fr no k (-1) with
      | true => rw [if_neg (fun y => by rw [h4, z1] at y; cases y), if_pos rfl]
      | false => rw [if_pos (h4.mpr z1), if_neg Bool.false_ne_true]
    · rw [if_neg c1, if_neg c1]
theorem sh_M (h : Rel t nw wf wt nb fr bi bb no ow ob olf at_ aw) (cap hom now : Int32) (bad : Bool) (ol bw bl : Nat → Int32) {j k : Nat} (hj : j < no) (hk : k < nb) : shR cap hom now bad ob olf ow ol bw bl bi bb nb j k = snM cap hom now bad at_ olf fr ow ol bw bl no j k := by
  unfold shR snM sbF
  rcases pos_in h hj with ⟨e1, e2⟩ | ⟨f, hf, e1, e2, e3, e4, e5, e6⟩
  · have e : seM cap at_ olf fr ow ol bw bl no j k = 97 := by rw [seM, if_pos e1]
    rw [e2, if_neg Bool.false_ne_true, e, if_neg (by decide)]
  · rw [if_pos e3, e4, pl_se (rel_occ h) (rel_fr h) h.1.2.2.1 h.1.2.2.2 (rel_va h) hf hj e1 hk]
theorem mv_li (h : Rel t nw wf wt nb fr bi bb no ow ob olf at_ aw) (cap clr tb tf ts hom now : Int32) (bad : Bool) (od ol bw bl : Nat → Int32) (b g : Int32) : mvC no nb b g (liF cap clr tb tf ts hom now bad ob bb od ow ol bw bl bi nb (nN b) (nN g)) = mvC no nb b g (liM cap clr tb tf ts hom now bad aw at_ fr od ow ol bw bl no (nN b) (nN g)) := by
  have h6 := h.1.2.2.1
  have h8 := h.1.2.2.2
  by_cases c : inB b no = true ∧ inB g nb = true
  · obtain ⟨j, hj, rfl⟩ := (inB_iff (by omega)).mp c.1
    obtain ⟨k, hk, rfl⟩ := (inB_iff (by omega)).mp c.2
    rw [show nN (nI j) = j from nI_clamp (by omega), show nN (nI k) = k from nI_clamp (by omega), li_M h _ _ _ _ _ _ _ _ _ _ _ _ hj hk]
  · rw [mvC, mvC, if_neg c, if_neg c]
theorem bb_li (h : Rel t nw wf wt nb fr bi bb no ow ob olf at_ aw) (cap clr tb tf ts hom now : Int32) (bad : Bool) (od ol bw bl : Nat → Int32) {b g : Int32} (c : bbC no nb b g = 0) : liF cap clr tb tf ts hom now bad ob bb od ow ol bw bl bi nb (nN b) (nN g) = liM cap clr tb tf ts hom now bad aw at_ fr od ow ol bw bl no (nN b) (nN g) := by
  have h6 := h.1.2.2.1
  have h8 := h.1.2.2.2
  by_cases c2 : inB b no = true ∧ inB g nb = true
  · obtain ⟨j, hj, rfl⟩ := (inB_iff (by omega)).mp c2.1
    obtain ⟨k, hk, rfl⟩ := (inB_iff (by omega)).mp c2.2
    rw [show nN (nI j) = j from nI_clamp (by omega), show nN (nI k) = k from nI_clamp (by omega), li_M h _ _ _ _ _ _ _ _ _ _ _ _ hj hk]
  · rw [bbC, if_neg c2] at c; cases c
theorem mv_sh (h : Rel t nw wf wt nb fr bi bb no ow ob olf at_ aw) (cap hom now : Int32) (bad : Bool) (ol bw bl : Nat → Int32) (b g : Int32) : mvC no nb b g (shR cap hom now bad ob olf ow ol bw bl bi bb nb (nN b) (nN g)) = mvC no nb b g (snM cap hom now bad at_ olf fr ow ol bw bl no (nN b) (nN g)) := by
  have h6 := h.1.2.2.1
  have h8 := h.1.2.2.2
  by_cases c : inB b no = true ∧ inB g nb = true
  · obtain ⟨j, hj, rfl⟩ := (inB_iff (by omega)).mp c.1
    obtain ⟨k, hk, rfl⟩ := (inB_iff (by omega)).mp c.2
    rw [show nN (nI j) = j from nI_clamp (by omega), show nN (nI k) = k from nI_clamp (by omega), sh_M h _ _ _ _ _ _ _ hj hk]
  · rw [mvC, mvC, if_neg c, if_neg c]
theorem bb_sh (h : Rel t nw wf wt nb fr bi bb no ow ob olf at_ aw) (cap hom now : Int32) (bad : Bool) (ol bw bl : Nat → Int32) {b g : Int32} (c : bbC no nb b g = 0) : shR cap hom now bad ob olf ow ol bw bl bi bb nb (nN b) (nN g) = snM cap hom now bad at_ olf fr ow ol bw bl no (nN b) (nN g) := by
  have h6 := h.1.2.2.1
  have h8 := h.1.2.2.2
  by_cases c2 : inB b no = true ∧ inB g nb = true
  · obtain ⟨j, hj, rfl⟩ := (inB_iff (by omega)).mp c2.1
    obtain ⟨k, hk, rfl⟩ := (inB_iff (by omega)).mp c2.2
    rw [show nN (nI j) = j from nI_clamp (by omega), show nN (nI k) = k from nI_clamp (by omega), sh_M h _ _ _ _ _ _ _ hj hk]
  · rw [bbC, if_neg c2] at c; cases c
theorem ml_la (h : Rel t nw wf wt nb fr bi bb no ow ob olf at_ aw) (cap clr tb tf ts hom now : Int32) (bad : Bool) (od : Nat → Int32) (b : Int32) : mlC no b (laR cap clr tb tf ts hom now bad ob olf bb od ow bi nb (nN b)) = mlC no b (lnM cap clr tb tf ts hom now bad at_ olf fr od ow no (nN b)) := by
  have h8 := h.1.2.2.2
  by_cases c : inB b no = true
  · obtain ⟨j, hj, rfl⟩ := (inB_iff (by omega)).mp c
    rw [show nN (nI j) = j from nI_clamp (by omega), la_M h _ _ _ _ _ _ _ _ _ hj]
  · rw [mlC, mlC, if_neg c, if_neg c]
theorem bo_la (h : Rel t nw wf wt nb fr bi bb no ow ob olf at_ aw) (cap clr tb tf ts hom now : Int32) (bad : Bool) (od : Nat → Int32) {b : Int32} (c : boC no b = 0) : laR cap clr tb tf ts hom now bad ob olf bb od ow bi nb (nN b) = lnM cap clr tb tf ts hom now bad at_ olf fr od ow no (nN b) := by
  have h8 := h.1.2.2.2
  by_cases c2 : inB b no = true
  · obtain ⟨j, hj, rfl⟩ := (inB_iff (by omega)).mp c2
    rw [show nN (nI j) = j from nI_clamp (by omega), la_M h _ _ _ _ _ _ _ _ _ hj]
  · rw [boC, if_neg c2] at c; cases c
theorem cb_M (h : Rel t nw wf wt nb fr bi bb no ow ob olf at_ aw) (b : Int32) : cbC no ob b = cbM no aw b := by
  have h6 := h.1.2.2.1
  have h8 := h.1.2.2.2
  by_cases c : inB b no = true
  · obtain ⟨j, hj, rfl⟩ := (inB_iff (by omega)).mp c
    rw [cbC, cbM, if_pos c, if_pos c, show nN (nI j) = j from nI_clamp (by omega)]
    rcases rel_pos h hj with ⟨e1, e2, e3⟩ | ⟨e1, e2, e3⟩ | ⟨k, hk, e1, e2, e3⟩
    · rw [if_neg (show ¬ ob j = -2 by rw [e1]; decide), if_pos e3]
    · rw [if_pos e1, if_neg (show ¬ aw j = 0 by rw [e3]; decide)]
    · rw [if_neg (show ¬ ob j = -2 by rw [e1]; exact fun z => nI_pos (n := k) (by omega) (by rw [z]; decide)), if_pos e3]
  · rw [cbC, cbM, if_neg c, if_neg c]
theorem fw_M (h : Rel t nw wf wt nb fr bi bb no ow ob olf at_ aw) (ork : Nat → Int32) : ∀ k, k ≤ no → fW ob ork ow k = fwM aw at_ ork ow k
  | 0, _ => rfl
  | k + 1, hk => by
    have ih := fw_M h ork k (by omega)
    rw [fW, fwM, ih]
    by_cases c : ob k = -1
    · rw [if_pos c, if_pos ((pos_wait h (by omega)).mpr c)]
    · rw [if_neg c, if_neg (fun z => c ((pos_wait h (by omega)).mp z))]
theorem nw_M (h : Rel t nw wf wt nb fr bi bb no ow ob olf at_ aw) (ork : Nat → Int32) : nwC no ob ork ow = nwM no aw at_ ork ow := by rw [nwC, nwM, fw_M h ork no (Nat.le_refl _)]
theorem cw_M (h : Rel t nw wf wt nb fr bi bb no ow ob olf at_ aw) : ∀ k, k ≤ no → cntW ob k = fb_ct (wtM aw at_) k
  | 0, _ => rfl
  | k + 1, hk => by
    have ih := cw_M h k (by omega)
    rw [cntW, fb_ct_succ, ih]
    by_cases c : ob k = -1
    · rw [if_pos c, if_pos ((pos_wait h (by omega)).mpr c)]
    · rw [if_neg c, if_neg (fun z => c ((pos_wait h (by omega)).mp z))]
      rfl
theorem sw_M (h : Rel t nw wf wt nb fr bi bb no ow ob olf at_ aw) (od : Nat → Int32) : ∀ k, k ≤ no → sumW ob od k = smP (wtM aw at_) od k
  | 0, _ => rfl
  | k + 1, hk => by
    have ih := sw_M h od k (by omega)
    rw [sumW, smP, ih]
    by_cases c : ob k = -1
    · rw [if_pos c, if_pos ((pos_wait h (by omega)).mpr c)]
    · rw [if_neg c, if_neg (fun z => c ((pos_wait h (by omega)).mp z))]
theorem oc_M (h : Rel t nw wf wt nb fr bi bb no ow ob olf at_ aw) : ∀ k, k ≤ nb → ocC bb k = ocC (fun k => fI (baM at_ (nI k) no)) k
  | 0, _ => rfl
  | k + 1, hk => by
    have ih := oc_M h k (by omega)
    rw [ocC, ocC, ih, rel_bb h k (by omega)]
theorem st_M (h : Rel t nw wf wt nb fr bi bb no ow ob olf at_ aw) {b : Int32} (c : boC no b = 0) : stF ob (nN b) = stM aw at_ (nN b) := by
  have h6 := h.1.2.2.1
  have h8 := h.1.2.2.2
  by_cases c2 : inB b no = true
  · obtain ⟨j, hj, rfl⟩ := (inB_iff (by omega)).mp c2
    rw [show nN (nI j) = j from nI_clamp (by omega)]
    have hw := pos_wait h hj
    unfold stF stM
    rcases rel_pos h hj with ⟨e1, e2, e3⟩ | ⟨e1, e2, e3⟩ | ⟨k, hk, e1, e2, e3⟩
    · rw [if_pos e1, if_pos (hw.mpr e1)]
    · have e4 : ¬ ob j = -1 := by rw [e1]; decide
      rw [if_neg e4, if_neg (fun z => e4 (hw.mp z)), if_pos e1, if_pos e2]
    · have e4 : ¬ ob j = -1 := by rw [e1]; exact nI_m1 (by omega)
      rw [if_neg e4, if_neg (fun z => e4 (hw.mp z)), if_neg (show ¬ ob j = -2 by rw [e1]; exact fun z => nI_pos (n := k) (by omega) (by rw [z]; decide)), if_neg (show ¬ at_ j = -1 by rw [e2]; exact nI_m1 (by omega))]
  · rw [boC, if_neg c2] at c; cases c
theorem be_M (h : Rel t nw wf wt nb fr bi bb no ow ob olf at_ aw) (b : Int32) : beC no nb ob b = beM no at_ b := by
  have h8 := h.1.2.2.2
  by_cases c : inB b no = true
  · obtain ⟨j, hj, rfl⟩ := (inB_iff (by omega)).mp c
    rw [beC, beM, if_pos c, if_pos c, show nN (nI j) = j from nI_clamp (by omega)]
    rcases pos_in h hj with ⟨e1, e2⟩ | ⟨k, hk, e1, e2, e3, e4, e5, e6⟩
    · rw [e2, if_neg Bool.false_ne_true, if_pos e1]
    · rw [if_pos e3, if_neg e6]
  · rw [beC, beM, if_neg c, if_neg c]
theorem be_V (h : Rel t nw wf wt nb fr bi bb no ow ob olf at_ aw) {b : Int32} (c : beM no at_ b = 0) : ob (nN b) = at_ (nN b) := by
  have h8 := h.1.2.2.2
  by_cases c2 : inB b no = true
  · obtain ⟨j, hj, rfl⟩ := (inB_iff (by omega)).mp c2
    rw [beM, if_pos c2, show nN (nI j) = j from nI_clamp (by omega)] at c
    rw [show nN (nI j) = j from nI_clamp (by omega)]
    rcases pos_in h hj with ⟨e1, e2⟩ | ⟨k, hk, e1, e2, e3, e4, e5, e6⟩
    · rw [if_pos e1] at c; cases c
    · rw [e1, e2]
  · rw [beM, if_neg c2] at c; cases c
theorem bn_M (h : Rel t nw wf wt nb fr bi bb no ow ob olf at_ aw) (g : Int32) : bnC nb bb g = bnM nb no at_ g := by
  have h6 := h.1.2.2.1
  by_cases c : inB g nb = true
  · obtain ⟨k, hk, rfl⟩ := (inB_iff (by omega)).mp c
    rw [bnC, bnM, if_pos c, if_pos c, show nN (nI k) = k from nI_clamp (by omega), rel_bb h k hk]
  · rw [bnC, bnM, if_neg c, if_neg c]
theorem bn_V (h : Rel t nw wf wt nb fr bi bb no ow ob olf at_ aw) {g : Int32} (c : bnM nb no at_ g = 0) : bb (nN g) = fI (baM at_ g no) := by
  have h6 := h.1.2.2.1
  by_cases c2 : inB g nb = true
  · obtain ⟨k, hk, rfl⟩ := (inB_iff (by omega)).mp c2
    rw [show nN (nI k) = k from nI_clamp (by omega), rel_bb h k hk]
  · rw [bnM, if_neg c2] at c; cases c
theorem pa_M (h : Rel t nw wf wt nb fr bi bb no ow ob olf at_ aw) (bad : Bool) (b x : Int32) : paC no nb bad ob olf b x = paM no bad at_ olf b x := by
  have h8 := h.1.2.2.2
  by_cases c : inB b no = true
  · obtain ⟨j, hj, rfl⟩ := (inB_iff (by omega)).mp c
    rw [paC, paM, if_pos c, if_pos c, show nN (nI j) = j from nI_clamp (by omega)]
    by_cases c2 : outR x 4 48 = false
    · rw [if_pos c2, if_pos c2]
      rcases pos_in h hj with ⟨e1, e2⟩ | ⟨k, hk, e1, e2, e3, e4, e5, e6⟩
      · rw [if_neg (fun z => by rw [e2] at z; exact absurd z.1 Bool.false_ne_true), if_pos e1]
      · rw [if_neg e6]
        by_cases c3 : 0 < olf j
        · rw [if_pos c3, if_neg (fun z => z.2.1 c3)]
        · rw [if_neg c3]
          by_cases c4 : bad = false
          · rw [if_pos c4, if_pos ⟨e3, c3, c4⟩]
          · rw [if_neg c4, if_neg (fun z => c4 z.2.2)]
    · rw [if_neg c2, if_neg c2]
  · rw [paC, paM, if_neg c, if_neg c]
theorem ls_M (h : Rel t nw wf wt nb fr bi bb no ow ob olf at_ aw) (b v : Int32) : lsC no nb ob b v = lmC no at_ b v := by
  have h8 := h.1.2.2.2
  by_cases c : inB b no = true
  · obtain ⟨j, hj, rfl⟩ := (inB_iff (by omega)).mp c
    rw [lsC, lmC, if_pos c, if_pos c, show nN (nI j) = j from nI_clamp (by omega)]
    rcases pos_in h hj with ⟨e1, e2⟩ | ⟨k, hk, e1, e2, e3, e4, e5, e6⟩
    · rw [e2, if_neg Bool.false_ne_true, if_pos e1]
    · rw [if_pos e3, if_neg e6]
  · rw [lsC, lmC, if_neg c, if_neg c]
end RLA
