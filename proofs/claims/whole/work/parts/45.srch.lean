set_option maxHeartbeats 800000 in
set_option maxRecDepth 100000 in
theorem c_X5_isClearAt (l : Launch) (D : va_G) (y : Nat → ClassId) (a : Nat → Nat) (cap clr : Int32) (t : Nat) (hom mov : Int32) (wm : Int64) (tb tf ts : Int32) (nw : Nat) (wf wt : Nat → Int32) (nb : Nat) (bw bl bi bb : Nat → Int32) (no : Nat) (od ow ol ork ob olf oco : Nat → Int32) (pn pb pm : Int32) (pcd pw pli : Nat → Int32) (pp : Nat) (j : Nat) (hb6 : nb ≤ 6) (hpp : pp < 720) (hj8 : j < 8) : zP l D y yX5_isClearAt cX5_isClearAt 5 (some .boolean) 2 0 0 44 [Value.ref (a 0), Value.int (nI pp), Value.int (nI j)] (wB a y cap clr (nI t) hom mov wm tb tf ts (nI nw) wf wt (nI nb) bw bl bi bb (nI no) od ow ol ork ob olf oco pn pb pm pcd pw pli) (fun o9 w9 => o9 = some (Value.int (bI (clrC pcd pb bi nb pp j))) ∧ w9 = wB a y cap clr (nI t) hom mov wm tb tf ts (nI nw) wf wt (nI nb) bw bl bi bb (nI no) od ow ol ork ob olf oco pn pb pm pcd pw pli) := by
  refine zP.of (by decide +kernel) (Nat.le_of_ble_eq_true rfl) ?_
  intro p e s m args below meth c A ls hx hb hr hta hown hlocks hml hin hN hK hP hD hS hA hl
  refine z_gen (fun G hG => ?_)
  have hl : lv_has ls 5 [(0, Value.ref (a 0)), (1, Value.int (nI pp)), (2, Value.int (nI j))] := hl
  refine lv_aload_n hx hb dX5_isClearAt_0 rfl (lv_at hl 0 rfl) ?_
  refine gB5_places hx hb hta hown hK hP wd_2_9 dX5_isClearAt_1 ?_
  refine gB2_code hx hb hta hown hK hP wd_31_18 dX5_isClearAt_4 ?_
  refine lv_iload_n hx hb dX5_isClearAt_7 rfl (lv_at hl 1 rfl) ?_
  refine aB_pcd hx hb hK hP pp rfl (by omega) dX5_isClearAt_8 ?_
  refine lv_istore_n (lv' := [(3, Value.int (pcd pp)), (0, Value.ref (a 0)), (1, Value.int (nI pp)), (2, Value.int (nI j))]) hx hb dX5_isClearAt_9 rfl hl (by decide) rfl (fun ls hl => ?_)
  refine lv_iload_n hx hb dX5_isClearAt_10 rfl (lv_at hl 0 rfl) ?_
  refine lv_iload_n hx hb dX5_isClearAt_11 rfl (lv_at hl 3 rfl) ?_
  refine z_callS (As := [Value.int (pcd pp), Value.int (nI j)]) (rest := []) hx hb hml hown hta zm_X2_berthAt wd_31_19 (c_X2_berthAt l D y a cap clr t hom mov wm tb tf ts nw wf wt nb bw bl bi bb no od ow ol ork ob olf oco pn pb pm pcd pw pli (pcd pp) j) hN hK hP hD hS hA rfl hl rfl (Nat.le_of_ble_eq_true rfl) ⟨Nat.le_of_ble_eq_true rfl, Nat.le_of_ble_eq_true rfl⟩ ⟨Nat.le_of_ble_eq_true rfl, Nat.le_of_ble_eq_true rfl⟩ dX5_isClearAt_12 (fun v w' H locs hq hP hD hS => ?_)
  obtain ⟨rfl, rfl⟩ := hq
  refine lv_istore (lv' := [(4, Value.int (atE (pcd pp) j)), (3, Value.int (pcd pp)), (0, Value.ref (a 0)), (1, Value.int (nI pp)), (2, Value.int (nI j))]) hx hb dX5_isClearAt_15 hl (by decide) rfl (fun ls hl => ?_)
  refine lv_aload_n hx hb dX5_isClearAt_17 rfl (lv_at hl 2 rfl) ?_
  refine gB5_berths hx hb hta hown hK hP wd_2_1 dX5_isClearAt_18 ?_
  refine lv_iload hx hb dX5_isClearAt_21 (lv_at hl 0 rfl) ?_
  refine z_callV (As := [Value.int (atE (pcd pp) j)]) (rest := []) hx hb hml hown hta zm_X0_has wd_6_8 (c_X0_has l D y a cap clr t hom mov wm tb tf ts nw wf wt nb bw bl bi bb no od ow ol ork ob olf oco pn pb pm pcd pw pli (atE (pcd pp) j) (by omega)) hN hK hP hD hS hA 3 rfl rfl rfl hl rfl (Nat.le_of_ble_eq_true rfl) ⟨Nat.le_of_ble_eq_true rfl, Nat.le_of_ble_eq_true rfl⟩ ⟨Nat.le_of_ble_eq_true rfl, Nat.le_of_ble_eq_true rfl⟩ dX5_isClearAt_23 (fun v w' H locs hq hP hD hS => ?_)
  obtain ⟨rfl, rfl⟩ := hq
  refine lv_if_eq (tgt := 55) hx hb dX5_isClearAt_26 (by decide) (fun c26 => ?_) (fun c26 => ?_)
  · have c26 := bI_0 c26
    refine lv_iconst (v := (0 : Int32)) hx hb dX5_isClearAt_55 (by decide) ?_
    refine z_zret hG hx hb hr hlocks hP hD hS (Nat.le_of_ble_eq_true rfl) (Nat.le_of_ble_eq_true rfl) dX5_isClearAt_56 ?_ ?_
    · rfl
    · refine zqi ?_
      first
      | exact bI_f (by rw [clrC, c26]; rfl)
      | exact bI_t (by rw [clrC, c26, ef, show nN (nI f) = f from nI_clamp (by omega), decide_eq_true c48]; rfl)
      | exact bI_f (by rw [clrC, c26, ef, show nN (nI f) = f from nI_clamp (by omega), decide_eq_false c48]; rfl)
  · have c26 := bI_1 c26
    obtain ⟨f, hf, ef⟩ := (inB_iff (by omega)).mp c26
    refine lv_aload_n hx hb dX5_isClearAt_29 rfl (lv_at hl 2 rfl) ?_
    refine gB5_places hx hb hta hown hK hP wd_2_9 dX5_isClearAt_30 ?_
    refine lv_iload_n hx hb dX5_isClearAt_33 rfl (lv_at hl 1 rfl) ?_
    refine z_callV (As := [Value.int (pcd pp)]) (rest := []) hx hb hml hown hta zm_X2_occupiedAt wd_31_20 (c_X2_occupiedAt l D y a cap clr t hom mov wm tb tf ts nw wf wt nb bw bl bi bb no od ow ol ork ob olf oco pn pb pm pcd pw pli (pcd pp)) hN hK hP hD hS hA 5 rfl rfl rfl hl rfl (Nat.le_of_ble_eq_true rfl) ⟨Nat.le_of_ble_eq_true rfl, Nat.le_of_ble_eq_true rfl⟩ ⟨Nat.le_of_ble_eq_true rfl, Nat.le_of_ble_eq_true rfl⟩ dX5_isClearAt_34 (fun v w' H locs hq hP hD hS => ?_)
    obtain ⟨rfl, rfl⟩ := hq
    refine lv_aload_n hx hb dX5_isClearAt_37 rfl (lv_at hl 2 rfl) ?_
    refine gB5_berths hx hb hta hown hK hP wd_2_1 dX5_isClearAt_38 ?_
    refine gB0_inFront hx hb hta hown hK hP wd_16_16 dX5_isClearAt_41 ?_
    refine lv_iload hx hb dX5_isClearAt_44 (lv_at hl 0 rfl) ?_
    refine aB_bi hx hb hK hP f ef (by omega) dX5_isClearAt_46 ?_
    refine lv_iand hx hb dX5_isClearAt_47 ?_
    refine lv_if_ne (tgt := 55) hx hb dX5_isClearAt_48 (by decide) (fun c48 => ?_) (fun c48 => ?_)
    · refine lv_iconst (v := (0 : Int32)) hx hb dX5_isClearAt_55 (by decide) ?_
      refine z_zret hG hx hb hr hlocks hP hD hS (Nat.le_of_ble_eq_true rfl) (Nat.le_of_ble_eq_true rfl) dX5_isClearAt_56 ?_ ?_
      · rfl
      · refine zqi ?_
        first
        | exact bI_f (by rw [clrC, c26]; rfl)
        | exact bI_t (by rw [clrC, c26, ef, show nN (nI f) = f from nI_clamp (by omega), decide_eq_true c48]; rfl)
        | exact bI_f (by rw [clrC, c26, ef, show nN (nI f) = f from nI_clamp (by omega), decide_eq_false c48]; rfl)
    · refine lv_iconst (v := (1 : Int32)) hx hb dX5_isClearAt_51 (by decide) ?_
      refine lv_goto (tgt := 56) hx hb dX5_isClearAt_52 (by decide) ?_
      refine z_zret hG hx hb hr hlocks hP hD hS (Nat.le_of_ble_eq_true rfl) (Nat.le_of_ble_eq_true rfl) dX5_isClearAt_56 ?_ ?_
      · rfl
      · refine zqi ?_
        first
        | exact bI_f (by rw [clrC, c26]; rfl)
        | exact bI_t (by rw [clrC, c26, ef, show nN (nI f) = f from nI_clamp (by omega), decide_eq_true c48]; rfl)
        | exact bI_f (by rw [clrC, c26, ef, show nN (nI f) = f from nI_clamp (by omega), decide_eq_false c48]; rfl)
set_option maxHeartbeats 800000 in
set_option maxRecDepth 100000 in
theorem c_X5_fillFrom (l : Launch) (D : va_G) (y : Nat → ClassId) (a : Nat → Nat) (cap clr : Int32) (t : Nat) (hom mov : Int32) (wm : Int64) (tb tf ts : Int32) (nw : Nat) (wf wt : Nat → Int32) (nb : Nat) (bw bl bi bb : Nat → Int32) (no : Nat) (od ow ol ork ob olf oco : Nat → Int32) (nl : Nat) (pb pm : Int32) (pcd pw pli : Nat → Int32) (pp : Nat) (k : Nat) (oc9 : Int32) (Wf : Nat → Nat) (Ed : (Nat → Int32) → Nat → Nat → Prop) (g0 : Nat → Int32) (n9 : Nat) (g9 : Nat → Int32) (wv : Nat) (hb8 : no ≤ 8) (hb6 : nb ≤ 6) (hE : Eok nb no Ed) (h0 : Va nb no g0) (hsi : SI nb no Wf Ed g0 pb pcd pw pli nl) (hpp : pp < 720) (hR : RN no Wf Ed g0 n9 g9 wv) (hC : CA pb no (pcd pp) g9) (hw9 : pw pp = nI wv) (hwb : wv ≤ 200000) (hW : Wok no ow Wf) (hpm : pm = nI nb) (hEC : EC nb no Ed pb cap olf ow ol bw bl bi) (hk : k < nb) (hoc : oc9 = ocA pb (pcd pp) 8) : zP l D y yX5_fillFrom cX5_fillFrom 9 (some .boolean) 3 0 0 71 [Value.ref (a 0), Value.int (nI pp), Value.int (nI k), Value.int oc9] (wB a y cap clr (nI t) hom mov wm tb tf ts (nI nw) wf wt (nI nb) bw bl bi bb (nI no) od ow ol ork ob olf oco (nI nl) pb pm pcd pw pli) (fun o9 w9 => ∃ (pcd9 : Nat → Int32) (pw9 : Nat → Int32) (pli9 : Nat → Int32) (nl9 : Nat) (r9 : Bool), (GT nb no Wf Ed g0 pb wv (wv + 200) pcd pw pli nl pcd9 pw9 pli9 nl9 ∧ (r9 = false → pw9 = pw) ∧ ∀ i, i < no → Ed g9 i k → pw9 (nmA nb no (upd g9 i (nI k))) ≤ nI (wv + Wf i)) ∧ o9 = some (Value.int (bI r9)) ∧ w9 = wB a y cap clr (nI t) hom mov wm tb tf ts (nI nw) wf wt (nI nb) bw bl bi bb (nI no) od ow ol ork ob olf oco (nI nl9) pb pm pcd9 pw9 pli9) := by
  have hva := (rn_va hE (by omega) h0 hR).1
  refine zP.of (by decide +kernel) (Nat.le_of_ble_eq_true rfl) ?_
  intro p e s m args below meth c A ls hx hb hr hta hown hlocks hml hin hN hK hP hD hS hA hl
  refine z_gen (fun G hG => ?_)
  have hl : lv_has ls 9 [(0, Value.ref (a 0)), (1, Value.int (nI pp)), (2, Value.int (nI k)), (3, Value.int oc9)] := hl
  refine lv_aload_n hx hb dX5_fillFrom_0 rfl (lv_at hl 0 rfl) ?_
  refine gB5_places hx hb hta hown hK hP wd_2_9 dX5_fillFrom_1 ?_
  refine gB2_code hx hb hta hown hK hP wd_31_18 dX5_fillFrom_4 ?_
  refine lv_iload_n hx hb dX5_fillFrom_7 rfl (lv_at hl 1 rfl) ?_
  refine aB_pcd hx hb hK hP pp rfl (by omega) dX5_fillFrom_8 ?_
  refine lv_istore (lv' := [(4, Value.int (pcd pp)), (0, Value.ref (a 0)), (1, Value.int (nI pp)), (2, Value.int (nI k)), (3, Value.int oc9)]) hx hb dX5_fillFrom_9 hl (by decide) rfl (fun ls hl => ?_)
  refine lv_aload_n hx hb dX5_fillFrom_11 rfl (lv_at hl 1 rfl) ?_
  refine gB5_places hx hb hta hown hK hP wd_2_9 dX5_fillFrom_12 ?_
  refine gB2_weight hx hb hta hown hK hP wd_29_23 dX5_fillFrom_15 ?_
  refine lv_iload_n hx hb dX5_fillFrom_18 rfl (lv_at hl 2 rfl) ?_
  refine aB_pw hx hb hK hP pp rfl (by omega) dX5_fillFrom_19 ?_
  refine zr_top (y := nI (wv)) (hw9) ?_
  refine lv_istore (lv' := [(5, Value.int (nI wv)), (4, Value.int (pcd pp)), (0, Value.ref (a 0)), (1, Value.int (nI pp)), (2, Value.int (nI k)), (3, Value.int oc9)]) hx hb dX5_fillFrom_20 hl (by decide) rfl (fun ls hl => ?_)
  refine lv_iconst (v := (0 : Int32)) hx hb dX5_fillFrom_22 (by decide) ?_
  refine lv_istore (lv' := [(6, Value.int (0 : Int32)), (5, Value.int (nI wv)), (4, Value.int (pcd pp)), (0, Value.ref (a 0)), (1, Value.int (nI pp)), (2, Value.int (nI k)), (3, Value.int oc9)]) hx hb dX5_fillFrom_23 hl (by decide) rfl (fun ls hl => ?_)
  refine lv_iconst (v := (0 : Int32)) hx hb dX5_fillFrom_25 (by decide) ?_
  refine lv_istore (lv' := [(7, Value.int (0 : Int32)), (6, Value.int (0 : Int32)), (5, Value.int (nI wv)), (4, Value.int (pcd pp)), (0, Value.ref (a 0)), (1, Value.int (nI pp)), (2, Value.int (nI k)), (3, Value.int oc9)]) hx hb dX5_fillFrom_26 hl (by decide) rfl (fun ls hl => ?_)
  have LP28 : ∀ (n : Nat) (j : Nat) (pcd1 : Nat → Int32) (pw1 : Nat → Int32) (pli1 : Nat → Int32) (nl1 : Nat) (r1 : Bool), (j ≤ no) → (GT nb no Wf Ed g0 pb wv (wv + 200) pcd pw pli nl pcd1 pw1 pli1 nl1) → (r1 = false → pw1 = pw) → (∀ i, i < j → Ed g9 i k → pw1 (nmA nb no (upd g9 i (nI k))) ≤ nI (wv + Wf i)) → no - j < n → ∀ (H : Heap) (locs : List Loc) (ls : Array Slot), va_P D vwCl (wB a y cap clr (nI t) hom mov wm tb tf ts (nI nw) wf wt (nI nb) bw bl bi bb (nI no) od ow ol ork ob olf oco (nI nl1) pb pm pcd1 pw1 pli1) H → va_D A (wB a y cap clr (nI t) hom mov wm tb tf ts (nI nw) wf wt (nI nb) bw bl bi bb (nI no) od ow ol ork ob olf oco (nI nl1) pb pm pcd1 pw1 pli1) → va_S A s.heap H locs → lv_has ls 9 [(7, Value.int (nI j)), (6, Value.int (bI r1)), (5, Value.int (nI wv)), (4, Value.int (pcd pp)), (0, Value.ref (a 0)), (1, Value.int (nI pp)), (2, Value.int (nI k)), (3, Value.int oc9)] → W p l e ({ frames := 3, cells := 0, slots := 0, locals := 71 } : Room) s m args below meth c H locs 0 0 G (F0 m 28 ls []) := by
    intro n
    induction n with
    | zero => intro j pcd1 pw1 pli1 nl1 r1 hj hg hr1 hcv hn; exact absurd hn (Nat.not_lt_zero _)
    | succ n ih28 =>
      intro j pcd1 pw1 pli1 nl1 r1 hj hg hr1 hcv hn H locs ls hP hD hS hl
      refine lv_iload hx hb dX5_fillFrom_28 (lv_at hl 0 rfl) ?_
      refine lv_aload_n hx hb dX5_fillFrom_30 rfl (lv_at hl 4 rfl) ?_
      refine gB5_boats hx hb hta hown hK hP wd_2_5 dX5_fillFrom_31 ?_
      refine gB1_count hx hb hta hown hK hP wd_8_4 dX5_fillFrom_34 ?_
      refine lv_icmp_ge (tgt := 131) hx hb dX5_fillFrom_37 (by decide) (fun c37 => ?_) (fun c37 => ?_)
      · have c37 : no ≤ j := (nI_leI (a := no) (b := j) (by omega) (by omega)).mp c37
        refine lv_iload hx hb dX5_fillFrom_131 (lv_at hl 1 rfl) ?_
        refine z_zret hG hx hb hr hlocks hP hD hS (Nat.le_of_ble_eq_true rfl) (Nat.le_of_ble_eq_true rfl) dX5_fillFrom_133 ?_ ?_
        · exact bI_nar _
        · exact ⟨pcd1, pw1, pli1, nl1, r1, ⟨hg, hr1, fun i hi => hcv i (by omega)⟩, rfl, rfl⟩
      · have c37 : ¬ no ≤ j := fun z => c37 ((nI_leI (a := no) (b := j) (by omega) (by omega)).mpr z)
        have c37 : j < no := by omega
        refine lv_iload hx hb dX5_fillFrom_40 (lv_at hl 3 rfl) ?_
        refine lv_iload hx hb dX5_fillFrom_42 (lv_at hl 0 rfl) ?_
        refine z_callS (As := [Value.int (pcd pp), Value.int (nI j)]) (rest := []) hx hb hml hown hta zm_X2_berthAt wd_31_19 (c_X2_berthAt l D y a cap clr t hom mov wm tb tf ts nw wf wt nb bw bl bi bb no od ow ol ork ob olf oco (nI nl1) pb pm pcd1 pw1 pli1 (pcd pp) j) hN hK hP hD hS hA rfl hl rfl (Nat.le_of_ble_eq_true rfl) ⟨Nat.le_of_ble_eq_true rfl, Nat.le_of_ble_eq_true rfl⟩ ⟨Nat.le_of_ble_eq_true rfl, Nat.le_of_ble_eq_true rfl⟩ dX5_fillFrom_44 (fun v w' H locs hq hP hD hS => ?_)
        obtain ⟨rfl, rfl⟩ := hq
        refine lv_istore (lv' := [(8, Value.int (atE (pcd pp) j)), (7, Value.int (nI j)), (6, Value.int (bI r1)), (5, Value.int (nI wv)), (4, Value.int (pcd pp)), (0, Value.ref (a 0)), (1, Value.int (nI pp)), (2, Value.int (nI k)), (3, Value.int oc9)]) hx hb dX5_fillFrom_47 hl (by decide) rfl (fun ls hl => ?_)
        refine lv_aload_n hx hb dX5_fillFrom_49 rfl (lv_at hl 5 rfl) ?_
        refine gB5_places hx hb hta hown hK hP wd_2_9 dX5_fillFrom_50 ?_
        refine gB2_berthed hx hb hta hown hK hP wd_32_8 dX5_fillFrom_53 ?_
        refine lv_iload hx hb dX5_fillFrom_56 (lv_at hl 1 rfl) ?_
        refine z_callS (As := [Value.int pb, Value.int (nI j)]) (rest := []) hx hb hml hown hta zm_X5_holds wd_16_21 (c_X5_holds l D y a cap clr t hom mov wm tb tf ts nw wf wt nb bw bl bi bb no od ow ol ork ob olf oco (nI nl1) pb pm pcd1 pw1 pli1 pb (nI j)) hN hK hP hD hS hA rfl hl rfl (Nat.le_of_ble_eq_true rfl) ⟨Nat.le_of_ble_eq_true rfl, Nat.le_of_ble_eq_true rfl⟩ ⟨Nat.le_of_ble_eq_true rfl, Nat.le_of_ble_eq_true rfl⟩ dX5_fillFrom_58 (fun v w' H locs hq hP hD hS => ?_)
        obtain ⟨rfl, rfl⟩ := hq
        refine lv_if_eq (tgt := 125) hx hb dX5_fillFrom_61 (by decide) (fun c61 => ?_) (fun c61 => ?_)
        · have c61 := bI_0 c61
          refine lv_iinc (v := nI (j + 1)) (lv' := [(7, Value.int (nI (j + 1))), (8, Value.int (atE (pcd pp) j)), (6, Value.int (bI r1)), (5, Value.int (nI wv)), (4, Value.int (pcd pp)), (0, Value.ref (a 0)), (1, Value.int (nI pp)), (2, Value.int (nI k)), (3, Value.int oc9)]) hx hb dX5_fillFrom_125 hl (k := 1) rfl (nI_add j 1) (by decide) rfl (fun ls hl => ?_)
          refine lv_goto (tgt := 28) hx hb dX5_fillFrom_128 (by decide) ?_
          have hl := lv_sub hl [0, 2, 3, 4, 5, 6, 7, 8] rfl
          have hv3_hg : GT nb no Wf Ed g0 pb wv (wv + 200) pcd pw pli nl pcd1 pw1 pli1 nl1 := by
            first
            | exact hg2
            | exact hg
          have hv4_hr1 : r1 = false → pw1 = pw := by
            first
            | exact hr1
            | exact fun z => (hst.2.1 c61).trans (hr1 z)
            | exact fun z => (by cases z)
          have hv5_hcv : ∀ i, i < (j + 1) → Ed g9 i k → pw1 (nmA nb no (upd g9 i (nI k))) ≤ nI (wv + Wf i) := by
            first
            | exact all_step (fun i hi z => Int32.le_trans (gt_le hst.1 (cov_lt hE (by omega) h0 hR z)) (hcv i hi z)) (fun _ => hst.2.2)
            | exact all_step hcv (fun z => absurd ((hEC _ _ hC hva j k c37 hk).mp z).1 (by rw [c61]; decide))
            | exact all_step hcv (fun z => absurd ((hEC _ _ hC hva j k c37 hk).mp z).2.1 (by rw [c73]; decide))
            | exact all_step hcv (fun z => absurd ((hEC _ _ hC hva j k c37 hk).mp z).2.2 (by rw [ef, show nN (nI f) = f from nI_clamp (by omega), ← hoc]; exact c88))
          exact ih28 (j + 1) pcd1 pw1 pli1 nl1 r1 (by omega) hv3_hg hv4_hr1 hv5_hcv (by omega) _ _ _ hP hD hS hl
        · have c61 := bI_1 c61
          refine lv_aload_n hx hb dX5_fillFrom_64 rfl (lv_at hl 5 rfl) ?_
          refine gB5_berths hx hb hta hown hK hP wd_2_1 dX5_fillFrom_65 ?_
          refine lv_iload hx hb dX5_fillFrom_68 (lv_at hl 0 rfl) ?_
          refine z_callV (As := [Value.int (atE (pcd pp) j)]) (rest := []) hx hb hml hown hta zm_X0_has wd_6_8 (c_X0_has l D y a cap clr t hom mov wm tb tf ts nw wf wt nb bw bl bi bb no od ow ol ork ob olf oco (nI nl1) pb pm pcd1 pw1 pli1 (atE (pcd pp) j) (by omega)) hN hK hP hD hS hA 3 rfl rfl rfl hl rfl (Nat.le_of_ble_eq_true rfl) ⟨Nat.le_of_ble_eq_true rfl, Nat.le_of_ble_eq_true rfl⟩ ⟨Nat.le_of_ble_eq_true rfl, Nat.le_of_ble_eq_true rfl⟩ dX5_fillFrom_70 (fun v w' H locs hq hP hD hS => ?_)
          obtain ⟨rfl, rfl⟩ := hq
          refine lv_if_eq (tgt := 125) hx hb dX5_fillFrom_73 (by decide) (fun c73 => ?_) (fun c73 => ?_)
          · have c73 := bI_0 c73
            refine lv_iinc (v := nI (j + 1)) (lv' := [(7, Value.int (nI (j + 1))), (8, Value.int (atE (pcd pp) j)), (6, Value.int (bI r1)), (5, Value.int (nI wv)), (4, Value.int (pcd pp)), (0, Value.ref (a 0)), (1, Value.int (nI pp)), (2, Value.int (nI k)), (3, Value.int oc9)]) hx hb dX5_fillFrom_125 hl (k := 1) rfl (nI_add j 1) (by decide) rfl (fun ls hl => ?_)
            refine lv_goto (tgt := 28) hx hb dX5_fillFrom_128 (by decide) ?_
            have hl := lv_sub hl [0, 2, 3, 4, 5, 6, 7, 8] rfl
            have hv7_hg : GT nb no Wf Ed g0 pb wv (wv + 200) pcd pw pli nl pcd1 pw1 pli1 nl1 := by
              first
              | exact hg2
              | exact hg
            have hv8_hr1 : r1 = false → pw1 = pw := by
              first
              | exact hr1
              | exact fun z => (hst.2.1 c73).trans (hr1 z)
              | exact fun z => (by cases z)
            have hv9_hcv : ∀ i, i < (j + 1) → Ed g9 i k → pw1 (nmA nb no (upd g9 i (nI k))) ≤ nI (wv + Wf i) := by
              first
              | exact all_step (fun i hi z => Int32.le_trans (gt_le hst.1 (cov_lt hE (by omega) h0 hR z)) (hcv i hi z)) (fun _ => hst.2.2)
              | exact all_step hcv (fun z => absurd ((hEC _ _ hC hva j k c37 hk).mp z).1 (by rw [c61]; decide))
              | exact all_step hcv (fun z => absurd ((hEC _ _ hC hva j k c37 hk).mp z).2.1 (by rw [c73]; decide))
              | exact all_step hcv (fun z => absurd ((hEC _ _ hC hva j k c37 hk).mp z).2.2 (by rw [ef, show nN (nI f) = f from nI_clamp (by omega), ← hoc]; exact c88))
            exact ih28 (j + 1) pcd1 pw1 pli1 nl1 r1 (by omega) hv7_hg hv8_hr1 hv9_hcv (by omega) _ _ _ hP hD hS hl
          · have c73 := bI_1 c73
            obtain ⟨f, hf, ef⟩ := (inB_iff (by omega)).mp c73
            have hl := lv_as hl (congrArg (fun z => [(8, Value.int z), (7, Value.int (nI j)), (6, Value.int (bI r1)), (5, Value.int (nI wv)), (4, Value.int (pcd pp)), (0, Value.ref (a 0)), (1, Value.int (nI pp)), (2, Value.int (nI k)), (3, Value.int oc9)]) ef)
            have hl : lv_has ls 9 [(8, Value.int (nI f)), (7, Value.int (nI j)), (6, Value.int (bI r1)), (5, Value.int (nI wv)), (4, Value.int (pcd pp)), (0, Value.ref (a 0)), (1, Value.int (nI pp)), (2, Value.int (nI k)), (3, Value.int oc9)] := hl
            refine lv_aload_n hx hb dX5_fillFrom_76 rfl (lv_at hl 5 rfl) ?_
            refine lv_iload hx hb dX5_fillFrom_77 (lv_at hl 1 rfl) ?_
            refine lv_iload hx hb dX5_fillFrom_79 (lv_at hl 0 rfl) ?_
            refine lv_iload_n hx hb dX5_fillFrom_81 rfl (lv_at hl 7 rfl) ?_
            refine lv_iload_n hx hb dX5_fillFrom_82 rfl (lv_at hl 8 rfl) ?_
            refine z_callV (As := [Value.int (nI j), Value.int (nI f), Value.int (nI k), Value.int oc9]) (rest := []) hx hb hml hown hta zm_X5_placeBar wd_20_23 (c_X5_placeBar l D y a cap clr t hom mov wm tb tf ts nw wf wt nb bw bl bi bb no od ow ol ork ob olf oco (nI nl1) pb pm pcd1 pw1 pli1 j f k oc9 (by omega) (by omega) (by omega)) hN hK hP hD hS hA 0 rfl rfl rfl hl rfl (Nat.le_of_ble_eq_true rfl) ⟨Nat.le_of_ble_eq_true rfl, Nat.le_of_ble_eq_true rfl⟩ ⟨Nat.le_of_ble_eq_true rfl, Nat.le_of_ble_eq_true rfl⟩ dX5_fillFrom_83 (fun v w' H locs hq hP hD hS => ?_)
            obtain ⟨rfl, rfl⟩ := hq
            refine lv_bipush (v := (110 : Int32)) hx hb dX5_fillFrom_86 (by decide) ?_
            refine lv_icmp_ne (tgt := 125) hx hb dX5_fillFrom_88 (by decide) (fun c88 => ?_) (fun c88 => ?_)
            · refine lv_iinc (v := nI (j + 1)) (lv' := [(7, Value.int (nI (j + 1))), (8, Value.int (nI f)), (6, Value.int (bI r1)), (5, Value.int (nI wv)), (4, Value.int (pcd pp)), (0, Value.ref (a 0)), (1, Value.int (nI pp)), (2, Value.int (nI k)), (3, Value.int oc9)]) hx hb dX5_fillFrom_125 hl (k := 1) rfl (nI_add j 1) (by decide) rfl (fun ls hl => ?_)
              refine lv_goto (tgt := 28) hx hb dX5_fillFrom_128 (by decide) ?_
              have hl := lv_sub hl [0, 2, 3, 4, 5, 6, 7, 8] rfl
              have hv11_hg : GT nb no Wf Ed g0 pb wv (wv + 200) pcd pw pli nl pcd1 pw1 pli1 nl1 := by
                first
                | exact hg2
                | exact hg
              have hv12_hr1 : r1 = false → pw1 = pw := by
                first
                | exact hr1
                | exact fun z => (hst.2.1 c88).trans (hr1 z)
                | exact fun z => (by cases z)
              have hv13_hcv : ∀ i, i < (j + 1) → Ed g9 i k → pw1 (nmA nb no (upd g9 i (nI k))) ≤ nI (wv + Wf i) := by
                first
                | exact all_step (fun i hi z => Int32.le_trans (gt_le hst.1 (cov_lt hE (by omega) h0 hR z)) (hcv i hi z)) (fun _ => hst.2.2)
                | exact all_step hcv (fun z => absurd ((hEC _ _ hC hva j k c37 hk).mp z).1 (by rw [c61]; decide))
                | exact all_step hcv (fun z => absurd ((hEC _ _ hC hva j k c37 hk).mp z).2.1 (by rw [c73]; decide))
                | exact all_step hcv (fun z => absurd ((hEC _ _ hC hva j k c37 hk).mp z).2.2 (by rw [ef, show nN (nI f) = f from nI_clamp (by omega), ← hoc]; exact c88))
              exact ih28 (j + 1) pcd1 pw1 pli1 nl1 r1 (by omega) hv11_hg hv12_hr1 hv13_hcv (by omega) _ _ _ hP hD hS hl
            · have hEj : Ed g9 j k := (hEC _ _ hC hva j k c37 hk).mpr ⟨c61, c73, by rw [ef, show nN (nI f) = f from nI_clamp (by omega), ← hoc]; exact c88⟩
              have hWj := hW j c37
              have hR1 : RN no Wf Ed g0 (n9 + 1) (upd g9 j (nI k)) (wv + Wf j) := ⟨g9, j, k, wv, hR, hEj, fun _ _ => rfl, rfl⟩
              have hC1 : CA pb no (putE (pcd pp) j (nI k)) (upd g9 j (nI k)) := ca_put hC hb8 (by omega) c37 hk (hE.1 _ _ _ hEj).2.2.1
              have hv1 := (rn_va hE (by omega) h0 hR1).1
              have hq9 : (nmI pb (putE (pcd pp) j (nI k)) pm 8).1 = nI (nmA nb no (upd g9 j (nI k))) := by rw [hpm]; exact ca_nm hC1 hv1 (by omega)
              have hq7 := nmA_720 hv1 (by omega)
              refine lv_aload_n hx hb dX5_fillFrom_91 rfl (lv_at hl 5 rfl) ?_
              refine gB5_places hx hb hta hown hK hP wd_2_9 dX5_fillFrom_92 ?_
              refine lv_iload hx hb dX5_fillFrom_95 (lv_at hl 4 rfl) ?_
              refine lv_iload hx hb dX5_fillFrom_97 (lv_at hl 1 rfl) ?_
              refine lv_iload_n hx hb dX5_fillFrom_99 rfl (lv_at hl 7 rfl) ?_
              refine z_callS (As := [Value.int (pcd pp), Value.int (nI j), Value.int (nI k)]) (rest := [Value.ref (a 5)]) hx hb hml hown hta zm_X2_put wd_30_4 (c_X2_put l D y a cap clr t hom mov wm tb tf ts nw wf wt nb bw bl bi bb no od ow ol ork ob olf oco (nI nl1) pb pm pcd1 pw1 pli1 (pcd pp) j (nI k)) hN hK hP hD hS hA rfl hl rfl (Nat.le_of_ble_eq_true rfl) ⟨Nat.le_of_ble_eq_true rfl, Nat.le_of_ble_eq_true rfl⟩ ⟨Nat.le_of_ble_eq_true rfl, Nat.le_of_ble_eq_true rfl⟩ dX5_fillFrom_100 (fun v w' H locs hq hP hD hS => ?_)
              obtain ⟨rfl, rfl⟩ := hq
              refine lv_iload hx hb dX5_fillFrom_103 (lv_at hl 3 rfl) ?_
              refine lv_aload_n hx hb dX5_fillFrom_105 rfl (lv_at hl 5 rfl) ?_
              refine gB5_boats hx hb hta hown hK hP wd_2_5 dX5_fillFrom_106 ?_
              refine gB1_weight hx hb hta hown hK hP wd_17_4 dX5_fillFrom_109 ?_
              refine lv_iload hx hb dX5_fillFrom_112 (lv_at hl 1 rfl) ?_
              refine aB_ow hx hb hK hP j rfl (by omega) dX5_fillFrom_114 ?_
              refine zr_top (y := nI (Wf j)) (hWj.1) ?_
              refine lv_iadd hx hb dX5_fillFrom_115 ?_
              refine zr_top (y := nI (wv + (Wf j))) (nI_add wv (Wf j)) ?_
              refine z_callV (As := [Value.int (putE (pcd pp) j (nI k)), Value.int (nI (wv + (Wf j)))]) (rest := []) hx hb hml hown hta zm_X2_reach wd_30_16 (c_X2_reach l D y a cap clr t hom mov wm tb tf ts nw wf wt nb bw bl bi bb no od ow ol ork ob olf oco nl1 pb pm pcd1 pw1 pli1 (putE (pcd pp) j (nI k)) (nI (wv + (Wf j))) (nmA nb no (upd g9 j (nI k))) hq9 hq7 (fun z => si_room hg.1 hq7 z) (si_nl hg.1)) hN hK hP hD hS hA 5 rfl rfl rfl hl rfl (Nat.le_of_ble_eq_true rfl) ⟨Nat.le_of_ble_eq_true rfl, Nat.le_of_ble_eq_true rfl⟩ ⟨Nat.le_of_ble_eq_true rfl, Nat.le_of_ble_eq_true rfl⟩ dX5_fillFrom_116 (fun v w' H locs hq hP hD hS => ?_)
              obtain ⟨pcd9_15, pw9_15, pli9_15, nl9_15, r9_15, hq15, rfl, rfl⟩ := hq
              have hst := gt_reach hE (by omega) hb8 h0 (lo := wv) (hi := wv + 200) hg.1 hR1 hC1 (by omega) (by omega) (by omega) hq15
              have hg2 := gt_trans (by omega) hg hst.1
              refine lv_if_eq (tgt := 125) hx hb dX5_fillFrom_119 (by decide) (fun c119 => ?_) (fun c119 => ?_)
              · have c119 := bI_0 c119
                refine lv_iinc (v := nI (j + 1)) (lv' := [(7, Value.int (nI (j + 1))), (8, Value.int (nI f)), (6, Value.int (bI r1)), (5, Value.int (nI wv)), (4, Value.int (pcd pp)), (0, Value.ref (a 0)), (1, Value.int (nI pp)), (2, Value.int (nI k)), (3, Value.int oc9)]) hx hb dX5_fillFrom_125 hl (k := 1) rfl (nI_add j 1) (by decide) rfl (fun ls hl => ?_)
                refine lv_goto (tgt := 28) hx hb dX5_fillFrom_128 (by decide) ?_
                have hl := lv_sub hl [0, 2, 3, 4, 5, 6, 7, 8] rfl
                have hv16_hg : GT nb no Wf Ed g0 pb wv (wv + 200) pcd pw pli nl pcd9_15 pw9_15 pli9_15 nl9_15 := by
                  first
                  | exact hg2
                  | exact hg
                have hv17_hr1 : r1 = false → pw9_15 = pw := by
                  first
                  | exact hr1
                  | exact fun z => (hst.2.1 c119).trans (hr1 z)
                  | exact fun z => (by cases z)
                have hv18_hcv : ∀ i, i < (j + 1) → Ed g9 i k → pw9_15 (nmA nb no (upd g9 i (nI k))) ≤ nI (wv + Wf i) := by
                  first
                  | exact all_step (fun i hi z => Int32.le_trans (gt_le hst.1 (cov_lt hE (by omega) h0 hR z)) (hcv i hi z)) (fun _ => hst.2.2)
                  | exact all_step hcv (fun z => absurd ((hEC _ _ hC hva j k c37 hk).mp z).1 (by rw [c61]; decide))
                  | exact all_step hcv (fun z => absurd ((hEC _ _ hC hva j k c37 hk).mp z).2.1 (by rw [c73]; decide))
                  | exact all_step hcv (fun z => absurd ((hEC _ _ hC hva j k c37 hk).mp z).2.2 (by rw [ef, show nN (nI f) = f from nI_clamp (by omega), ← hoc]; exact c88))
                exact ih28 (j + 1) pcd9_15 pw9_15 pli9_15 nl9_15 r1 (by omega) hv16_hg hv17_hr1 hv18_hcv (by omega) _ _ _ hP hD hS hl
              · have c119 := bI_1 c119
                refine lv_iconst (v := (1 : Int32)) hx hb dX5_fillFrom_122 (by decide) ?_
                refine lv_istore (lv' := [(6, Value.int (1 : Int32)), (8, Value.int (nI f)), (7, Value.int (nI j)), (5, Value.int (nI wv)), (4, Value.int (pcd pp)), (0, Value.ref (a 0)), (1, Value.int (nI pp)), (2, Value.int (nI k)), (3, Value.int oc9)]) hx hb dX5_fillFrom_123 hl (by decide) rfl (fun ls hl => ?_)
                refine lv_iinc (v := nI (j + 1)) (lv' := [(7, Value.int (nI (j + 1))), (6, Value.int (1 : Int32)), (8, Value.int (nI f)), (5, Value.int (nI wv)), (4, Value.int (pcd pp)), (0, Value.ref (a 0)), (1, Value.int (nI pp)), (2, Value.int (nI k)), (3, Value.int oc9)]) hx hb dX5_fillFrom_125 hl (k := 2) rfl (nI_add j 1) (by decide) rfl (fun ls hl => ?_)
                refine lv_goto (tgt := 28) hx hb dX5_fillFrom_128 (by decide) ?_
                have eq19_0 : (1 : Int32) = bI true := by
                  rfl
                have hl := lv_sub hl [0, 1, 3, 4, 5, 6, 7, 8] rfl
                have hl : lv_has ls 9 [(7, Value.int (nI (j + 1))), (6, Value.int (1 : Int32)), (5, Value.int (nI wv)), (4, Value.int (pcd pp)), (0, Value.ref (a 0)), (1, Value.int (nI pp)), (2, Value.int (nI k)), (3, Value.int oc9)] := hl
                have hl : lv_has ls 9 [(7, Value.int (nI (j + 1))), (6, Value.int (bI true)), (5, Value.int (nI wv)), (4, Value.int (pcd pp)), (0, Value.ref (a 0)), (1, Value.int (nI pp)), (2, Value.int (nI k)), (3, Value.int oc9)] := lv_as hl (congrArg (fun z => [(7, Value.int (nI (j + 1))), (6, Value.int z), (5, Value.int (nI wv)), (4, Value.int (pcd pp)), (0, Value.ref (a 0)), (1, Value.int (nI pp)), (2, Value.int (nI k)), (3, Value.int oc9)]) eq19_0)
                have hv20_hg : GT nb no Wf Ed g0 pb wv (wv + 200) pcd pw pli nl pcd9_15 pw9_15 pli9_15 nl9_15 := by
                  first
                  | exact hg2
                  | exact hg
                have hv21_hr1 : true = false → pw9_15 = pw := by
                  first
                  | exact hr1
                  | exact fun z => (hst.2.1 c119).trans (hr1 z)
                  | exact fun z => (by cases z)
                have hv22_hcv : ∀ i, i < (j + 1) → Ed g9 i k → pw9_15 (nmA nb no (upd g9 i (nI k))) ≤ nI (wv + Wf i) := by
                  first
                  | exact all_step (fun i hi z => Int32.le_trans (gt_le hst.1 (cov_lt hE (by omega) h0 hR z)) (hcv i hi z)) (fun _ => hst.2.2)
                  | exact all_step hcv (fun z => absurd ((hEC _ _ hC hva j k c37 hk).mp z).1 (by rw [c61]; decide))
                  | exact all_step hcv (fun z => absurd ((hEC _ _ hC hva j k c37 hk).mp z).2.1 (by rw [c73]; decide))
                  | exact all_step hcv (fun z => absurd ((hEC _ _ hC hva j k c37 hk).mp z).2.2 (by rw [ef, show nN (nI f) = f from nI_clamp (by omega), ← hoc]; exact c88))
                exact ih28 (j + 1) pcd9_15 pw9_15 pli9_15 nl9_15 true (by omega) hv20_hg hv21_hr1 hv22_hcv (by omega) _ _ _ hP hD hS hl
  have eq23_0 : (0 : Int32) = nI 0 := by
    rfl
  have eq24_1 : (0 : Int32) = bI false := by
    rfl
  have hl := lv_sub hl [0, 1, 2, 3, 4, 5, 6, 7] rfl
  have hl : lv_has ls 9 [(7, Value.int (0 : Int32)), (6, Value.int (0 : Int32)), (5, Value.int (nI wv)), (4, Value.int (pcd pp)), (0, Value.ref (a 0)), (1, Value.int (nI pp)), (2, Value.int (nI k)), (3, Value.int oc9)] := hl
  have hl : lv_has ls 9 [(7, Value.int (nI 0)), (6, Value.int (0 : Int32)), (5, Value.int (nI wv)), (4, Value.int (pcd pp)), (0, Value.ref (a 0)), (1, Value.int (nI pp)), (2, Value.int (nI k)), (3, Value.int oc9)] := lv_as hl (congrArg (fun z => [(7, Value.int z), (6, Value.int (0 : Int32)), (5, Value.int (nI wv)), (4, Value.int (pcd pp)), (0, Value.ref (a 0)), (1, Value.int (nI pp)), (2, Value.int (nI k)), (3, Value.int oc9)]) eq23_0)
  have hl : lv_has ls 9 [(7, Value.int (nI 0)), (6, Value.int (bI false)), (5, Value.int (nI wv)), (4, Value.int (pcd pp)), (0, Value.ref (a 0)), (1, Value.int (nI pp)), (2, Value.int (nI k)), (3, Value.int oc9)] := lv_as hl (congrArg (fun z => [(7, Value.int (nI 0)), (6, Value.int z), (5, Value.int (nI wv)), (4, Value.int (pcd pp)), (0, Value.ref (a 0)), (1, Value.int (nI pp)), (2, Value.int (nI k)), (3, Value.int oc9)]) eq24_1)
  have hv25_hg : GT nb no Wf Ed g0 pb wv (wv + 200) pcd pw pli nl pcd pw pli nl := by
    exact gt_refl hsi
  have hv26_hr1 : false = false → pw = pw := by
    exact fun _ => rfl
  have hv27_hcv : ∀ i, i < 0 → Ed g9 i k → pw (nmA nb no (upd g9 i (nI k))) ≤ nI (wv + Wf i) := by
    intro i hi; omega
  exact LP28 (no - 0 + 1) 0 pcd pw pli nl false (by omega) hv25_hg hv26_hr1 hv27_hcv (Nat.lt_succ_self _) _ _ _ hP hD hS hl
set_option maxHeartbeats 800000 in
set_option maxRecDepth 100000 in
theorem c_X5_goOnFrom (l : Launch) (D : va_G) (y : Nat → ClassId) (a : Nat → Nat) (cap clr : Int32) (t : Nat) (hom mov : Int32) (wm : Int64) (tb tf ts : Int32) (nw : Nat) (wf wt : Nat → Int32) (nb : Nat) (bw bl bi bb : Nat → Int32) (no : Nat) (od ow ol ork ob olf oco : Nat → Int32) (nl : Nat) (pb pm : Int32) (pcd pw pli : Nat → Int32) (pp : Nat) (Wf : Nat → Nat) (Ed : (Nat → Int32) → Nat → Nat → Prop) (g0 : Nat → Int32) (n9 : Nat) (g9 : Nat → Int32) (wv : Nat) (hb8 : no ≤ 8) (hb6 : nb ≤ 6) (hE : Eok nb no Ed) (h0 : Va nb no g0) (hsi : SI nb no Wf Ed g0 pb pcd pw pli nl) (hpp : pp < 720) (hR : RN no Wf Ed g0 n9 g9 wv) (hC : CA pb no (pcd pp) g9) (hw9 : pw pp = nI wv) (hwb : wv ≤ 200000) (hW : Wok no ow Wf) (hpm : pm = nI nb) (hEC : EC nb no Ed pb cap olf ow ol bw bl bi) : zP l D y yX5_goOnFrom cX5_goOnFrom 5 (some .boolean) 4 0 0 99 [Value.ref (a 0), Value.int (nI pp)] (wB a y cap clr (nI t) hom mov wm tb tf ts (nI nw) wf wt (nI nb) bw bl bi bb (nI no) od ow ol ork ob olf oco (nI nl) pb pm pcd pw pli) (fun o9 w9 => ∃ (pcd9 : Nat → Int32) (pw9 : Nat → Int32) (pli9 : Nat → Int32) (nl9 : Nat) (r9 : Bool), (GT nb no Wf Ed g0 pb wv (wv + 200) pcd pw pli nl pcd9 pw9 pli9 nl9 ∧ (r9 = false → pw9 = pw) ∧ ∀ i k, i < no → k < nb → Ed g9 i k → pw9 (nmA nb no (upd g9 i (nI k))) ≤ nI (wv + Wf i)) ∧ o9 = some (Value.int (bI r9)) ∧ w9 = wB a y cap clr (nI t) hom mov wm tb tf ts (nI nw) wf wt (nI nb) bw bl bi bb (nI no) od ow ol ork ob olf oco (nI nl9) pb pm pcd9 pw9 pli9) := by
  have hva := (rn_va hE (by omega) h0 hR).1
  refine zP.of (by decide +kernel) (Nat.le_of_ble_eq_true rfl) ?_
  intro p e s m args below meth c A ls hx hb hr hta hown hlocks hml hin hN hK hP hD hS hA hl
  refine z_gen (fun G hG => ?_)
  have hl : lv_has ls 5 [(0, Value.ref (a 0)), (1, Value.int (nI pp))] := hl
  refine lv_aload_n hx hb dX5_goOnFrom_0 rfl (lv_at hl 0 rfl) ?_
  refine gB5_places hx hb hta hown hK hP wd_2_9 dX5_goOnFrom_1 ?_
  refine lv_aload_n hx hb dX5_goOnFrom_4 rfl (lv_at hl 0 rfl) ?_
  refine gB5_places hx hb hta hown hK hP wd_2_9 dX5_goOnFrom_5 ?_
  refine gB2_code hx hb hta hown hK hP wd_31_18 dX5_goOnFrom_8 ?_
  refine lv_iload_n hx hb dX5_goOnFrom_11 rfl (lv_at hl 1 rfl) ?_
  refine aB_pcd hx hb hK hP pp rfl (by omega) dX5_goOnFrom_12 ?_
  refine z_callV (As := [Value.int (pcd pp)]) (rest := []) hx hb hml hown hta zm_X2_occupiedAt wd_31_20 (c_X2_occupiedAt l D y a cap clr t hom mov wm tb tf ts nw wf wt nb bw bl bi bb no od ow ol ork ob olf oco (nI nl) pb pm pcd pw pli (pcd pp)) hN hK hP hD hS hA 5 rfl rfl rfl hl rfl (Nat.le_of_ble_eq_true rfl) ⟨Nat.le_of_ble_eq_true rfl, Nat.le_of_ble_eq_true rfl⟩ ⟨Nat.le_of_ble_eq_true rfl, Nat.le_of_ble_eq_true rfl⟩ dX5_goOnFrom_13 (fun v w' H locs hq hP hD hS => ?_)
  obtain ⟨rfl, rfl⟩ := hq
  refine lv_istore_n (lv' := [(2, Value.int (ocA pb (pcd pp) 8)), (0, Value.ref (a 0)), (1, Value.int (nI pp))]) hx hb dX5_goOnFrom_16 rfl hl (by decide) rfl (fun ls hl => ?_)
  refine lv_iconst (v := (0 : Int32)) hx hb dX5_goOnFrom_17 (by decide) ?_
  refine lv_istore_n (lv' := [(3, Value.int (0 : Int32)), (2, Value.int (ocA pb (pcd pp) 8)), (0, Value.ref (a 0)), (1, Value.int (nI pp))]) hx hb dX5_goOnFrom_18 rfl hl (by decide) rfl (fun ls hl => ?_)
  refine lv_iconst (v := (0 : Int32)) hx hb dX5_goOnFrom_19 (by decide) ?_
  refine lv_istore (lv' := [(4, Value.int (0 : Int32)), (3, Value.int (0 : Int32)), (2, Value.int (ocA pb (pcd pp) 8)), (0, Value.ref (a 0)), (1, Value.int (nI pp))]) hx hb dX5_goOnFrom_20 hl (by decide) rfl (fun ls hl => ?_)
  have LP22 : ∀ (n : Nat) (k : Nat) (pcd1 : Nat → Int32) (pw1 : Nat → Int32) (pli1 : Nat → Int32) (nl1 : Nat) (r1 : Bool), (k ≤ nb) → (GT nb no Wf Ed g0 pb wv (wv + 200) pcd pw pli nl pcd1 pw1 pli1 nl1) → (r1 = false → pw1 = pw) → (∀ k0, k0 < k → ∀ i, i < no → Ed g9 i k0 → pw1 (nmA nb no (upd g9 i (nI k0))) ≤ nI (wv + Wf i)) → nb - k < n → ∀ (H : Heap) (locs : List Loc) (ls : Array Slot), va_P D vwCl (wB a y cap clr (nI t) hom mov wm tb tf ts (nI nw) wf wt (nI nb) bw bl bi bb (nI no) od ow ol ork ob olf oco (nI nl1) pb pm pcd1 pw1 pli1) H → va_D A (wB a y cap clr (nI t) hom mov wm tb tf ts (nI nw) wf wt (nI nb) bw bl bi bb (nI no) od ow ol ork ob olf oco (nI nl1) pb pm pcd1 pw1 pli1) → va_S A s.heap H locs → lv_has ls 5 [(4, Value.int (nI k)), (3, Value.int (bI r1)), (2, Value.int (ocA pb (pcd pp) 8)), (0, Value.ref (a 0)), (1, Value.int (nI pp))] → W p l e ({ frames := 4, cells := 0, slots := 0, locals := 99 } : Room) s m args below meth c H locs 0 0 G (F0 m 22 ls []) := by
    intro n
    induction n with
    | zero => intro k pcd1 pw1 pli1 nl1 r1 hk hg hr1 hcv hn; exact absurd hn (Nat.not_lt_zero _)
    | succ n ih22 =>
      intro k pcd1 pw1 pli1 nl1 r1 hk hg hr1 hcv hn H locs ls hP hD hS hl
      refine lv_iload hx hb dX5_goOnFrom_22 (lv_at hl 0 rfl) ?_
      refine lv_aload_n hx hb dX5_goOnFrom_24 rfl (lv_at hl 3 rfl) ?_
      refine gB5_berths hx hb hta hown hK hP wd_2_1 dX5_goOnFrom_25 ?_
      refine gB0_count hx hb hta hown hK hP wd_6_7 dX5_goOnFrom_28 ?_
      refine lv_icmp_ge (tgt := 62) hx hb dX5_goOnFrom_31 (by decide) (fun c31 => ?_) (fun c31 => ?_)
      · have c31 : nb ≤ k := (nI_leI (a := nb) (b := k) (by omega) (by omega)).mp c31
        refine lv_iload_n hx hb dX5_goOnFrom_62 rfl (lv_at hl 1 rfl) ?_
        refine z_zret hG hx hb hr hlocks hP hD hS (Nat.le_of_ble_eq_true rfl) (Nat.le_of_ble_eq_true rfl) dX5_goOnFrom_63 ?_ ?_
        · exact bI_nar _
        · exact ⟨pcd1, pw1, pli1, nl1, r1, ⟨hg, hr1, fun i k1 hi hk1 => hcv k1 (by omega) i hi⟩, rfl, rfl⟩
      · have c31 : ¬ nb ≤ k := fun z => c31 ((nI_leI (a := nb) (b := k) (by omega) (by omega)).mpr z)
        have c31 : k < nb := by omega
        have hcp : pcd1 pp = pcd pp := hg.2.2.2.1 pp hpp (by rw [hw9]; exact nr_ne (by omega))
        refine lv_iload_n hx hb dX5_goOnFrom_34 rfl (lv_at hl 2 rfl) ?_
        refine lv_iload hx hb dX5_goOnFrom_35 (lv_at hl 0 rfl) ?_
        refine z_callS (As := [Value.int (ocA pb (pcd pp) 8), Value.int (nI k)]) (rest := []) hx hb hml hown hta zm_X5_holds wd_16_21 (c_X5_holds l D y a cap clr t hom mov wm tb tf ts nw wf wt nb bw bl bi bb no od ow ol ork ob olf oco (nI nl1) pb pm pcd1 pw1 pli1 (ocA pb (pcd pp) 8) (nI k)) hN hK hP hD hS hA rfl hl rfl (Nat.le_of_ble_eq_true rfl) ⟨Nat.le_of_ble_eq_true rfl, Nat.le_of_ble_eq_true rfl⟩ ⟨Nat.le_of_ble_eq_true rfl, Nat.le_of_ble_eq_true rfl⟩ dX5_goOnFrom_37 (fun v w' H locs hq hP hD hS => ?_)
        obtain ⟨rfl, rfl⟩ := hq
        refine lv_if_ne (tgt := 56) hx hb dX5_goOnFrom_40 (by decide) (fun c40 => ?_) (fun c40 => ?_)
        · have c40 := bI_1 c40
          refine lv_iinc (v := nI (k + 1)) (lv' := [(4, Value.int (nI (k + 1))), (3, Value.int (bI r1)), (2, Value.int (ocA pb (pcd pp) 8)), (0, Value.ref (a 0)), (1, Value.int (nI pp))]) hx hb dX5_goOnFrom_56 hl (k := 0) rfl (nI_add k 1) (by decide) rfl (fun ls hl => ?_)
          refine lv_goto (tgt := 22) hx hb dX5_goOnFrom_59 (by decide) ?_
          have hl := lv_sub hl [0, 1, 2, 3, 4] rfl
          have hv3_hg : GT nb no Wf Ed g0 pb wv (wv + 200) pcd pw pli nl pcd1 pw1 pli1 nl1 := by
            first
            | exact hg2
            | exact hg
          have hv4_hr1 : r1 = false → pw1 = pw := by
            first
            | exact hr1
            | exact fun z => (hst.2.1 c40).trans (hr1 z)
            | exact fun z => (by cases z)
          have hv5_hcv : ∀ k0, k0 < (k + 1) → ∀ i, i < no → Ed g9 i k0 → pw1 (nmA nb no (upd g9 i (nI k0))) ≤ nI (wv + Wf i) := by
            first
            | exact all_step (fun k0 hk0 i hi z => Int32.le_trans (gt_le hst.1 (cov_lt hE (by omega) h0 hR z)) (hcv k0 hk0 i hi z)) hst.2.2
            | exact all_step hcv (fun i hi z => absurd z (oc_no hE hC (by omega) c40))
          exact ih22 (k + 1) pcd1 pw1 pli1 nl1 r1 (by omega) hv3_hg hv4_hr1 hv5_hcv (by omega) _ _ _ hP hD hS hl
        · have c40 := bI_0 c40
          refine lv_aload_n hx hb dX5_goOnFrom_43 rfl (lv_at hl 3 rfl) ?_
          refine lv_iload_n hx hb dX5_goOnFrom_44 rfl (lv_at hl 4 rfl) ?_
          refine lv_iload hx hb dX5_goOnFrom_45 (lv_at hl 0 rfl) ?_
          refine lv_iload_n hx hb dX5_goOnFrom_47 rfl (lv_at hl 2 rfl) ?_
          refine z_callV (As := [Value.int (nI pp), Value.int (nI k), Value.int (ocA pb (pcd pp) 8)]) (rest := []) hx hb hml hown hta zm_X5_fillFrom wd_32_4 (c_X5_fillFrom l D y a cap clr t hom mov wm tb tf ts nw wf wt nb bw bl bi bb no od ow ol ork ob olf oco nl1 pb pm pcd1 pw1 pli1 pp k (ocA pb (pcd pp) 8) Wf Ed g0 n9 g9 wv (by omega) (by omega) hE h0 hg.1 hpp hR (by rw [hcp]; exact hC) (gt_fix hg (by omega) hpp hw9 (by omega)) hwb hW hpm hEC c31 (by rw [hcp])) hN hK hP hD hS hA 0 rfl rfl rfl hl rfl (Nat.le_of_ble_eq_true rfl) ⟨Nat.le_of_ble_eq_true rfl, Nat.le_of_ble_eq_true rfl⟩ ⟨Nat.le_of_ble_eq_true rfl, Nat.le_of_ble_eq_true rfl⟩ dX5_goOnFrom_48 (fun v w' H locs hq hP hD hS => ?_)
          obtain ⟨pcd9_6, pw9_6, pli9_6, nl9_6, r9_6, hq6, rfl, rfl⟩ := hq
          have hst := hq6
          have hg2 := gt_trans (by omega) hg hst.1
          refine lv_if_eq (tgt := 56) hx hb dX5_goOnFrom_51 (by decide) (fun c51 => ?_) (fun c51 => ?_)
          · have c51 := bI_0 c51
            refine lv_iinc (v := nI (k + 1)) (lv' := [(4, Value.int (nI (k + 1))), (3, Value.int (bI r1)), (2, Value.int (ocA pb (pcd pp) 8)), (0, Value.ref (a 0)), (1, Value.int (nI pp))]) hx hb dX5_goOnFrom_56 hl (k := 0) rfl (nI_add k 1) (by decide) rfl (fun ls hl => ?_)
            refine lv_goto (tgt := 22) hx hb dX5_goOnFrom_59 (by decide) ?_
            have hl := lv_sub hl [0, 1, 2, 3, 4] rfl
            have hv7_hg : GT nb no Wf Ed g0 pb wv (wv + 200) pcd pw pli nl pcd9_6 pw9_6 pli9_6 nl9_6 := by
              first
              | exact hg2
              | exact hg
            have hv8_hr1 : r1 = false → pw9_6 = pw := by
              first
              | exact hr1
              | exact fun z => (hst.2.1 c51).trans (hr1 z)
              | exact fun z => (by cases z)
            have hv9_hcv : ∀ k0, k0 < (k + 1) → ∀ i, i < no → Ed g9 i k0 → pw9_6 (nmA nb no (upd g9 i (nI k0))) ≤ nI (wv + Wf i) := by
              first
              | exact all_step (fun k0 hk0 i hi z => Int32.le_trans (gt_le hst.1 (cov_lt hE (by omega) h0 hR z)) (hcv k0 hk0 i hi z)) hst.2.2
              | exact all_step hcv (fun i hi z => absurd z (oc_no hE hC (by omega) c40))
            exact ih22 (k + 1) pcd9_6 pw9_6 pli9_6 nl9_6 r1 (by omega) hv7_hg hv8_hr1 hv9_hcv (by omega) _ _ _ hP hD hS hl
          · have c51 := bI_1 c51
            refine lv_iconst (v := (1 : Int32)) hx hb dX5_goOnFrom_54 (by decide) ?_
            refine lv_istore_n (lv' := [(3, Value.int (1 : Int32)), (4, Value.int (nI k)), (2, Value.int (ocA pb (pcd pp) 8)), (0, Value.ref (a 0)), (1, Value.int (nI pp))]) hx hb dX5_goOnFrom_55 rfl hl (by decide) rfl (fun ls hl => ?_)
            refine lv_iinc (v := nI (k + 1)) (lv' := [(4, Value.int (nI (k + 1))), (3, Value.int (1 : Int32)), (2, Value.int (ocA pb (pcd pp) 8)), (0, Value.ref (a 0)), (1, Value.int (nI pp))]) hx hb dX5_goOnFrom_56 hl (k := 1) rfl (nI_add k 1) (by decide) rfl (fun ls hl => ?_)
            refine lv_goto (tgt := 22) hx hb dX5_goOnFrom_59 (by decide) ?_
            have eq10_0 : (1 : Int32) = bI true := by
              rfl
            have hl := lv_sub hl [0, 1, 2, 3, 4] rfl
            have hl : lv_has ls 5 [(4, Value.int (nI (k + 1))), (3, Value.int (1 : Int32)), (2, Value.int (ocA pb (pcd pp) 8)), (0, Value.ref (a 0)), (1, Value.int (nI pp))] := hl
            have hl : lv_has ls 5 [(4, Value.int (nI (k + 1))), (3, Value.int (bI true)), (2, Value.int (ocA pb (pcd pp) 8)), (0, Value.ref (a 0)), (1, Value.int (nI pp))] := lv_as hl (congrArg (fun z => [(4, Value.int (nI (k + 1))), (3, Value.int z), (2, Value.int (ocA pb (pcd pp) 8)), (0, Value.ref (a 0)), (1, Value.int (nI pp))]) eq10_0)
            have hv11_hg : GT nb no Wf Ed g0 pb wv (wv + 200) pcd pw pli nl pcd9_6 pw9_6 pli9_6 nl9_6 := by
              first
              | exact hg2
              | exact hg
            have hv12_hr1 : true = false → pw9_6 = pw := by
              first
              | exact hr1
              | exact fun z => (hst.2.1 c51).trans (hr1 z)
              | exact fun z => (by cases z)
            have hv13_hcv : ∀ k0, k0 < (k + 1) → ∀ i, i < no → Ed g9 i k0 → pw9_6 (nmA nb no (upd g9 i (nI k0))) ≤ nI (wv + Wf i) := by
              first
              | exact all_step (fun k0 hk0 i hi z => Int32.le_trans (gt_le hst.1 (cov_lt hE (by omega) h0 hR z)) (hcv k0 hk0 i hi z)) hst.2.2
              | exact all_step hcv (fun i hi z => absurd z (oc_no hE hC (by omega) c40))
            exact ih22 (k + 1) pcd9_6 pw9_6 pli9_6 nl9_6 true (by omega) hv11_hg hv12_hr1 hv13_hcv (by omega) _ _ _ hP hD hS hl
  have eq14_0 : (0 : Int32) = nI 0 := by
    rfl
  have eq15_1 : (0 : Int32) = bI false := by
    rfl
  have hl := lv_sub hl [0, 1, 2, 3, 4] rfl
  have hl : lv_has ls 5 [(4, Value.int (0 : Int32)), (3, Value.int (0 : Int32)), (2, Value.int (ocA pb (pcd pp) 8)), (0, Value.ref (a 0)), (1, Value.int (nI pp))] := hl
  have hl : lv_has ls 5 [(4, Value.int (nI 0)), (3, Value.int (0 : Int32)), (2, Value.int (ocA pb (pcd pp) 8)), (0, Value.ref (a 0)), (1, Value.int (nI pp))] := lv_as hl (congrArg (fun z => [(4, Value.int z), (3, Value.int (0 : Int32)), (2, Value.int (ocA pb (pcd pp) 8)), (0, Value.ref (a 0)), (1, Value.int (nI pp))]) eq14_0)
  have hl : lv_has ls 5 [(4, Value.int (nI 0)), (3, Value.int (bI false)), (2, Value.int (ocA pb (pcd pp) 8)), (0, Value.ref (a 0)), (1, Value.int (nI pp))] := lv_as hl (congrArg (fun z => [(4, Value.int (nI 0)), (3, Value.int z), (2, Value.int (ocA pb (pcd pp) 8)), (0, Value.ref (a 0)), (1, Value.int (nI pp))]) eq15_1)
  have hv16_hg : GT nb no Wf Ed g0 pb wv (wv + 200) pcd pw pli nl pcd pw pli nl := by
    exact gt_refl hsi
  have hv17_hr1 : false = false → pw = pw := by
    exact fun _ => rfl
  have hv18_hcv : ∀ k0, k0 < 0 → ∀ i, i < no → Ed g9 i k0 → pw (nmA nb no (upd g9 i (nI k0))) ≤ nI (wv + Wf i) := by
    intro i hi; omega
  exact LP22 (nb - 0 + 1) 0 pcd pw pli nl false (by omega) hv16_hg hv17_hr1 hv18_hcv (Nat.lt_succ_self _) _ _ _ hP hD hS hl
set_option maxHeartbeats 800000 in
set_option maxRecDepth 100000 in
theorem c_X5_startFromNow (l : Launch) (D : va_G) (y : Nat → ClassId) (a : Nat → Nat) (cap clr : Int32) (t : Nat) (hom mov : Int32) (wm : Int64) (tb tf ts : Int32) (nw : Nat) (wf wt : Nat → Int32) (nb : Nat) (bw bl bi bb : Nat → Int32) (no : Nat) (od ow ol ork ob olf oco : Nat → Int32) (pn pb pm : Int32) (pcd pw pli : Nat → Int32)  (hb8 : no ≤ 8) (hb6 : nb ≤ 6) (hva : Va nb no (gB ob nb)) : zP l D y yX5_startFromNow cX5_startFromNow 5 none 3 0 0 71 [Value.ref (a 0)] (wB a y cap clr (nI t) hom mov wm tb tf ts (nI nw) wf wt (nI nb) bw bl bi bb (nI no) od ow ol ork ob olf oco pn pb pm pcd pw pli) (fun o9 w9 => ∃ (pcd9 : Nat → Int32) (pw9 : Nat → Int32) (pli9 : Nat → Int32), (stR nb no ob pcd9 pw9 pli9) ∧ o9 = none ∧ w9 = wB a y cap clr (nI t) hom mov wm tb tf ts (nI nw) wf wt (nI nb) bw bl bi bb (nI no) od ow ol ork ob olf oco (nI 1) (beS ob nb no) (nI nb) pcd9 pw9 pli9) := by
  refine zP.of (by decide +kernel) (Nat.le_of_ble_eq_true rfl) ?_
  intro p e s m args below meth c A ls hx hb hr hta hown hlocks hml hin hN hK hP hD hS hA hl
  refine z_gen (fun G hG => ?_)
  have hl : lv_has ls 5 [(0, Value.ref (a 0))] := hl
  refine lv_iconst (v := (0 : Int32)) hx hb dX5_startFromNow_0 (by decide) ?_
  refine lv_istore_n (lv' := [(1, Value.int (0 : Int32)), (0, Value.ref (a 0))]) hx hb dX5_startFromNow_1 rfl hl (by decide) rfl (fun ls hl => ?_)
  refine lv_iconst (v := (0 : Int32)) hx hb dX5_startFromNow_2 (by decide) ?_
  refine lv_istore_n (lv' := [(2, Value.int (0 : Int32)), (1, Value.int (0 : Int32)), (0, Value.ref (a 0))]) hx hb dX5_startFromNow_3 rfl hl (by decide) rfl (fun ls hl => ?_)
  refine lv_iconst (v := (0 : Int32)) hx hb dX5_startFromNow_4 (by decide) ?_
  refine lv_istore_n (lv' := [(3, Value.int (0 : Int32)), (2, Value.int (0 : Int32)), (1, Value.int (0 : Int32)), (0, Value.ref (a 0))]) hx hb dX5_startFromNow_5 rfl hl (by decide) rfl (fun ls hl => ?_)
  have LP6 : ∀ (n : Nat) (j : Nat), (j ≤ no) → no - j < n → ∀ (H : Heap) (locs : List Loc) (ls : Array Slot), va_P D vwCl (wB a y cap clr (nI t) hom mov wm tb tf ts (nI nw) wf wt (nI nb) bw bl bi bb (nI no) od ow ol ork ob olf oco pn pb pm pcd pw pli) H → va_D A (wB a y cap clr (nI t) hom mov wm tb tf ts (nI nw) wf wt (nI nb) bw bl bi bb (nI no) od ow ol ork ob olf oco pn pb pm pcd pw pli) → va_S A s.heap H locs → lv_has ls 5 [(3, Value.int (nI j)), (2, Value.int (beS ob nb j)), (1, Value.int (coS ob nb j)), (0, Value.ref (a 0))] → W p l e ({ frames := 3, cells := 0, slots := 0, locals := 71 } : Room) s m args below meth c H locs 0 0 G (F0 m 6 ls []) := by
    intro n
    induction n with
    | zero => intro j hj hn; exact absurd hn (Nat.not_lt_zero _)
    | succ n ih6 =>
      intro j hj hn H locs ls hP hD hS hl
      refine lv_iload_n hx hb dX5_startFromNow_6 rfl (lv_at hl 0 rfl) ?_
      refine lv_aload_n hx hb dX5_startFromNow_7 rfl (lv_at hl 3 rfl) ?_
      refine gB5_boats hx hb hta hown hK hP wd_2_5 dX5_startFromNow_8 ?_
      refine gB1_count hx hb hta hown hK hP wd_8_4 dX5_startFromNow_11 ?_
      refine lv_icmp_ge (tgt := 60) hx hb dX5_startFromNow_14 (by decide) (fun c14 => ?_) (fun c14 => ?_)
      · have c14 : no ≤ j := (nI_leI (a := no) (b := j) (by omega) (by omega)).mp c14
        obtain rfl : no = j := by omega
        refine lv_aload_n hx hb dX5_startFromNow_60 rfl (lv_at hl 3 rfl) ?_
        refine gB5_places hx hb hta hown hK hP wd_2_9 dX5_startFromNow_61 ?_
        refine lv_iload_n hx hb dX5_startFromNow_64 rfl (lv_at hl 1 rfl) ?_
        refine lv_aload_n hx hb dX5_startFromNow_65 rfl (lv_at hl 3 rfl) ?_
        refine gB5_berths hx hb hta hown hK hP wd_2_1 dX5_startFromNow_66 ?_
        refine gB0_count hx hb hta hown hK hP wd_6_7 dX5_startFromNow_69 ?_
        refine z_callV (As := [Value.int (beS ob nb no), Value.int (nI nb)]) (rest := []) hx hb hml hown hta zm_X2_clear wd_30_7 (c_X2_clear l D y a cap clr t hom mov wm tb tf ts nw wf wt nb bw bl bi bb no od ow ol ork ob olf oco pn pb pm pcd pw pli (beS ob nb no) (nI nb)) hN hK hP hD hS hA 5 rfl rfl rfl hl rfl (Nat.le_of_ble_eq_true rfl) ⟨Nat.le_of_ble_eq_true rfl, Nat.le_of_ble_eq_true rfl⟩ ⟨Nat.le_of_ble_eq_true rfl, Nat.le_of_ble_eq_true rfl⟩ dX5_startFromNow_72 (fun v w' H locs hq hP hD hS => ?_)
        obtain ⟨rfl, rfl⟩ := hq
        refine lv_aload_n hx hb dX5_startFromNow_75 rfl (lv_at hl 3 rfl) ?_
        refine gB5_places hx hb hta hown hK hP wd_2_9 dX5_startFromNow_76 ?_
        have hq9 := ca_nm (ca_start (ob := ob) (nb := nb) (by omega) hb8) hva (by omega)
        have hq7 := nmA_720 hva (by omega)
        refine lv_iload_n hx hb dX5_startFromNow_79 rfl (lv_at hl 2 rfl) ?_
        refine lv_iconst (v := (0 : Int32)) hx hb dX5_startFromNow_80 (by decide) ?_
        refine z_callV (As := [Value.int (coS ob nb no), Value.int (0 : Int32)]) (rest := []) hx hb hml hown hta zm_X2_reach wd_30_16 (c_X2_reach l D y a cap clr t hom mov wm tb tf ts nw wf wt nb bw bl bi bb no od ow ol ork ob olf oco 0 (beS ob nb no) (nI nb) pcd (fun j => if j < 720 then (1000000 : Int32) else pw j) pli (coS ob nb no) (0 : Int32) (nmA nb no (gB ob nb)) hq9 hq7 (fun _ => by omega) (by omega)) hN hK hP hD hS hA 5 rfl rfl rfl hl rfl (Nat.le_of_ble_eq_true rfl) ⟨Nat.le_of_ble_eq_true rfl, Nat.le_of_ble_eq_true rfl⟩ ⟨Nat.le_of_ble_eq_true rfl, Nat.le_of_ble_eq_true rfl⟩ dX5_startFromNow_81 (fun v w' H locs hq hP hD hS => ?_)
        obtain ⟨pcd9_2, pw9_2, pli9_2, nl9_2, r9_2, hq2, rfl, rfl⟩ := hq
        obtain ⟨hs9, rfl⟩ := st_reach (by omega) hb8 hva hq2
        refine lv_pop hx hb dX5_startFromNow_84 rfl ?_
        refine z_vret hG hx hb hr hlocks hP hD hS (Nat.le_of_ble_eq_true rfl) (Nat.le_of_ble_eq_true rfl) dX5_startFromNow_85 ?_
        exact ⟨_, _, _, hs9, rfl, rfl⟩
      · have c14 : ¬ no ≤ j := fun z => c14 ((nI_leI (a := no) (b := j) (by omega) (by omega)).mpr z)
        refine lv_aload_n hx hb dX5_startFromNow_17 rfl (lv_at hl 3 rfl) ?_
        refine gB5_boats hx hb hta hown hK hP wd_2_5 dX5_startFromNow_18 ?_
        refine gB1_berth hx hb hta hown hK hP wd_16_2 dX5_startFromNow_21 ?_
        refine lv_iload_n hx hb dX5_startFromNow_24 rfl (lv_at hl 0 rfl) ?_
        refine aB_ob hx hb hK hP j rfl (by omega) dX5_startFromNow_25 ?_
        refine lv_istore (lv' := [(4, Value.int (ob j)), (3, Value.int (nI j)), (2, Value.int (beS ob nb j)), (1, Value.int (coS ob nb j)), (0, Value.ref (a 0))]) hx hb dX5_startFromNow_26 hl (by decide) rfl (fun ls hl => ?_)
        refine lv_aload_n hx hb dX5_startFromNow_28 rfl (lv_at hl 4 rfl) ?_
        refine gB5_berths hx hb hta hown hK hP wd_2_1 dX5_startFromNow_29 ?_
        refine lv_iload hx hb dX5_startFromNow_32 (lv_at hl 0 rfl) ?_
        refine z_callV (As := [Value.int (ob j)]) (rest := []) hx hb hml hown hta zm_X0_has wd_6_8 (c_X0_has l D y a cap clr t hom mov wm tb tf ts nw wf wt nb bw bl bi bb no od ow ol ork ob olf oco pn pb pm pcd pw pli (ob j) (by omega)) hN hK hP hD hS hA 3 rfl rfl rfl hl rfl (Nat.le_of_ble_eq_true rfl) ⟨Nat.le_of_ble_eq_true rfl, Nat.le_of_ble_eq_true rfl⟩ ⟨Nat.le_of_ble_eq_true rfl, Nat.le_of_ble_eq_true rfl⟩ dX5_startFromNow_34 (fun v w' H locs hq hP hD hS => ?_)
        obtain ⟨rfl, rfl⟩ := hq
        refine lv_if_eq (tgt := 54) hx hb dX5_startFromNow_37 (by decide) (fun c37 => ?_) (fun c37 => ?_)
        · have c37 := bI_0 c37
          refine lv_iinc (v := nI (j + 1)) (lv' := [(3, Value.int (nI (j + 1))), (4, Value.int (ob j)), (2, Value.int (beS ob nb j)), (1, Value.int (coS ob nb j)), (0, Value.ref (a 0))]) hx hb dX5_startFromNow_54 hl (k := 1) rfl (nI_add j 1) (by decide) rfl (fun ls hl => ?_)
          refine lv_goto (tgt := 6) hx hb dX5_startFromNow_57 (by decide) ?_
          have eq4_0 : beS ob nb j = beS ob nb (j + 1) := by
            first
            | with_reducible rfl
            | rw [coS, if_pos c37]
            | (rw [coS, c37]; rfl)
            | rw [beS, if_pos c37]
            | (rw [beS, c37]; rfl)
          have eq5_1 : coS ob nb j = coS ob nb (j + 1) := by
            first
            | with_reducible rfl
            | rw [coS, if_pos c37]
            | (rw [coS, c37]; rfl)
            | rw [beS, if_pos c37]
            | (rw [beS, c37]; rfl)
          have hl := lv_sub hl [0, 2, 3, 4] rfl
          have hl : lv_has ls 5 [(3, Value.int (nI (j + 1))), (2, Value.int (beS ob nb j)), (1, Value.int (coS ob nb j)), (0, Value.ref (a 0))] := hl
          have hl : lv_has ls 5 [(3, Value.int (nI (j + 1))), (2, Value.int (beS ob nb (j + 1))), (1, Value.int (coS ob nb j)), (0, Value.ref (a 0))] := lv_as hl (congrArg (fun z => [(3, Value.int (nI (j + 1))), (2, Value.int z), (1, Value.int (coS ob nb j)), (0, Value.ref (a 0))]) eq4_0)
          have hl : lv_has ls 5 [(3, Value.int (nI (j + 1))), (2, Value.int (beS ob nb (j + 1))), (1, Value.int (coS ob nb (j + 1))), (0, Value.ref (a 0))] := lv_as hl (congrArg (fun z => [(3, Value.int (nI (j + 1))), (2, Value.int (beS ob nb (j + 1))), (1, Value.int z), (0, Value.ref (a 0))]) eq5_1)
          exact ih6 (j + 1) (by omega) (by omega) _ _ _ hP hD hS hl
        · have c37 := bI_1 c37
          refine lv_iload_n hx hb dX5_startFromNow_40 rfl (lv_at hl 2 rfl) ?_
          refine lv_iconst (v := (1 : Int32)) hx hb dX5_startFromNow_41 (by decide) ?_
          refine lv_iload_n hx hb dX5_startFromNow_42 rfl (lv_at hl 1 rfl) ?_
          refine lv_ishl hx hb dX5_startFromNow_43 ?_
          refine lv_ior hx hb dX5_startFromNow_44 ?_
          refine lv_istore_n (lv' := [(2, Value.int ((beS ob nb j) ||| ((1 : Int32) <<< ((nI j) &&& 31)))), (4, Value.int (ob j)), (3, Value.int (nI j)), (1, Value.int (coS ob nb j)), (0, Value.ref (a 0))]) hx hb dX5_startFromNow_45 rfl hl (by decide) rfl (fun ls hl => ?_)
          refine lv_iload_n hx hb dX5_startFromNow_46 rfl (lv_at hl 3 rfl) ?_
          refine lv_iload_n hx hb dX5_startFromNow_47 rfl (lv_at hl 2 rfl) ?_
          refine lv_iload hx hb dX5_startFromNow_48 (lv_at hl 1 rfl) ?_
          refine z_callS (As := [Value.int (coS ob nb j), Value.int (nI j), Value.int (ob j)]) (rest := []) hx hb hml hown hta zm_X2_put wd_30_4 (c_X2_put l D y a cap clr t hom mov wm tb tf ts nw wf wt nb bw bl bi bb no od ow ol ork ob olf oco pn pb pm pcd pw pli (coS ob nb j) j (ob j)) hN hK hP hD hS hA rfl hl rfl (Nat.le_of_ble_eq_true rfl) ⟨Nat.le_of_ble_eq_true rfl, Nat.le_of_ble_eq_true rfl⟩ ⟨Nat.le_of_ble_eq_true rfl, Nat.le_of_ble_eq_true rfl⟩ dX5_startFromNow_50 (fun v w' H locs hq hP hD hS => ?_)
          obtain ⟨rfl, rfl⟩ := hq
          refine lv_istore_n (lv' := [(1, Value.int (putE (coS ob nb j) j (ob j))), (2, Value.int ((beS ob nb j) ||| ((1 : Int32) <<< ((nI j) &&& 31)))), (4, Value.int (ob j)), (3, Value.int (nI j)), (0, Value.ref (a 0))]) hx hb dX5_startFromNow_53 rfl hl (by decide) rfl (fun ls hl => ?_)
          refine lv_iinc (v := nI (j + 1)) (lv' := [(3, Value.int (nI (j + 1))), (1, Value.int (putE (coS ob nb j) j (ob j))), (2, Value.int ((beS ob nb j) ||| ((1 : Int32) <<< ((nI j) &&& 31)))), (4, Value.int (ob j)), (0, Value.ref (a 0))]) hx hb dX5_startFromNow_54 hl (k := 3) rfl (nI_add j 1) (by decide) rfl (fun ls hl => ?_)
          refine lv_goto (tgt := 6) hx hb dX5_startFromNow_57 (by decide) ?_
          have eq7_0 : (beS ob nb j) ||| ((1 : Int32) <<< ((nI j) &&& 31)) = beS ob nb (j + 1) := by
            first
            | with_reducible rfl
            | rw [coS, if_pos c37]
            | (rw [coS, c37]; rfl)
            | rw [beS, if_pos c37]
            | (rw [beS, c37]; rfl)
          have eq8_1 : putE (coS ob nb j) j (ob j) = coS ob nb (j + 1) := by
            first
            | with_reducible rfl
            | rw [coS, if_pos c37]
            | (rw [coS, c37]; rfl)
            | rw [beS, if_pos c37]
            | (rw [beS, c37]; rfl)
          have hl := lv_sub hl [0, 2, 1, 4] rfl
          have hl : lv_has ls 5 [(3, Value.int (nI (j + 1))), (2, Value.int ((beS ob nb j) ||| ((1 : Int32) <<< ((nI j) &&& 31)))), (1, Value.int (putE (coS ob nb j) j (ob j))), (0, Value.ref (a 0))] := hl
          have hl : lv_has ls 5 [(3, Value.int (nI (j + 1))), (2, Value.int (beS ob nb (j + 1))), (1, Value.int (putE (coS ob nb j) j (ob j))), (0, Value.ref (a 0))] := lv_as hl (congrArg (fun z => [(3, Value.int (nI (j + 1))), (2, Value.int z), (1, Value.int (putE (coS ob nb j) j (ob j))), (0, Value.ref (a 0))]) eq7_0)
          have hl : lv_has ls 5 [(3, Value.int (nI (j + 1))), (2, Value.int (beS ob nb (j + 1))), (1, Value.int (coS ob nb (j + 1))), (0, Value.ref (a 0))] := lv_as hl (congrArg (fun z => [(3, Value.int (nI (j + 1))), (2, Value.int (beS ob nb (j + 1))), (1, Value.int z), (0, Value.ref (a 0))]) eq8_1)
          exact ih6 (j + 1) (by omega) (by omega) _ _ _ hP hD hS hl
  have eq9_0 : (0 : Int32) = nI 0 := by
    rfl
  have eq10_1 : (0 : Int32) = beS ob nb 0 := by
    rfl
  have eq11_2 : (0 : Int32) = coS ob nb 0 := by
    rfl
  have hl := lv_sub hl [0, 1, 2, 3] rfl
  have hl : lv_has ls 5 [(3, Value.int (0 : Int32)), (2, Value.int (0 : Int32)), (1, Value.int (0 : Int32)), (0, Value.ref (a 0))] := hl
  have hl : lv_has ls 5 [(3, Value.int (nI 0)), (2, Value.int (0 : Int32)), (1, Value.int (0 : Int32)), (0, Value.ref (a 0))] := lv_as hl (congrArg (fun z => [(3, Value.int z), (2, Value.int (0 : Int32)), (1, Value.int (0 : Int32)), (0, Value.ref (a 0))]) eq9_0)
  have hl : lv_has ls 5 [(3, Value.int (nI 0)), (2, Value.int (beS ob nb 0)), (1, Value.int (0 : Int32)), (0, Value.ref (a 0))] := lv_as hl (congrArg (fun z => [(3, Value.int (nI 0)), (2, Value.int z), (1, Value.int (0 : Int32)), (0, Value.ref (a 0))]) eq10_1)
  have hl : lv_has ls 5 [(3, Value.int (nI 0)), (2, Value.int (beS ob nb 0)), (1, Value.int (coS ob nb 0)), (0, Value.ref (a 0))] := lv_as hl (congrArg (fun z => [(3, Value.int (nI 0)), (2, Value.int (beS ob nb 0)), (1, Value.int z), (0, Value.ref (a 0))]) eq11_2)
  exact LP6 (no - 0 + 1) 0 (by omega) (Nat.lt_succ_self _) _ _ _ hP hD hS hl
