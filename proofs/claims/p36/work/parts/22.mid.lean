set_option maxHeartbeats 800000 in
set_option maxRecDepth 100000 in
theorem c_X5_checkBoat (l : Launch) (hlt : l.stackTraces = false) (D : va_G) (y : Nat → ClassId) (a : Nat → Nat) (cap clr : Int32) (t : Nat) (hom mov : Int32) (wm : Int64) (tb tf ts : Int32) (nw : Nat) (wf wt : Nat → Int32) (nb : Nat) (bw bl bi bb : Nat → Int32) (no : Nat) (od ow ol ork ob olf oco : Nat → Int32) (pn pb pm : Int32) (pcd pw pli : Nat → Int32) (b : Int32) (hb8 : no ≤ 8) : zX l D y yX5_checkBoat cX5_checkBoat 2 none 7 1 6 95 [Value.ref (a 0), Value.int b] (wB a y cap clr (nI t) hom mov wm tb tf ts (nI nw) wf wt (nI nb) bw bl bi bb (nI no) od ow ol ork ob olf oco pn pb pm pcd pw pli) (fun o9 w9 => (inB b no = true) ∧ o9 = none ∧ w9 = wB a y cap clr (nI t) hom mov wm tb tf ts (nI nw) wf wt (nI nb) bw bl bi bb (nI no) od ow ol ork ob olf oco pn pb pm pcd pw pli) (fun E => (E = "java/lang/IndexOutOfBoundsException" ∧ (inB b no = false))) := by
  refine zX.of (by decide +kernel) (Nat.le_of_ble_eq_true rfl) ?_
  intro p e s m args below meth c A ls hx hb hr hta hown hlocks hml hex hN hK hP hD hS hA hl
  refine z_gen (fun G hG => ?_)
  have hl : lv_has ls 2 [(0, Value.ref (a 0)), (1, Value.int b)] := hl
  refine lv_aload_n hx hb dX5_checkBoat_0 rfl (lv_at hl 0 rfl) ?_
  refine gB5_boats hx hb hta hown hK hP wd_2_0 dX5_checkBoat_1 ?_
  refine lv_iload_n hx hb dX5_checkBoat_4 rfl (lv_at hl 1 rfl) ?_
  refine z_callV (As := [Value.int b]) (rest := []) hx hb hml hown hta zm_X1_has wd_8_14 (c_X1_has l D y a cap clr t hom mov wm tb tf ts nw wf wt nb bw bl bi bb no od ow ol ork ob olf oco pn pb pm pcd pw pli b (by omega)) hN hK hP hD hS hA 4 rfl rfl rfl hl rfl (Nat.le_of_ble_eq_true rfl) ⟨Nat.le_of_ble_eq_true rfl, Nat.le_of_ble_eq_true rfl⟩ ⟨Nat.le_of_ble_eq_true rfl, Nat.le_of_ble_eq_true rfl⟩ dX5_checkBoat_5 (fun v w' H locs hq hP hD hS => ?_)
  obtain ⟨rfl, rfl⟩ := hq
  refine lv_if_ne (tgt := 21) hx hb dX5_checkBoat_8 (by decide) (fun c8 => ?_) (fun c8 => ?_)
  · have c8 := bI_1 c8
    refine z_vretX hG hx hb hr hlocks hP hD hS (Nat.le_of_ble_eq_true rfl) (Nat.le_of_ble_eq_true rfl) dX5_checkBoat_21 ?_
    exact ⟨c8, rfl, rfl⟩
  · have c8 := bI_0 c8
    refine zt_IndexOutOfBoundsException_252 (ik := 68) (ic := 72) hlt hG hx hb hown hta hN hP hS hl hml hex hlocks rfl rfl (Nat.le_of_ble_eq_true rfl) (Nat.le_of_ble_eq_true rfl) (Nat.le_of_ble_eq_true rfl) (Nat.le_of_ble_eq_true rfl) (Nat.le_of_ble_eq_true rfl) (Nat.le_of_ble_eq_true rfl) dX5_checkBoat_11 dX5_checkBoat_14 dX5_checkBoat_15 dX5_checkBoat_17 dX5_checkBoat_20 ?_
    exact ⟨rfl, c8⟩
set_option maxHeartbeats 800000 in
set_option maxRecDepth 100000 in
theorem c_X5_checkBerth (l : Launch) (hlt : l.stackTraces = false) (D : va_G) (y : Nat → ClassId) (a : Nat → Nat) (cap clr : Int32) (t : Nat) (hom mov : Int32) (wm : Int64) (tb tf ts : Int32) (nw : Nat) (wf wt : Nat → Int32) (nb : Nat) (bw bl bi bb : Nat → Int32) (no : Nat) (od ow ol ork ob olf oco : Nat → Int32) (pn pb pm : Int32) (pcd pw pli : Nat → Int32) (b : Int32) (hb6 : nb ≤ 6) : zX l D y yX5_checkBerth cX5_checkBerth 2 none 7 1 6 95 [Value.ref (a 0), Value.int b] (wB a y cap clr (nI t) hom mov wm tb tf ts (nI nw) wf wt (nI nb) bw bl bi bb (nI no) od ow ol ork ob olf oco pn pb pm pcd pw pli) (fun o9 w9 => (inB b nb = true) ∧ o9 = none ∧ w9 = wB a y cap clr (nI t) hom mov wm tb tf ts (nI nw) wf wt (nI nb) bw bl bi bb (nI no) od ow ol ork ob olf oco pn pb pm pcd pw pli) (fun E => (E = "java/lang/IndexOutOfBoundsException" ∧ (inB b nb = false))) := by
  refine zX.of (by decide +kernel) (Nat.le_of_ble_eq_true rfl) ?_
  intro p e s m args below meth c A ls hx hb hr hta hown hlocks hml hex hN hK hP hD hS hA hl
  refine z_gen (fun G hG => ?_)
  have hl : lv_has ls 2 [(0, Value.ref (a 0)), (1, Value.int b)] := hl
  refine lv_aload_n hx hb dX5_checkBerth_0 rfl (lv_at hl 0 rfl) ?_
  refine gB5_berths hx hb hta hown hK hP wd_1_20 dX5_checkBerth_1 ?_
  refine lv_iload_n hx hb dX5_checkBerth_4 rfl (lv_at hl 1 rfl) ?_
  refine z_callV (As := [Value.int b]) (rest := []) hx hb hml hown hta zm_X0_has wd_5_8 (c_X0_has l D y a cap clr t hom mov wm tb tf ts nw wf wt nb bw bl bi bb no od ow ol ork ob olf oco pn pb pm pcd pw pli b (by omega)) hN hK hP hD hS hA 3 rfl rfl rfl hl rfl (Nat.le_of_ble_eq_true rfl) ⟨Nat.le_of_ble_eq_true rfl, Nat.le_of_ble_eq_true rfl⟩ ⟨Nat.le_of_ble_eq_true rfl, Nat.le_of_ble_eq_true rfl⟩ dX5_checkBerth_5 (fun v w' H locs hq hP hD hS => ?_)
  obtain ⟨rfl, rfl⟩ := hq
  refine lv_if_ne (tgt := 21) hx hb dX5_checkBerth_8 (by decide) (fun c8 => ?_) (fun c8 => ?_)
  · have c8 := bI_1 c8
    refine z_vretX hG hx hb hr hlocks hP hD hS (Nat.le_of_ble_eq_true rfl) (Nat.le_of_ble_eq_true rfl) dX5_checkBerth_21 ?_
    exact ⟨c8, rfl, rfl⟩
  · have c8 := bI_0 c8
    refine zt_IndexOutOfBoundsException_254 (ik := 68) (ic := 72) hlt hG hx hb hown hta hN hP hS hl hml hex hlocks rfl rfl (Nat.le_of_ble_eq_true rfl) (Nat.le_of_ble_eq_true rfl) (Nat.le_of_ble_eq_true rfl) (Nat.le_of_ble_eq_true rfl) (Nat.le_of_ble_eq_true rfl) (Nat.le_of_ble_eq_true rfl) dX5_checkBerth_11 dX5_checkBerth_14 dX5_checkBerth_15 dX5_checkBerth_17 dX5_checkBerth_20 ?_
    exact ⟨rfl, c8⟩
set_option maxHeartbeats 800000 in
set_option maxRecDepth 100000 in
theorem c_X5_checkHour (l : Launch) (hlt : l.stackTraces = false) (D : va_G) (y : Nat → ClassId) (a : Nat → Nat) (cap clr : Int32) (t : Nat) (hom mov : Int32) (wm : Int64) (tb tf ts : Int32) (nw : Nat) (wf wt : Nat → Int32) (nb : Nat) (bw bl bi bb : Nat → Int32) (no : Nat) (od ow ol ork ob olf oco : Nat → Int32) (pn pb pm : Int32) (pcd pw pli : Nat → Int32) (h : Int32)  : zX l D y yX5_checkHour cX5_checkHour 2 none 7 1 6 95 [Value.ref (a 0), Value.int h] (wB a y cap clr (nI t) hom mov wm tb tf ts (nI nw) wf wt (nI nb) bw bl bi bb (nI no) od ow ol ork ob olf oco pn pb pm pcd pw pli) (fun o9 w9 => (outR h 0 9999 = false) ∧ o9 = none ∧ w9 = wB a y cap clr (nI t) hom mov wm tb tf ts (nI nw) wf wt (nI nb) bw bl bi bb (nI no) od ow ol ork ob olf oco pn pb pm pcd pw pli) (fun E => (E = "java/lang/IllegalArgumentException" ∧ (outR h 0 9999 = true))) := by
  refine zX.of (by decide +kernel) (Nat.le_of_ble_eq_true rfl) ?_
  intro p e s m args below meth c A ls hx hb hr hta hown hlocks hml hex hN hK hP hD hS hA hl
  refine z_gen (fun G hG => ?_)
  have hl : lv_has ls 2 [(0, Value.ref (a 0)), (1, Value.int h)] := hl
  refine lv_iload_n hx hb dX5_checkHour_0 rfl (lv_at hl 1 rfl) ?_
  refine lv_iconst (v := (0 : Int32)) hx hb dX5_checkHour_1 (by decide) ?_
  refine lv_sipush (v := (9999 : Int32)) hx hb dX5_checkHour_2 (by decide) ?_
  refine z_callS (As := [Value.int h, Value.int (0 : Int32), Value.int (9999 : Int32)]) (rest := []) hx hb hml hown hta zm_X5_outside wd_5_12 (c_X5_outside l D y a cap clr t hom mov wm tb tf ts nw wf wt nb bw bl bi bb no od ow ol ork ob olf oco pn pb pm pcd pw pli h (0 : Int32) (9999 : Int32)) hN hK hP hD hS hA rfl hl rfl (Nat.le_of_ble_eq_true rfl) ⟨Nat.le_of_ble_eq_true rfl, Nat.le_of_ble_eq_true rfl⟩ ⟨Nat.le_of_ble_eq_true rfl, Nat.le_of_ble_eq_true rfl⟩ dX5_checkHour_5 (fun v w' H locs hq hP hD hS => ?_)
  obtain ⟨rfl, rfl⟩ := hq
  refine lv_if_eq (tgt := 22) hx hb dX5_checkHour_8 (by decide) (fun c8 => ?_) (fun c8 => ?_)
  · have c8 := bI_0 c8
    refine z_vretX hG hx hb hr hlocks hP hD hS (Nat.le_of_ble_eq_true rfl) (Nat.le_of_ble_eq_true rfl) dX5_checkHour_22 ?_
    exact ⟨c8, rfl, rfl⟩
  · have c8 := bI_1 c8
    refine zt_IllegalArgumentException_256 (ik := 79) (ic := 83) hlt hG hx hb hown hta hN hP hS hl hml hex hlocks rfl rfl (Nat.le_of_ble_eq_true rfl) (Nat.le_of_ble_eq_true rfl) (Nat.le_of_ble_eq_true rfl) (Nat.le_of_ble_eq_true rfl) (Nat.le_of_ble_eq_true rfl) (Nat.le_of_ble_eq_true rfl) dX5_checkHour_11 dX5_checkHour_14 dX5_checkHour_15 dX5_checkHour_18 dX5_checkHour_21 ?_
    exact ⟨rfl, c8⟩
set_option maxHeartbeats 800000 in
set_option maxRecDepth 100000 in
theorem c_X5_checkBoatInBerth (l : Launch) (hlt : l.stackTraces = false) (D : va_G) (y : Nat → ClassId) (a : Nat → Nat) (cap clr : Int32) (t : Nat) (hom mov : Int32) (wm : Int64) (tb tf ts : Int32) (nw : Nat) (wf wt : Nat → Int32) (nb : Nat) (bw bl bi bb : Nat → Int32) (no : Nat) (od ow ol ork ob olf oco : Nat → Int32) (pn pb pm : Int32) (pcd pw pli : Nat → Int32) (b : Int32) (hb8 : no ≤ 8) (hb6 : nb ≤ 6) : zX l D y yX5_checkBoatInBerth cX5_checkBoatInBerth 2 none 8 2 12 116 [Value.ref (a 0), Value.int b] (wB a y cap clr (nI t) hom mov wm tb tf ts (nI nw) wf wt (nI nb) bw bl bi bb (nI no) od ow ol ork ob olf oco pn pb pm pcd pw pli) (fun o9 w9 => (∃ j, j < no ∧ b = nI j ∧ inB (ob j) nb = true) ∧ o9 = none ∧ w9 = wB a y cap clr (nI t) hom mov wm tb tf ts (nI nw) wf wt (nI nb) bw bl bi bb (nI no) od ow ol ork ob olf oco pn pb pm pcd pw pli) (fun E => (E = "java/lang/IndexOutOfBoundsException" ∧ (inB b no = false)) ∨ (E = "java/lang/IllegalStateException" ∧ (∃ j, j < no ∧ b = nI j ∧ inB (ob j) nb = false))) := by
  refine zX.of (by decide +kernel) (Nat.le_of_ble_eq_true rfl) ?_
  intro p e s m args below meth c A ls hx hb hr hta hown hlocks hml hex hN hK hP hD hS hA hl
  refine z_gen (fun G hG => ?_)
  have hl : lv_has ls 2 [(0, Value.ref (a 0)), (1, Value.int b)] := hl
  refine lv_aload_n hx hb dX5_checkBoatInBerth_0 rfl (lv_at hl 0 rfl) ?_
  refine lv_iload_n hx hb dX5_checkBoatInBerth_1 rfl (lv_at hl 1 rfl) ?_
  refine z_xcallV (As := [Value.int b]) (rest := []) hx hb hml hown hta zm_X5_checkBoat wd_8_10 (c_X5_checkBoat l hlt D y a cap clr t hom mov wm tb tf ts nw wf wt nb bw bl bi bb no od ow ol ork ob olf oco pn pb pm pcd pw pli b (by omega)) hN hK hP hD hS hA 0 rfl rfl rfl hl rfl (Nat.le_of_ble_eq_true rfl) ⟨Nat.le_of_ble_eq_true rfl, Nat.le_of_ble_eq_true rfl⟩ ⟨Nat.le_of_ble_eq_true rfl, Nat.le_of_ble_eq_true rfl⟩ dX5_checkBoatInBerth_2 (fun E ce q9 H locs hE hP hS hc9 hv9 hcl9 => ?_) (fun v w' H locs hq hP hD hS => ?_)
  · exact z_out hG hex hlocks ((fun h => Or.inl h) hE) hP hS hc9 hv9 hcl9 (Nat.le_of_ble_eq_true rfl) (Nat.le_of_ble_eq_true rfl)
  obtain ⟨hq1, rfl, rfl⟩ := hq
  obtain ⟨j, hj, ej⟩ := (inB_iff (by omega)).mp hq1
  refine lv_aload_n hx hb dX5_checkBoatInBerth_5 rfl (lv_at hl 0 rfl) ?_
  refine gB5_berths hx hb hta hown hK hP wd_1_20 dX5_checkBoatInBerth_6 ?_
  refine lv_aload_n hx hb dX5_checkBoatInBerth_9 rfl (lv_at hl 0 rfl) ?_
  refine gB5_boats hx hb hta hown hK hP wd_2_0 dX5_checkBoatInBerth_10 ?_
  refine gB1_berth hx hb hta hown hK hP wd_9_2 dX5_checkBoatInBerth_13 ?_
  refine lv_iload_n hx hb dX5_checkBoatInBerth_16 rfl (lv_at hl 1 rfl) ?_
  refine aB_ob hx hb hK hP j ej (by omega) dX5_checkBoatInBerth_17 ?_
  refine z_callV (As := [Value.int (ob j)]) (rest := []) hx hb hml hown hta zm_X0_has wd_5_8 (c_X0_has l D y a cap clr t hom mov wm tb tf ts nw wf wt nb bw bl bi bb no od ow ol ork ob olf oco pn pb pm pcd pw pli (ob j) (by omega)) hN hK hP hD hS hA 3 rfl rfl rfl hl rfl (Nat.le_of_ble_eq_true rfl) ⟨Nat.le_of_ble_eq_true rfl, Nat.le_of_ble_eq_true rfl⟩ ⟨Nat.le_of_ble_eq_true rfl, Nat.le_of_ble_eq_true rfl⟩ dX5_checkBoatInBerth_18 (fun v w' H locs hq hP hD hS => ?_)
  obtain ⟨rfl, rfl⟩ := hq
  refine lv_if_ne (tgt := 34) hx hb dX5_checkBoatInBerth_21 (by decide) (fun c21 => ?_) (fun c21 => ?_)
  · have c21 := bI_1 c21
    refine z_vretX hG hx hb hr hlocks hP hD hS (Nat.le_of_ble_eq_true rfl) (Nat.le_of_ble_eq_true rfl) dX5_checkBoatInBerth_34 ?_
    exact ⟨⟨j, hj, ej, c21⟩, rfl, rfl⟩
  · have c21 := bI_0 c21
    refine zt_IllegalStateException_196 (ik := 87) (ic := 91) hlt hG hx hb hown hta hN hP hS hl hml hex hlocks rfl rfl (Nat.le_of_ble_eq_true rfl) (Nat.le_of_ble_eq_true rfl) (Nat.le_of_ble_eq_true rfl) (Nat.le_of_ble_eq_true rfl) (Nat.le_of_ble_eq_true rfl) (Nat.le_of_ble_eq_true rfl) dX5_checkBoatInBerth_24 dX5_checkBoatInBerth_27 dX5_checkBoatInBerth_28 dX5_checkBoatInBerth_30 dX5_checkBoatInBerth_33 ?_
    exact Or.inr ⟨rfl, j, hj, ej, c21⟩
