set_option maxHeartbeats 800000 in
set_option maxRecDepth 100000 in
theorem c_X5_checkBoat (l : Launch) (hlt : l.stackTraces = false) (D : va_G) (y : Nat → ClassId) (a : Nat → Nat) (cap clr : Int32) (t : Nat) (hom mov : Int32) (wm : Int64) (tb tf ts : Int32) (nw : Nat) (wf wt : Nat → Int32) (nb : Nat) (bw bl bi bb : Nat → Int32) (no : Nat) (od ow ol ork ob olf oco : Nat → Int32) (pn pb pm : Int32) (pcd pw pli : Nat → Int32) (b : Int32) (hb8 : no ≤ 8) : zX l D y yX5_checkBoat cX5_checkBoat 2 none 7 1 6 95 [Value.ref (a 0), Value.int b] (wB a y cap clr (nI t) hom mov wm tb tf ts (nI nw) wf wt (nI nb) bw bl bi bb (nI no) od ow ol ork ob olf oco pn pb pm pcd pw pli) (fun o9 w9 => (inB b no = true) ∧ o9 = none ∧ w9 = wB a y cap clr (nI t) hom mov wm tb tf ts (nI nw) wf wt (nI nb) bw bl bi bb (nI no) od ow ol ork ob olf oco pn pb pm pcd pw pli) (fun E => (E = "java/lang/IndexOutOfBoundsException" ∧ (inB b no = false))) := by
  refine zX.of (by decide +kernel) (Nat.le_of_ble_eq_true rfl) ?_
  intro p e s m args below meth c A ls hx hb hr hta hown hlocks hml hex hN hK hP hD hS hA hl
  refine z_gen (fun G hG => ?_)
  have hl : lv_has ls 2 [(0, Value.ref (a 0)), (1, Value.int b)] := hl
  refine lv_aload_n hx hb dX5_checkBoat_0 rfl (lv_at hl 0 rfl) ?_
  refine gB5_boats hx hb hta hown hK hP wd_2_5 dX5_checkBoat_1 ?_
  refine lv_iload_n hx hb dX5_checkBoat_4 rfl (lv_at hl 1 rfl) ?_
  refine z_callV (As := [Value.int b]) (rest := []) hx hb hml hown hta zm_X1_has wd_13_13 (c_X1_has l D y a cap clr t hom mov wm tb tf ts nw wf wt nb bw bl bi bb no od ow ol ork ob olf oco pn pb pm pcd pw pli b (by omega)) hN hK hP hD hS hA 4 rfl rfl rfl hl rfl (Nat.le_of_ble_eq_true rfl) ⟨Nat.le_of_ble_eq_true rfl, Nat.le_of_ble_eq_true rfl⟩ ⟨Nat.le_of_ble_eq_true rfl, Nat.le_of_ble_eq_true rfl⟩ dX5_checkBoat_5 (fun v w' H locs hq hP hD hS => ?_)
  obtain ⟨rfl, rfl⟩ := hq
  refine lv_if_ne (tgt := 21) hx hb dX5_checkBoat_8 (by decide) (fun c8 => ?_) (fun c8 => ?_)
  · have c8 := bI_1 c8
    refine z_vretX hG hx hb hr hlocks hP hD hS (Nat.le_of_ble_eq_true rfl) (Nat.le_of_ble_eq_true rfl) dX5_checkBoat_21 ?_
    exact ⟨c8, rfl, rfl⟩
  · have c8 := bI_0 c8
    refine zt_IndexOutOfBoundsException_252 (ik := 68) (ic := 72) hlt hG hx hb hown hta hN hP hS hl hml hex hlocks rfl rfl (Nat.le_of_ble_eq_true rfl) (Nat.le_of_ble_eq_true rfl) (Nat.le_of_ble_eq_true rfl) (Nat.le_of_ble_eq_true rfl) (Nat.le_of_ble_eq_true rfl) (Nat.le_of_ble_eq_true rfl) dX5_checkBoat_11 dX5_checkBoat_14 dX5_checkBoat_15 dX5_checkBoat_17 dX5_checkBoat_20 ?_
    exact ⟨rfl, c8⟩
set_option maxHeartbeats 800000 in
set_option maxRecDepth 100000 in
theorem c_X5_checkBerth (l : Launch) (hlt : l.stackTraces = false) (D : va_G) (y : Nat → ClassId) (a : Nat → Nat) (cap clr : Int32) (t : Nat) (hom mov : Int32) (wm : Int64) (tb tf ts : Int32) (nw : Nat) (wf wt : Nat → Int32) (nb : Nat) (bw bl bi bb : Nat → Int32) (no : Nat) (od ow ol ork ob olf oco : Nat → Int32) (pn pb pm : Int32) (pcd pw pli : Nat → Int32) (b : Int32) (hb6 : nb ≤ 6) : zX l D y yX5_checkBerth cX5_checkBerth 2 none 7 1 6 95 [Value.ref (a 0), Value.int b] (wB a y cap clr (nI t) hom mov wm tb tf ts (nI nw) wf wt (nI nb) bw bl bi bb (nI no) od ow ol ork ob olf oco pn pb pm pcd pw pli) (fun o9 w9 => (inB b nb = true) ∧ o9 = none ∧ w9 = wB a y cap clr (nI t) hom mov wm tb tf ts (nI nw) wf wt (nI nb) bw bl bi bb (nI no) od ow ol ork ob olf oco pn pb pm pcd pw pli) (fun E => (E = "java/lang/IndexOutOfBoundsException" ∧ (inB b nb = false))) := by
  refine zX.of (by decide +kernel) (Nat.le_of_ble_eq_true rfl) ?_
  intro p e s m args below meth c A ls hx hb hr hta hown hlocks hml hex hN hK hP hD hS hA hl
  refine z_gen (fun G hG => ?_)
  have hl : lv_has ls 2 [(0, Value.ref (a 0)), (1, Value.int b)] := hl
  refine lv_aload_n hx hb dX5_checkBerth_0 rfl (lv_at hl 0 rfl) ?_
  refine gB5_berths hx hb hta hown hK hP wd_2_1 dX5_checkBerth_1 ?_
  refine lv_iload_n hx hb dX5_checkBerth_4 rfl (lv_at hl 1 rfl) ?_
  refine z_callV (As := [Value.int b]) (rest := []) hx hb hml hown hta zm_X0_has wd_6_8 (c_X0_has l D y a cap clr t hom mov wm tb tf ts nw wf wt nb bw bl bi bb no od ow ol ork ob olf oco pn pb pm pcd pw pli b (by omega)) hN hK hP hD hS hA 3 rfl rfl rfl hl rfl (Nat.le_of_ble_eq_true rfl) ⟨Nat.le_of_ble_eq_true rfl, Nat.le_of_ble_eq_true rfl⟩ ⟨Nat.le_of_ble_eq_true rfl, Nat.le_of_ble_eq_true rfl⟩ dX5_checkBerth_5 (fun v w' H locs hq hP hD hS => ?_)
  obtain ⟨rfl, rfl⟩ := hq
  refine lv_if_ne (tgt := 21) hx hb dX5_checkBerth_8 (by decide) (fun c8 => ?_) (fun c8 => ?_)
  · have c8 := bI_1 c8
    refine z_vretX hG hx hb hr hlocks hP hD hS (Nat.le_of_ble_eq_true rfl) (Nat.le_of_ble_eq_true rfl) dX5_checkBerth_21 ?_
    exact ⟨c8, rfl, rfl⟩
  · have c8 := bI_0 c8
    refine zt_IndexOutOfBoundsException_254 (ik := 68) (ic := 72) hlt hG hx hb hown hta hN hP hS hl hml hex hlocks rfl rfl (Nat.le_of_ble_eq_true rfl) (Nat.le_of_ble_eq_true rfl) (Nat.le_of_ble_eq_true rfl) (Nat.le_of_ble_eq_true rfl) (Nat.le_of_ble_eq_true rfl) (Nat.le_of_ble_eq_true rfl) dX5_checkBerth_11 dX5_checkBerth_14 dX5_checkBerth_15 dX5_checkBerth_17 dX5_checkBerth_20 ?_
    exact ⟨rfl, c8⟩
set_option maxHeartbeats 800000 in
set_option maxRecDepth 100000 in
theorem c_X5_checkBoatAndBerth (l : Launch) (hlt : l.stackTraces = false) (D : va_G) (y : Nat → ClassId) (a : Nat → Nat) (cap clr : Int32) (t : Nat) (hom mov : Int32) (wm : Int64) (tb tf ts : Int32) (nw : Nat) (wf wt : Nat → Int32) (nb : Nat) (bw bl bi bb : Nat → Int32) (no : Nat) (od ow ol ork ob olf oco : Nat → Int32) (pn pb pm : Int32) (pcd pw pli : Nat → Int32) (b : Int32) (g : Int32) (hb8 : no ≤ 8) (hb6 : nb ≤ 6) : zX l D y yX5_checkBoatAndBerth cX5_checkBoatAndBerth 3 none 8 2 12 116 [Value.ref (a 0), Value.int b, Value.int g] (wB a y cap clr (nI t) hom mov wm tb tf ts (nI nw) wf wt (nI nb) bw bl bi bb (nI no) od ow ol ork ob olf oco pn pb pm pcd pw pli) (fun o9 w9 => (inB b no = true ∧ inB g nb = true) ∧ o9 = none ∧ w9 = wB a y cap clr (nI t) hom mov wm tb tf ts (nI nw) wf wt (nI nb) bw bl bi bb (nI no) od ow ol ork ob olf oco pn pb pm pcd pw pli) (fun E => (E = "java/lang/IndexOutOfBoundsException" ∧ (¬ (inB b no = true ∧ inB g nb = true)))) := by
  refine zX.of (by decide +kernel) (Nat.le_of_ble_eq_true rfl) ?_
  intro p e s m args below meth c A ls hx hb hr hta hown hlocks hml hex hN hK hP hD hS hA hl
  refine z_gen (fun G hG => ?_)
  have hl : lv_has ls 3 [(0, Value.ref (a 0)), (1, Value.int b), (2, Value.int g)] := hl
  refine lv_aload_n hx hb dX5_checkBoatAndBerth_0 rfl (lv_at hl 0 rfl) ?_
  refine lv_iload_n hx hb dX5_checkBoatAndBerth_1 rfl (lv_at hl 1 rfl) ?_
  refine z_xcallV (As := [Value.int b]) (rest := []) hx hb hml hown hta zm_X5_checkBoat wd_13_9 (c_X5_checkBoat l hlt D y a cap clr t hom mov wm tb tf ts nw wf wt nb bw bl bi bb no od ow ol ork ob olf oco pn pb pm pcd pw pli b (by omega)) hN hK hP hD hS hA 0 rfl rfl rfl hl rfl (Nat.le_of_ble_eq_true rfl) ⟨Nat.le_of_ble_eq_true rfl, Nat.le_of_ble_eq_true rfl⟩ ⟨Nat.le_of_ble_eq_true rfl, Nat.le_of_ble_eq_true rfl⟩ dX5_checkBoatAndBerth_2 (fun E ce q9 H locs hE hP hS hc9 hv9 hcl9 => ?_) (fun v w' H locs hq hP hD hS => ?_)
  · exact z_out hG hex hlocks ((fun h => ⟨h.1, fun z => by rw [h.2] at z; exact absurd z.1 (by decide)⟩) hE) hP hS hc9 hv9 hcl9 (Nat.le_of_ble_eq_true rfl) (Nat.le_of_ble_eq_true rfl)
  obtain ⟨hq1, rfl, rfl⟩ := hq
  refine lv_aload_n hx hb dX5_checkBoatAndBerth_5 rfl (lv_at hl 0 rfl) ?_
  refine lv_iload_n hx hb dX5_checkBoatAndBerth_6 rfl (lv_at hl 2 rfl) ?_
  refine z_xcallV (As := [Value.int g]) (rest := []) hx hb hml hown hta zm_X5_checkBerth wd_16_8 (c_X5_checkBerth l hlt D y a cap clr t hom mov wm tb tf ts nw wf wt nb bw bl bi bb no od ow ol ork ob olf oco pn pb pm pcd pw pli g (by omega)) hN hK hP hD hS hA 0 rfl rfl rfl hl rfl (Nat.le_of_ble_eq_true rfl) ⟨Nat.le_of_ble_eq_true rfl, Nat.le_of_ble_eq_true rfl⟩ ⟨Nat.le_of_ble_eq_true rfl, Nat.le_of_ble_eq_true rfl⟩ dX5_checkBoatAndBerth_7 (fun E ce q9 H locs hE hP hS hc9 hv9 hcl9 => ?_) (fun v w' H locs hq hP hD hS => ?_)
  · exact z_out hG hex hlocks ((fun h => ⟨h.1, fun z => by rw [h.2] at z; exact absurd z.2 (by decide)⟩) hE) hP hS hc9 hv9 hcl9 (Nat.le_of_ble_eq_true rfl) (Nat.le_of_ble_eq_true rfl)
  obtain ⟨hq2, rfl, rfl⟩ := hq
  refine z_vretX hG hx hb hr hlocks hP hD hS (Nat.le_of_ble_eq_true rfl) (Nat.le_of_ble_eq_true rfl) dX5_checkBoatAndBerth_10 ?_
  exact ⟨⟨hq1, hq2⟩, rfl, rfl⟩
set_option maxHeartbeats 800000 in
set_option maxRecDepth 100000 in
theorem c_X5_checkHour (l : Launch) (hlt : l.stackTraces = false) (D : va_G) (y : Nat → ClassId) (a : Nat → Nat) (cap clr : Int32) (t : Nat) (hom mov : Int32) (wm : Int64) (tb tf ts : Int32) (nw : Nat) (wf wt : Nat → Int32) (nb : Nat) (bw bl bi bb : Nat → Int32) (no : Nat) (od ow ol ork ob olf oco : Nat → Int32) (pn pb pm : Int32) (pcd pw pli : Nat → Int32) (h : Int32)  : zX l D y yX5_checkHour cX5_checkHour 2 none 7 1 6 95 [Value.ref (a 0), Value.int h] (wB a y cap clr (nI t) hom mov wm tb tf ts (nI nw) wf wt (nI nb) bw bl bi bb (nI no) od ow ol ork ob olf oco pn pb pm pcd pw pli) (fun o9 w9 => (outR h 0 9999 = false) ∧ o9 = none ∧ w9 = wB a y cap clr (nI t) hom mov wm tb tf ts (nI nw) wf wt (nI nb) bw bl bi bb (nI no) od ow ol ork ob olf oco pn pb pm pcd pw pli) (fun E => (E = "java/lang/IllegalArgumentException" ∧ (outR h 0 9999 = true))) := by
  refine zX.of (by decide +kernel) (Nat.le_of_ble_eq_true rfl) ?_
  intro p e s m args below meth c A ls hx hb hr hta hown hlocks hml hex hN hK hP hD hS hA hl
  refine z_gen (fun G hG => ?_)
  have hl : lv_has ls 2 [(0, Value.ref (a 0)), (1, Value.int h)] := hl
  refine lv_iload_n hx hb dX5_checkHour_0 rfl (lv_at hl 1 rfl) ?_
  refine lv_iconst (v := (0 : Int32)) hx hb dX5_checkHour_1 (by decide) ?_
  refine lv_sipush (v := (9999 : Int32)) hx hb dX5_checkHour_2 (by decide) ?_
  refine z_callS (As := [Value.int h, Value.int (0 : Int32), Value.int (9999 : Int32)]) (rest := []) hx hb hml hown hta zm_X5_outside wd_6_12 (c_X5_outside l D y a cap clr t hom mov wm tb tf ts nw wf wt nb bw bl bi bb no od ow ol ork ob olf oco pn pb pm pcd pw pli h (0 : Int32) (9999 : Int32)) hN hK hP hD hS hA rfl hl rfl (Nat.le_of_ble_eq_true rfl) ⟨Nat.le_of_ble_eq_true rfl, Nat.le_of_ble_eq_true rfl⟩ ⟨Nat.le_of_ble_eq_true rfl, Nat.le_of_ble_eq_true rfl⟩ dX5_checkHour_5 (fun v w' H locs hq hP hD hS => ?_)
  obtain ⟨rfl, rfl⟩ := hq
  refine lv_if_eq (tgt := 22) hx hb dX5_checkHour_8 (by decide) (fun c8 => ?_) (fun c8 => ?_)
  · have c8 := bI_0 c8
    refine z_vretX hG hx hb hr hlocks hP hD hS (Nat.le_of_ble_eq_true rfl) (Nat.le_of_ble_eq_true rfl) dX5_checkHour_22 ?_
    exact ⟨c8, rfl, rfl⟩
  · have c8 := bI_1 c8
    refine zt_IllegalArgumentException_256 (ik := 79) (ic := 83) hlt hG hx hb hown hta hN hP hS hl hml hex hlocks rfl rfl (Nat.le_of_ble_eq_true rfl) (Nat.le_of_ble_eq_true rfl) (Nat.le_of_ble_eq_true rfl) (Nat.le_of_ble_eq_true rfl) (Nat.le_of_ble_eq_true rfl) (Nat.le_of_ble_eq_true rfl) dX5_checkHour_11 dX5_checkHour_14 dX5_checkHour_15 dX5_checkHour_18 dX5_checkHour_21 ?_
    exact ⟨rfl, c8⟩
set_option maxHeartbeats 800000 in
set_option maxRecDepth 100000 in
theorem c_X5_checkFlood (l : Launch) (hlt : l.stackTraces = false) (D : va_G) (y : Nat → ClassId) (a : Nat → Nat) (cap clr : Int32) (t : Nat) (hom mov : Int32) (wm : Int64) (tb tf ts : Int32) (nw : Nat) (wf wt : Nat → Int32) (nb : Nat) (bw bl bi bb : Nat → Int32) (no : Nat) (od ow ol ork ob olf oco : Nat → Int32) (pn pb pm : Int32) (pcd pw pli : Nat → Int32) (b : Int32) (h : Int32) (hb8 : no ≤ 8) : zX l D y yX5_checkFlood cX5_checkFlood 3 none 8 2 12 116 [Value.ref (a 0), Value.int b, Value.int h] (wB a y cap clr (nI t) hom mov wm tb tf ts (nI nw) wf wt (nI nb) bw bl bi bb (nI no) od ow ol ork ob olf oco pn pb pm pcd pw pli) (fun o9 w9 => (inB b no = true ∧ outR h 1 5000 = false) ∧ o9 = none ∧ w9 = wB a y cap clr (nI t) hom mov wm tb tf ts (nI nw) wf wt (nI nb) bw bl bi bb (nI no) od ow ol ork ob olf oco pn pb pm pcd pw pli) (fun E => (E = "java/lang/IndexOutOfBoundsException" ∧ (inB b no = false)) ∨ (E = "java/lang/IllegalArgumentException" ∧ (inB b no = true ∧ outR h 1 5000 = true))) := by
  refine zX.of (by decide +kernel) (Nat.le_of_ble_eq_true rfl) ?_
  intro p e s m args below meth c A ls hx hb hr hta hown hlocks hml hex hN hK hP hD hS hA hl
  refine z_gen (fun G hG => ?_)
  have hl : lv_has ls 3 [(0, Value.ref (a 0)), (1, Value.int b), (2, Value.int h)] := hl
  refine lv_aload_n hx hb dX5_checkFlood_0 rfl (lv_at hl 0 rfl) ?_
  refine lv_iload_n hx hb dX5_checkFlood_1 rfl (lv_at hl 1 rfl) ?_
  refine z_xcallV (As := [Value.int b]) (rest := []) hx hb hml hown hta zm_X5_checkBoat wd_13_9 (c_X5_checkBoat l hlt D y a cap clr t hom mov wm tb tf ts nw wf wt nb bw bl bi bb no od ow ol ork ob olf oco pn pb pm pcd pw pli b (by omega)) hN hK hP hD hS hA 0 rfl rfl rfl hl rfl (Nat.le_of_ble_eq_true rfl) ⟨Nat.le_of_ble_eq_true rfl, Nat.le_of_ble_eq_true rfl⟩ ⟨Nat.le_of_ble_eq_true rfl, Nat.le_of_ble_eq_true rfl⟩ dX5_checkFlood_2 (fun E ce q9 H locs hE hP hS hc9 hv9 hcl9 => ?_) (fun v w' H locs hq hP hD hS => ?_)
  · exact z_out hG hex hlocks ((fun h => Or.inl h) hE) hP hS hc9 hv9 hcl9 (Nat.le_of_ble_eq_true rfl) (Nat.le_of_ble_eq_true rfl)
  obtain ⟨hq1, rfl, rfl⟩ := hq
  refine lv_iload_n hx hb dX5_checkFlood_5 rfl (lv_at hl 2 rfl) ?_
  refine lv_iconst (v := (1 : Int32)) hx hb dX5_checkFlood_6 (by decide) ?_
  refine lv_sipush (v := (5000 : Int32)) hx hb dX5_checkFlood_7 (by decide) ?_
  refine z_callS (As := [Value.int h, Value.int (1 : Int32), Value.int (5000 : Int32)]) (rest := []) hx hb hml hown hta zm_X5_outside wd_6_12 (c_X5_outside l D y a cap clr t hom mov wm tb tf ts nw wf wt nb bw bl bi bb no od ow ol ork ob olf oco pn pb pm pcd pw pli h (1 : Int32) (5000 : Int32)) hN hK hP hD hS hA rfl hl rfl (Nat.le_of_ble_eq_true rfl) ⟨Nat.le_of_ble_eq_true rfl, Nat.le_of_ble_eq_true rfl⟩ ⟨Nat.le_of_ble_eq_true rfl, Nat.le_of_ble_eq_true rfl⟩ dX5_checkFlood_10 (fun v w' H locs hq hP hD hS => ?_)
  obtain ⟨rfl, rfl⟩ := hq
  refine lv_if_eq (tgt := 26) hx hb dX5_checkFlood_13 (by decide) (fun c13 => ?_) (fun c13 => ?_)
  · have c13 := bI_0 c13
    refine z_vretX hG hx hb hr hlocks hP hD hS (Nat.le_of_ble_eq_true rfl) (Nat.le_of_ble_eq_true rfl) dX5_checkFlood_26 ?_
    exact ⟨⟨hq1, c13⟩, rfl, rfl⟩
  · have c13 := bI_1 c13
    refine zt_IllegalArgumentException_203 (ik := 79) (ic := 83) hlt hG hx hb hown hta hN hP hS hl hml hex hlocks rfl rfl (Nat.le_of_ble_eq_true rfl) (Nat.le_of_ble_eq_true rfl) (Nat.le_of_ble_eq_true rfl) (Nat.le_of_ble_eq_true rfl) (Nat.le_of_ble_eq_true rfl) (Nat.le_of_ble_eq_true rfl) dX5_checkFlood_16 dX5_checkFlood_19 dX5_checkFlood_20 dX5_checkFlood_22 dX5_checkFlood_25 ?_
    exact Or.inr ⟨rfl, hq1, c13⟩
set_option maxHeartbeats 800000 in
set_option maxRecDepth 100000 in
theorem c_X5_checkBoatInBerth (l : Launch) (hlt : l.stackTraces = false) (D : va_G) (y : Nat → ClassId) (a : Nat → Nat) (cap clr : Int32) (t : Nat) (hom mov : Int32) (wm : Int64) (tb tf ts : Int32) (nw : Nat) (wf wt : Nat → Int32) (nb : Nat) (bw bl bi bb : Nat → Int32) (no : Nat) (od ow ol ork ob olf oco : Nat → Int32) (pn pb pm : Int32) (pcd pw pli : Nat → Int32) (b : Int32) (hb8 : no ≤ 8) (hb6 : nb ≤ 6) : zX l D y yX5_checkBoatInBerth cX5_checkBoatInBerth 2 none 8 2 12 116 [Value.ref (a 0), Value.int b] (wB a y cap clr (nI t) hom mov wm tb tf ts (nI nw) wf wt (nI nb) bw bl bi bb (nI no) od ow ol ork ob olf oco pn pb pm pcd pw pli) (fun o9 w9 => (∃ j, j < no ∧ b = nI j ∧ inB (ob j) nb = true) ∧ o9 = none ∧ w9 = wB a y cap clr (nI t) hom mov wm tb tf ts (nI nw) wf wt (nI nb) bw bl bi bb (nI no) od ow ol ork ob olf oco pn pb pm pcd pw pli) (fun E => (E = "java/lang/IndexOutOfBoundsException" ∧ (inB b no = false)) ∨ (E = "java/lang/IllegalStateException" ∧ (∃ j, j < no ∧ b = nI j ∧ inB (ob j) nb = false))) := by
  refine zX.of (by decide +kernel) (Nat.le_of_ble_eq_true rfl) ?_
  intro p e s m args below meth c A ls hx hb hr hta hown hlocks hml hex hN hK hP hD hS hA hl
  refine z_gen (fun G hG => ?_)
  have hl : lv_has ls 2 [(0, Value.ref (a 0)), (1, Value.int b)] := hl
  refine lv_aload_n hx hb dX5_checkBoatInBerth_0 rfl (lv_at hl 0 rfl) ?_
  refine lv_iload_n hx hb dX5_checkBoatInBerth_1 rfl (lv_at hl 1 rfl) ?_
  refine z_xcallV (As := [Value.int b]) (rest := []) hx hb hml hown hta zm_X5_checkBoat wd_13_9 (c_X5_checkBoat l hlt D y a cap clr t hom mov wm tb tf ts nw wf wt nb bw bl bi bb no od ow ol ork ob olf oco pn pb pm pcd pw pli b (by omega)) hN hK hP hD hS hA 0 rfl rfl rfl hl rfl (Nat.le_of_ble_eq_true rfl) ⟨Nat.le_of_ble_eq_true rfl, Nat.le_of_ble_eq_true rfl⟩ ⟨Nat.le_of_ble_eq_true rfl, Nat.le_of_ble_eq_true rfl⟩ dX5_checkBoatInBerth_2 (fun E ce q9 H locs hE hP hS hc9 hv9 hcl9 => ?_) (fun v w' H locs hq hP hD hS => ?_)
  · exact z_out hG hex hlocks ((fun h => Or.inl h) hE) hP hS hc9 hv9 hcl9 (Nat.le_of_ble_eq_true rfl) (Nat.le_of_ble_eq_true rfl)
  obtain ⟨hq1, rfl, rfl⟩ := hq
  obtain ⟨j, hj, ej⟩ := (inB_iff (by omega)).mp hq1
  refine lv_aload_n hx hb dX5_checkBoatInBerth_5 rfl (lv_at hl 0 rfl) ?_
  refine gB5_berths hx hb hta hown hK hP wd_2_1 dX5_checkBoatInBerth_6 ?_
  refine lv_aload_n hx hb dX5_checkBoatInBerth_9 rfl (lv_at hl 0 rfl) ?_
  refine gB5_boats hx hb hta hown hK hP wd_2_5 dX5_checkBoatInBerth_10 ?_
  refine gB1_berth hx hb hta hown hK hP wd_16_2 dX5_checkBoatInBerth_13 ?_
  refine lv_iload_n hx hb dX5_checkBoatInBerth_16 rfl (lv_at hl 1 rfl) ?_
  refine aB_ob hx hb hK hP j ej (by omega) dX5_checkBoatInBerth_17 ?_
  refine z_callV (As := [Value.int (ob j)]) (rest := []) hx hb hml hown hta zm_X0_has wd_6_8 (c_X0_has l D y a cap clr t hom mov wm tb tf ts nw wf wt nb bw bl bi bb no od ow ol ork ob olf oco pn pb pm pcd pw pli (ob j) (by omega)) hN hK hP hD hS hA 3 rfl rfl rfl hl rfl (Nat.le_of_ble_eq_true rfl) ⟨Nat.le_of_ble_eq_true rfl, Nat.le_of_ble_eq_true rfl⟩ ⟨Nat.le_of_ble_eq_true rfl, Nat.le_of_ble_eq_true rfl⟩ dX5_checkBoatInBerth_18 (fun v w' H locs hq hP hD hS => ?_)
  obtain ⟨rfl, rfl⟩ := hq
  refine lv_if_ne (tgt := 34) hx hb dX5_checkBoatInBerth_21 (by decide) (fun c21 => ?_) (fun c21 => ?_)
  · have c21 := bI_1 c21
    refine z_vretX hG hx hb hr hlocks hP hD hS (Nat.le_of_ble_eq_true rfl) (Nat.le_of_ble_eq_true rfl) dX5_checkBoatInBerth_34 ?_
    exact ⟨⟨j, hj, ej, c21⟩, rfl, rfl⟩
  · have c21 := bI_0 c21
    refine zt_IllegalStateException_196 (ik := 87) (ic := 91) hlt hG hx hb hown hta hN hP hS hl hml hex hlocks rfl rfl (Nat.le_of_ble_eq_true rfl) (Nat.le_of_ble_eq_true rfl) (Nat.le_of_ble_eq_true rfl) (Nat.le_of_ble_eq_true rfl) (Nat.le_of_ble_eq_true rfl) (Nat.le_of_ble_eq_true rfl) dX5_checkBoatInBerth_24 dX5_checkBoatInBerth_27 dX5_checkBoatInBerth_28 dX5_checkBoatInBerth_30 dX5_checkBoatInBerth_33 ?_
    exact Or.inr ⟨rfl, j, hj, ej, c21⟩
set_option maxHeartbeats 800000 in
set_option maxRecDepth 100000 in
theorem c_X5_enoughWater (l : Launch) (D : va_G) (y : Nat → ClassId) (a : Nat → Nat) (cap clr : Int32) (t : Nat) (hom mov : Int32) (wm : Int64) (tb tf ts : Int32) (nw : Nat) (wf wt : Nat → Int32) (nb : Nat) (bw bl bi bb : Nat → Int32) (no : Nat) (od ow ol ork ob olf oco : Nat → Int32) (pn pb pm : Int32) (pcd pw pli : Nat → Int32) (j : Nat) (h : Int32) (hj8 : j < 8) : zP l D y yX5_enoughWater cX5_enoughWater 3 (some .boolean) 2 0 0 61 [Value.ref (a 0), Value.int (nI j), Value.int h] (wB a y cap clr (nI t) hom mov wm tb tf ts (nI nw) wf wt (nI nb) bw bl bi bb (nI no) od ow ol ork ob olf oco pn pb pm pcd pw pli) (fun o9 w9 => o9 = some (Value.int (bI (enW tb tf ts clr od j h))) ∧ w9 = wB a y cap clr (nI t) hom mov wm tb tf ts (nI nw) wf wt (nI nb) bw bl bi bb (nI no) od ow ol ork ob olf oco pn pb pm pcd pw pli) := by
  refine zP.of (by decide +kernel) (Nat.le_of_ble_eq_true rfl) ?_
  intro p e s m args below meth c A ls hx hb hr hta hown hlocks hml hin hN hK hP hD hS hA hl
  refine z_gen (fun G hG => ?_)
  have hl : lv_has ls 3 [(0, Value.ref (a 0)), (1, Value.int (nI j)), (2, Value.int h)] := hl
  refine lv_aload_n hx hb dX5_enoughWater_0 rfl (lv_at hl 0 rfl) ?_
  refine gB5_tide hx hb hta hown hK hP wd_1_17 dX5_enoughWater_1 ?_
  refine lv_iload_n hx hb dX5_enoughWater_4 rfl (lv_at hl 2 rfl) ?_
  refine z_callV (As := [Value.int h]) (rest := []) hx hb hml hown hta zm_X3_levelAt wd_9_0 (c_X3_levelAt l D y a cap clr t hom mov wm tb tf ts nw wf wt nb bw bl bi bb no od ow ol ork ob olf oco pn pb pm pcd pw pli h) hN hK hP hD hS hA 1 rfl rfl rfl hl rfl (Nat.le_of_ble_eq_true rfl) ⟨Nat.le_of_ble_eq_true rfl, Nat.le_of_ble_eq_true rfl⟩ ⟨Nat.le_of_ble_eq_true rfl, Nat.le_of_ble_eq_true rfl⟩ dX5_enoughWater_5 (fun v w' H locs hq hP hD hS => ?_)
  obtain ⟨rfl, rfl⟩ := hq
  refine lv_aload_n hx hb dX5_enoughWater_8 rfl (lv_at hl 0 rfl) ?_
  refine gB5_boats hx hb hta hown hK hP wd_2_5 dX5_enoughWater_9 ?_
  refine gB1_draught hx hb hta hown hK hP wd_14_1 dX5_enoughWater_12 ?_
  refine lv_iload_n hx hb dX5_enoughWater_15 rfl (lv_at hl 1 rfl) ?_
  refine aB_od hx hb hK hP j rfl (by omega) dX5_enoughWater_16 ?_
  refine lv_aload_n hx hb dX5_enoughWater_17 rfl (lv_at hl 0 rfl) ?_
  refine gB5_clearance hx hb hta hown hK hP wd_2_11 dX5_enoughWater_18 ?_
  refine lv_iadd hx hb dX5_enoughWater_21 ?_
  refine lv_icmp_lt (tgt := 29) hx hb dX5_enoughWater_22 (by decide) (fun c22 => ?_) (fun c22 => ?_)
  · refine lv_iconst (v := (0 : Int32)) hx hb dX5_enoughWater_29 (by decide) ?_
    refine z_zret hG hx hb hr hlocks hP hD hS (Nat.le_of_ble_eq_true rfl) (Nat.le_of_ble_eq_true rfl) dX5_enoughWater_30 ?_ ?_
    · rfl
    · refine zqi ?_
      unfold enW
      first
      | exact bI_t (decide_eq_true (by simp only [Int32.lt_iff_toInt_lt, Int32.le_iff_toInt_le] at c22 ⊢; omega))
      | exact bI_f (decide_eq_false (by simp only [Int32.lt_iff_toInt_lt, Int32.le_iff_toInt_le] at c22 ⊢; omega))
  · refine lv_iconst (v := (1 : Int32)) hx hb dX5_enoughWater_25 (by decide) ?_
    refine lv_goto (tgt := 30) hx hb dX5_enoughWater_26 (by decide) ?_
    refine z_zret hG hx hb hr hlocks hP hD hS (Nat.le_of_ble_eq_true rfl) (Nat.le_of_ble_eq_true rfl) dX5_enoughWater_30 ?_ ?_
    · rfl
    · refine zqi ?_
      unfold enW
      first
      | exact bI_t (decide_eq_true (by simp only [Int32.lt_iff_toInt_lt, Int32.le_iff_toInt_le] at c22 ⊢; omega))
      | exact bI_f (decide_eq_false (by simp only [Int32.lt_iff_toInt_lt, Int32.le_iff_toInt_le] at c22 ⊢; omega))
set_option maxHeartbeats 800000 in
set_option maxRecDepth 100000 in
theorem c_X5_countFlood (l : Launch) (D : va_G) (y : Nat → ClassId) (a : Nat → Nat) (cap clr : Int32) (t : Nat) (hom mov : Int32) (wm : Int64) (tb tf ts : Int32) (nw : Nat) (wf wt : Nat → Int32) (nb : Nat) (bw bl bi bb : Nat → Int32) (no : Nat) (od ow ol ork ob olf oco : Nat → Int32) (pn pb pm : Int32) (pcd pw pli : Nat → Int32) (j : Nat) (n9 : Nat) (hj8 : j < 8) (ht : t ≤ 9999) (hn9 : n9 ≤ 5000) : zP l D y yX5_countFlood cX5_countFlood 5 (some .int) 3 0 0 83 [Value.ref (a 0), Value.int (nI j), Value.int (nI n9)] (wB a y cap clr (nI t) hom mov wm tb tf ts (nI nw) wf wt (nI nb) bw bl bi bb (nI no) od ow ol ork ob olf oco pn pb pm pcd pw pli) (fun o9 w9 => o9 = some (Value.int (nI (fb_ct (fun k => enW tb tf ts clr od j (nI (t + k))) n9))) ∧ w9 = wB a y cap clr (nI t) hom mov wm tb tf ts (nI nw) wf wt (nI nb) bw bl bi bb (nI no) od ow ol ork ob olf oco pn pb pm pcd pw pli) := by
  refine zP.of (by decide +kernel) (Nat.le_of_ble_eq_true rfl) ?_
  intro p e s m args below meth c A ls hx hb hr hta hown hlocks hml hin hN hK hP hD hS hA hl
  refine z_gen (fun G hG => ?_)
  have hl : lv_has ls 5 [(0, Value.ref (a 0)), (1, Value.int (nI j)), (2, Value.int (nI n9))] := hl
  refine lv_iconst (v := (0 : Int32)) hx hb dX5_countFlood_0 (by decide) ?_
  refine lv_istore_n (lv' := [(3, Value.int (0 : Int32)), (0, Value.ref (a 0)), (1, Value.int (nI j)), (2, Value.int (nI n9))]) hx hb dX5_countFlood_1 rfl hl (by decide) rfl (fun ls hl => ?_)
  refine lv_iconst (v := (0 : Int32)) hx hb dX5_countFlood_2 (by decide) ?_
  refine lv_istore (lv' := [(4, Value.int (0 : Int32)), (3, Value.int (0 : Int32)), (0, Value.ref (a 0)), (1, Value.int (nI j)), (2, Value.int (nI n9))]) hx hb dX5_countFlood_3 hl (by decide) rfl (fun ls hl => ?_)
  have LP5 : ∀ (n : Nat) (k : Nat), (k ≤ n9) → n9 - k < n → ∀ (H : Heap) (locs : List Loc) (ls : Array Slot), va_P D vwCl (wB a y cap clr (nI t) hom mov wm tb tf ts (nI nw) wf wt (nI nb) bw bl bi bb (nI no) od ow ol ork ob olf oco pn pb pm pcd pw pli) H → va_D A (wB a y cap clr (nI t) hom mov wm tb tf ts (nI nw) wf wt (nI nb) bw bl bi bb (nI no) od ow ol ork ob olf oco pn pb pm pcd pw pli) → va_S A s.heap H locs → lv_has ls 5 [(4, Value.int (nI k)), (3, Value.int (nI (fb_ct (fun k => enW tb tf ts clr od j (nI (t + k))) k))), (0, Value.ref (a 0)), (1, Value.int (nI j)), (2, Value.int (nI n9))] → W p l e ({ frames := 3, cells := 0, slots := 0, locals := 83 } : Room) s m args below meth c H locs 0 0 G (F0 m 5 ls []) := by
    intro n
    induction n with
    | zero => intro k hk hn; exact absurd hn (Nat.not_lt_zero _)
    | succ n ih5 =>
      intro k hk hn H locs ls hP hD hS hl
      refine lv_iload hx hb dX5_countFlood_5 (lv_at hl 0 rfl) ?_
      refine lv_iload_n hx hb dX5_countFlood_7 rfl (lv_at hl 4 rfl) ?_
      refine lv_icmp_ge (tgt := 35) hx hb dX5_countFlood_8 (by decide) (fun c8 => ?_) (fun c8 => ?_)
      · have c8 : n9 ≤ k := (nI_leI (a := n9) (b := k) (by omega) (by omega)).mp c8
        refine lv_iload_n hx hb dX5_countFlood_35 rfl (lv_at hl 1 rfl) ?_
        refine z_iret hG hx hb hr hlocks hP hD hS (Nat.le_of_ble_eq_true rfl) (Nat.le_of_ble_eq_true rfl) dX5_countFlood_36 ?_
        refine zqi ?_
        rw [show k = n9 by omega]
      · have c8 : ¬ n9 ≤ k := fun z => c8 ((nI_leI (a := n9) (b := k) (by omega) (by omega)).mpr z)
        refine lv_aload_n hx hb dX5_countFlood_11 rfl (lv_at hl 2 rfl) ?_
        refine lv_iload_n hx hb dX5_countFlood_12 rfl (lv_at hl 3 rfl) ?_
        refine lv_aload_n hx hb dX5_countFlood_13 rfl (lv_at hl 2 rfl) ?_
        refine gB5_now hx hb hta hown hK hP wd_2_12 dX5_countFlood_14 ?_
        refine lv_iload hx hb dX5_countFlood_17 (lv_at hl 0 rfl) ?_
        refine lv_iadd hx hb dX5_countFlood_19 ?_
        refine zr_top (y := nI (t + k)) (nI_add t k) ?_
        refine z_callV (As := [Value.int (nI j), Value.int (nI (t + k))]) (rest := []) hx hb hml hown hta zm_X5_enoughWater wd_13_21 (c_X5_enoughWater l D y a cap clr t hom mov wm tb tf ts nw wf wt nb bw bl bi bb no od ow ol ork ob olf oco pn pb pm pcd pw pli j (nI (t + k)) (by omega)) hN hK hP hD hS hA 0 rfl rfl rfl hl rfl (Nat.le_of_ble_eq_true rfl) ⟨Nat.le_of_ble_eq_true rfl, Nat.le_of_ble_eq_true rfl⟩ ⟨Nat.le_of_ble_eq_true rfl, Nat.le_of_ble_eq_true rfl⟩ dX5_countFlood_20 (fun v w' H locs hq hP hD hS => ?_)
        obtain ⟨rfl, rfl⟩ := hq
        refine lv_if_eq (tgt := 29) hx hb dX5_countFlood_23 (by decide) (fun c23 => ?_) (fun c23 => ?_)
        · have c23 := bI_0 c23
          refine lv_iinc (v := nI (k + 1)) (lv' := [(4, Value.int (nI (k + 1))), (3, Value.int (nI (fb_ct (fun k => enW tb tf ts clr od j (nI (t + k))) k))), (0, Value.ref (a 0)), (1, Value.int (nI j)), (2, Value.int (nI n9))]) hx hb dX5_countFlood_29 hl (k := 0) rfl (nI_add k 1) (by decide) rfl (fun ls hl => ?_)
          refine lv_goto (tgt := 5) hx hb dX5_countFlood_32 (by decide) ?_
          have eq2_0 : nI (fb_ct (fun k => enW tb tf ts clr od j (nI (t + k))) k) = nI (fb_ct (fun k => enW tb tf ts clr od j (nI (t + k))) (k + 1)) := by
            first
            | with_reducible rfl
            | rw [fb_ct_succ, if_pos c23]
            | (rw [fb_ct_succ, c23]; rfl)
          have hl := lv_sub hl [0, 1, 2, 3, 4] rfl
          have hl : lv_has ls 5 [(4, Value.int (nI (k + 1))), (3, Value.int (nI (fb_ct (fun k => enW tb tf ts clr od j (nI (t + k))) k))), (0, Value.ref (a 0)), (1, Value.int (nI j)), (2, Value.int (nI n9))] := hl
          have hl : lv_has ls 5 [(4, Value.int (nI (k + 1))), (3, Value.int (nI (fb_ct (fun k => enW tb tf ts clr od j (nI (t + k))) (k + 1)))), (0, Value.ref (a 0)), (1, Value.int (nI j)), (2, Value.int (nI n9))] := lv_as hl (congrArg (fun z => [(4, Value.int (nI (k + 1))), (3, Value.int z), (0, Value.ref (a 0)), (1, Value.int (nI j)), (2, Value.int (nI n9))]) eq2_0)
          exact ih5 (k + 1) (by omega) (by omega) _ _ _ hP hD hS hl
        · have c23 := bI_1 c23
          refine lv_iinc (v := nI ((fb_ct (fun k => enW tb tf ts clr od j (nI (t + k))) k) + 1)) (lv' := [(3, Value.int (nI ((fb_ct (fun k => enW tb tf ts clr od j (nI (t + k))) k) + 1))), (4, Value.int (nI k)), (0, Value.ref (a 0)), (1, Value.int (nI j)), (2, Value.int (nI n9))]) hx hb dX5_countFlood_26 hl (k := 1) rfl (nI_add (fb_ct (fun k => enW tb tf ts clr od j (nI (t + k))) k) 1) (by decide) rfl (fun ls hl => ?_)
          refine lv_iinc (v := nI (k + 1)) (lv' := [(4, Value.int (nI (k + 1))), (3, Value.int (nI ((fb_ct (fun k => enW tb tf ts clr od j (nI (t + k))) k) + 1))), (0, Value.ref (a 0)), (1, Value.int (nI j)), (2, Value.int (nI n9))]) hx hb dX5_countFlood_29 hl (k := 1) rfl (nI_add k 1) (by decide) rfl (fun ls hl => ?_)
          refine lv_goto (tgt := 5) hx hb dX5_countFlood_32 (by decide) ?_
          have eq3_0 : nI ((fb_ct (fun k => enW tb tf ts clr od j (nI (t + k))) k) + 1) = nI (fb_ct (fun k => enW tb tf ts clr od j (nI (t + k))) (k + 1)) := by
            first
            | with_reducible rfl
            | rw [fb_ct_succ, if_pos c23]
            | (rw [fb_ct_succ, c23]; rfl)
          have hl := lv_sub hl [0, 1, 2, 3, 4] rfl
          have hl : lv_has ls 5 [(4, Value.int (nI (k + 1))), (3, Value.int (nI ((fb_ct (fun k => enW tb tf ts clr od j (nI (t + k))) k) + 1))), (0, Value.ref (a 0)), (1, Value.int (nI j)), (2, Value.int (nI n9))] := hl
          have hl : lv_has ls 5 [(4, Value.int (nI (k + 1))), (3, Value.int (nI (fb_ct (fun k => enW tb tf ts clr od j (nI (t + k))) (k + 1)))), (0, Value.ref (a 0)), (1, Value.int (nI j)), (2, Value.int (nI n9))] := lv_as hl (congrArg (fun z => [(4, Value.int (nI (k + 1))), (3, Value.int z), (0, Value.ref (a 0)), (1, Value.int (nI j)), (2, Value.int (nI n9))]) eq3_0)
          exact ih5 (k + 1) (by omega) (by omega) _ _ _ hP hD hS hl
  have eq4_0 : (0 : Int32) = nI 0 := by
    rfl
  have eq5_1 : (0 : Int32) = nI (fb_ct (fun k => enW tb tf ts clr od j (nI (t + k))) 0) := by
    rfl
  have hl := lv_sub hl [0, 1, 2, 3, 4] rfl
  have hl : lv_has ls 5 [(4, Value.int (0 : Int32)), (3, Value.int (0 : Int32)), (0, Value.ref (a 0)), (1, Value.int (nI j)), (2, Value.int (nI n9))] := hl
  have hl : lv_has ls 5 [(4, Value.int (nI 0)), (3, Value.int (0 : Int32)), (0, Value.ref (a 0)), (1, Value.int (nI j)), (2, Value.int (nI n9))] := lv_as hl (congrArg (fun z => [(4, Value.int z), (3, Value.int (0 : Int32)), (0, Value.ref (a 0)), (1, Value.int (nI j)), (2, Value.int (nI n9))]) eq4_0)
  have hl : lv_has ls 5 [(4, Value.int (nI 0)), (3, Value.int (nI (fb_ct (fun k => enW tb tf ts clr od j (nI (t + k))) 0))), (0, Value.ref (a 0)), (1, Value.int (nI j)), (2, Value.int (nI n9))] := lv_as hl (congrArg (fun z => [(4, Value.int (nI 0)), (3, Value.int z), (0, Value.ref (a 0)), (1, Value.int (nI j)), (2, Value.int (nI n9))]) eq5_1)
  exact LP5 (n9 - 0 + 1) 0 (by omega) (Nat.lt_succ_self _) _ _ _ hP hD hS hl
set_option maxHeartbeats 800000 in
set_option maxRecDepth 100000 in
theorem c_X5_hourBar (l : Launch) (D : va_G) (y : Nat → ClassId) (a : Nat → Nat) (cap clr : Int32) (t : Nat) (hom mov : Int32) (wm : Int64) (tb tf ts : Int32) (nw : Nat) (wf wt : Nat → Int32) (nb : Nat) (bw bl bi bb : Nat → Int32) (no : Nat) (od ow ol ork ob olf oco : Nat → Int32) (pn pb pm : Int32) (pcd pw pli : Nat → Int32)  (hw : nw ≤ 6) : zP l D y yX5_hourBar cX5_hourBar 1 (some .char) 1 0 0 22 [Value.ref (a 0)] (wB a y cap clr (nI t) hom mov wm tb tf ts (nI nw) wf wt (nI nb) bw bl bi bb (nI no) od ow ol ork ob olf oco pn pb pm pcd pw pli) (fun o9 w9 => o9 = some (Value.int (hbF (badF wf wt nw (nI t)) hom (nI t))) ∧ w9 = wB a y cap clr (nI t) hom mov wm tb tf ts (nI nw) wf wt (nI nb) bw bl bi bb (nI no) od ow ol ork ob olf oco pn pb pm pcd pw pli) := by
  refine zP.of (by decide +kernel) (Nat.le_of_ble_eq_true rfl) ?_
  intro p e s m args below meth c A ls hx hb hr hta hown hlocks hml hin hN hK hP hD hS hA hl
  refine z_gen (fun G hG => ?_)
  have hl : lv_has ls 1 [(0, Value.ref (a 0))] := hl
  refine lv_aload_n hx hb dX5_hourBar_0 rfl (lv_at hl 0 rfl) ?_
  refine gB5_weather hx hb hta hown hK hP wd_1_21 dX5_hourBar_1 ?_
  refine lv_aload_n hx hb dX5_hourBar_4 rfl (lv_at hl 0 rfl) ?_
  refine gB5_now hx hb hta hown hK hP wd_2_12 dX5_hourBar_5 ?_
  refine z_callV (As := [Value.int (nI t)]) (rest := []) hx hb hml hown hta zm_X4_badAt wd_12_10 (c_X4_badAt l D y a cap clr t hom mov wm tb tf ts nw wf wt nb bw bl bi bb no od ow ol ork ob olf oco pn pb pm pcd pw pli (nI t) (by omega)) hN hK hP hD hS hA 2 rfl rfl rfl hl rfl (Nat.le_of_ble_eq_true rfl) ⟨Nat.le_of_ble_eq_true rfl, Nat.le_of_ble_eq_true rfl⟩ ⟨Nat.le_of_ble_eq_true rfl, Nat.le_of_ble_eq_true rfl⟩ dX5_hourBar_8 (fun v w' H locs hq hP hD hS => ?_)
  obtain ⟨rfl, rfl⟩ := hq
  refine lv_if_eq (tgt := 17) hx hb dX5_hourBar_11 (by decide) (fun c11 => ?_) (fun c11 => ?_)
  · have c11 := bI_0 c11
    refine lv_aload_n hx hb dX5_hourBar_17 rfl (lv_at hl 0 rfl) ?_
    refine gB5_hourOfMove hx hb hta hown hK hP wd_2_13 dX5_hourBar_18 ?_
    refine lv_aload_n hx hb dX5_hourBar_21 rfl (lv_at hl 0 rfl) ?_
    refine gB5_now hx hb hta hown hK hP wd_2_12 dX5_hourBar_22 ?_
    refine lv_icmp_ne (tgt := 33) hx hb dX5_hourBar_25 (by decide) (fun c25 => ?_) (fun c25 => ?_)
    · refine lv_bipush (v := (110 : Int32)) hx hb dX5_hourBar_33 (by decide) ?_
      refine z_zret hG hx hb hr hlocks hP hD hS (Nat.le_of_ble_eq_true rfl) (Nat.le_of_ble_eq_true rfl) dX5_hourBar_35 ?_ ?_
      · rfl
      · refine zqi ?_
        simp only [hbF, c11, c25, reduceIte, Bool.false_eq_true, not_true_eq_false, not_false_eq_true]
    · refine lv_bipush (v := (99 : Int32)) hx hb dX5_hourBar_28 (by decide) ?_
      refine lv_goto (tgt := 35) hx hb dX5_hourBar_30 (by decide) ?_
      refine z_zret hG hx hb hr hlocks hP hD hS (Nat.le_of_ble_eq_true rfl) (Nat.le_of_ble_eq_true rfl) dX5_hourBar_35 ?_ ?_
      · rfl
      · refine zqi ?_
        simp only [hbF, c11, c25, reduceIte, Bool.false_eq_true, not_true_eq_false, not_false_eq_true]
  · have c11 := bI_1 c11
    refine lv_bipush (v := (98 : Int32)) hx hb dX5_hourBar_14 (by decide) ?_
    refine z_zret hG hx hb hr hlocks hP hD hS (Nat.le_of_ble_eq_true rfl) (Nat.le_of_ble_eq_true rfl) dX5_hourBar_16 ?_ ?_
    · rfl
    · refine zqi ?_
      simp only [hbF, c11, reduceIte, Bool.false_eq_true, not_true_eq_false, not_false_eq_true]
set_option maxHeartbeats 800000 in
set_option maxRecDepth 100000 in
theorem c_X5_loadBar (l : Launch) (D : va_G) (y : Nat → ClassId) (a : Nat → Nat) (cap clr : Int32) (t : Nat) (hom mov : Int32) (wm : Int64) (tb tf ts : Int32) (nw : Nat) (wf wt : Nat → Int32) (nb : Nat) (bw bl bi bb : Nat → Int32) (no : Nat) (od ow ol ork ob olf oco : Nat → Int32) (pn pb pm : Int32) (pcd pw pli : Nat → Int32) (j : Nat) (k : Nat) (hj8 : j < 8) (hk6 : k < 6) : zP l D y yX5_loadBar cX5_loadBar 3 (some .char) 0 0 0 0 [Value.ref (a 0), Value.int (nI j), Value.int (nI k)] (wB a y cap clr (nI t) hom mov wm tb tf ts (nI nw) wf wt (nI nb) bw bl bi bb (nI no) od ow ol ork ob olf oco pn pb pm pcd pw pli) (fun o9 w9 => o9 = some (Value.int (ldF cap ow ol bw bl j k)) ∧ w9 = wB a y cap clr (nI t) hom mov wm tb tf ts (nI nw) wf wt (nI nb) bw bl bi bb (nI no) od ow ol ork ob olf oco pn pb pm pcd pw pli) := by
  refine zP.of (by decide +kernel) (Nat.le_of_ble_eq_true rfl) ?_
  intro p e s m args below meth c A ls hx hb hr hta hown hlocks hml hin hN hK hP hD hS hA hl
  refine z_gen (fun G hG => ?_)
  have hl : lv_has ls 3 [(0, Value.ref (a 0)), (1, Value.int (nI j)), (2, Value.int (nI k))] := hl
  refine lv_aload_n hx hb dX5_loadBar_0 rfl (lv_at hl 0 rfl) ?_
  refine gB5_boats hx hb hta hown hK hP wd_2_5 dX5_loadBar_1 ?_
  refine gB1_weight hx hb hta hown hK hP wd_17_4 dX5_loadBar_4 ?_
  refine lv_iload_n hx hb dX5_loadBar_7 rfl (lv_at hl 1 rfl) ?_
  refine aB_ow hx hb hK hP j rfl (by omega) dX5_loadBar_8 ?_
  refine lv_aload_n hx hb dX5_loadBar_9 rfl (lv_at hl 0 rfl) ?_
  refine gB5_capacity hx hb hta hown hK hP wd_2_10 dX5_loadBar_10 ?_
  refine lv_icmp_gt (tgt := 37) hx hb dX5_loadBar_13 (by decide) (fun c13 => ?_) (fun c13 => ?_)
  · refine lv_bipush (v := (119 : Int32)) hx hb dX5_loadBar_37 (by decide) ?_
    refine z_zret hG hx hb hr hlocks hP hD hS (Nat.le_of_ble_eq_true rfl) (Nat.le_of_ble_eq_true rfl) dX5_loadBar_39 ?_ ?_
    · rfl
    · refine zqi ?_
      simp only [ldF, c13, reduceIte, Bool.false_eq_true, not_true_eq_false, not_false_eq_true]
  · refine lv_aload_n hx hb dX5_loadBar_16 rfl (lv_at hl 0 rfl) ?_
    refine gB5_boats hx hb hta hown hK hP wd_2_5 dX5_loadBar_17 ?_
    refine gB1_weight hx hb hta hown hK hP wd_17_4 dX5_loadBar_20 ?_
    refine lv_iload_n hx hb dX5_loadBar_23 rfl (lv_at hl 1 rfl) ?_
    refine aB_ow hx hb hK hP j rfl (by omega) dX5_loadBar_24 ?_
    refine lv_aload_n hx hb dX5_loadBar_25 rfl (lv_at hl 0 rfl) ?_
    refine gB5_berths hx hb hta hown hK hP wd_2_1 dX5_loadBar_26 ?_
    refine gB0_weight hx hb hta hown hK hP wd_17_5 dX5_loadBar_29 ?_
    refine lv_iload_n hx hb dX5_loadBar_32 rfl (lv_at hl 2 rfl) ?_
    refine aB_bw hx hb hK hP k rfl (by omega) dX5_loadBar_33 ?_
    refine lv_icmp_le (tgt := 40) hx hb dX5_loadBar_34 (by decide) (fun c34 => ?_) (fun c34 => ?_)
    · refine lv_aload_n hx hb dX5_loadBar_40 rfl (lv_at hl 0 rfl) ?_
      refine gB5_boats hx hb hta hown hK hP wd_2_5 dX5_loadBar_41 ?_
      refine gB1_length hx hb hta hown hK hP wd_17_6 dX5_loadBar_44 ?_
      refine lv_iload_n hx hb dX5_loadBar_47 rfl (lv_at hl 1 rfl) ?_
      refine aB_ol hx hb hK hP j rfl (by omega) dX5_loadBar_48 ?_
      refine lv_aload_n hx hb dX5_loadBar_49 rfl (lv_at hl 0 rfl) ?_
      refine gB5_berths hx hb hta hown hK hP wd_2_1 dX5_loadBar_50 ?_
      refine gB0_length hx hb hta hown hK hP wd_17_7 dX5_loadBar_53 ?_
      refine lv_iload_n hx hb dX5_loadBar_56 rfl (lv_at hl 2 rfl) ?_
      refine aB_bl hx hb hK hP k rfl (by omega) dX5_loadBar_57 ?_
      refine lv_icmp_le (tgt := 66) hx hb dX5_loadBar_58 (by decide) (fun c58 => ?_) (fun c58 => ?_)
      · refine lv_bipush (v := (110 : Int32)) hx hb dX5_loadBar_66 (by decide) ?_
        refine z_zret hG hx hb hr hlocks hP hD hS (Nat.le_of_ble_eq_true rfl) (Nat.le_of_ble_eq_true rfl) dX5_loadBar_68 ?_ ?_
        · rfl
        · refine zqi ?_
          simp only [ldF, c13, c34, c58, reduceIte, Bool.false_eq_true, not_true_eq_false, not_false_eq_true]
      · refine lv_bipush (v := (108 : Int32)) hx hb dX5_loadBar_61 (by decide) ?_
        refine lv_goto (tgt := 68) hx hb dX5_loadBar_63 (by decide) ?_
        refine z_zret hG hx hb hr hlocks hP hD hS (Nat.le_of_ble_eq_true rfl) (Nat.le_of_ble_eq_true rfl) dX5_loadBar_68 ?_ ?_
        · rfl
        · refine zqi ?_
          simp only [ldF, c13, c34, c58, reduceIte, Bool.false_eq_true, not_true_eq_false, not_false_eq_true]
    · refine lv_bipush (v := (119 : Int32)) hx hb dX5_loadBar_37 (by decide) ?_
      refine z_zret hG hx hb hr hlocks hP hD hS (Nat.le_of_ble_eq_true rfl) (Nat.le_of_ble_eq_true rfl) dX5_loadBar_39 ?_ ?_
      · rfl
      · refine zqi ?_
        simp only [ldF, c13, c34, reduceIte, Bool.false_eq_true, not_true_eq_false, not_false_eq_true]
set_option maxHeartbeats 800000 in
set_option maxRecDepth 100000 in
theorem c_X5_holds (l : Launch) (D : va_G) (y : Nat → ClassId) (a : Nat → Nat) (cap clr : Int32) (t : Nat) (hom mov : Int32) (wm : Int64) (tb tf ts : Int32) (nw : Nat) (wf wt : Nat → Int32) (nb : Nat) (bw bl bi bb : Nat → Int32) (no : Nat) (od ow ol ork ob olf oco : Nat → Int32) (pn pb pm : Int32) (pcd pw pli : Nat → Int32) (g : Int32) (h : Int32)  : zP l D y yX5_holds cX5_holds 2 (some .boolean) 0 0 0 0 [Value.int g, Value.int h] (wB a y cap clr (nI t) hom mov wm tb tf ts (nI nw) wf wt (nI nb) bw bl bi bb (nI no) od ow ol ork ob olf oco pn pb pm pcd pw pli) (fun o9 w9 => o9 = some (Value.int (bI (hoB g h))) ∧ w9 = wB a y cap clr (nI t) hom mov wm tb tf ts (nI nw) wf wt (nI nb) bw bl bi bb (nI no) od ow ol ork ob olf oco pn pb pm pcd pw pli) := by
  refine zP.of (by decide +kernel) (Nat.le_of_ble_eq_true rfl) ?_
  intro p e s m args below meth c A ls hx hb hr hta hown hlocks hml hin hN hK hP hD hS hA hl
  refine z_gen (fun G hG => ?_)
  have hl : lv_has ls 2 [(0, Value.int g), (1, Value.int h)] := hl
  refine lv_iload_n hx hb dX5_holds_0 rfl (lv_at hl 0 rfl) ?_
  refine lv_iload_n hx hb dX5_holds_1 rfl (lv_at hl 1 rfl) ?_
  refine lv_ishr hx hb dX5_holds_2 ?_
  refine lv_iconst (v := (1 : Int32)) hx hb dX5_holds_3 (by decide) ?_
  refine lv_iand hx hb dX5_holds_4 ?_
  refine lv_if_eq (tgt := 12) hx hb dX5_holds_5 (by decide) (fun c5 => ?_) (fun c5 => ?_)
  · refine lv_iconst (v := (0 : Int32)) hx hb dX5_holds_12 (by decide) ?_
    refine z_zret hG hx hb hr hlocks hP hD hS (Nat.le_of_ble_eq_true rfl) (Nat.le_of_ble_eq_true rfl) dX5_holds_13 ?_ ?_
    · rfl
    · refine zqi ?_
      unfold hoB
      first
      | exact bI_f (decide_eq_false (fun z => z c5))
      | exact bI_t (decide_eq_true c5)
  · refine lv_iconst (v := (1 : Int32)) hx hb dX5_holds_8 (by decide) ?_
    refine lv_goto (tgt := 13) hx hb dX5_holds_9 (by decide) ?_
    refine z_zret hG hx hb hr hlocks hP hD hS (Nat.le_of_ble_eq_true rfl) (Nat.le_of_ble_eq_true rfl) dX5_holds_13 ?_ ?_
    · rfl
    · refine zqi ?_
      unfold hoB
      first
      | exact bI_f (decide_eq_false (fun z => z c5))
      | exact bI_t (decide_eq_true c5)
set_option maxHeartbeats 800000 in
set_option maxRecDepth 100000 in
theorem c_X5_placeBar (l : Launch) (D : va_G) (y : Nat → ClassId) (a : Nat → Nat) (cap clr : Int32) (t : Nat) (hom mov : Int32) (wm : Int64) (tb tf ts : Int32) (nw : Nat) (wf wt : Nat → Int32) (nb : Nat) (bw bl bi bb : Nat → Int32) (no : Nat) (od ow ol ork ob olf oco : Nat → Int32) (pn pb pm : Int32) (pcd pw pli : Nat → Int32) (j : Nat) (f : Nat) (k : Nat) (oc9 : Int32) (hj8 : j < 8) (hf6 : f < 6) (hk6 : k < 6) : zP l D y yX5_placeBar cX5_placeBar 6 (some .char) 1 0 0 22 [Value.ref (a 0), Value.int (nI j), Value.int (nI f), Value.int (nI k), Value.int oc9] (wB a y cap clr (nI t) hom mov wm tb tf ts (nI nw) wf wt (nI nb) bw bl bi bb (nI no) od ow ol ork ob olf oco pn pb pm pcd pw pli) (fun o9 w9 => o9 = some (Value.int (plF cap olf ow ol bw bl bi j f k oc9)) ∧ w9 = wB a y cap clr (nI t) hom mov wm tb tf ts (nI nw) wf wt (nI nb) bw bl bi bb (nI no) od ow ol ork ob olf oco pn pb pm pcd pw pli) := by
  refine zP.of (by decide +kernel) (Nat.le_of_ble_eq_true rfl) ?_
  intro p e s m args below meth c A ls hx hb hr hta hown hlocks hml hin hN hK hP hD hS hA hl
  refine z_gen (fun G hG => ?_)
  have hl : lv_has ls 6 [(0, Value.ref (a 0)), (1, Value.int (nI j)), (2, Value.int (nI f)), (3, Value.int (nI k)), (4, Value.int oc9)] := hl
  refine lv_aload_n hx hb dX5_placeBar_0 rfl (lv_at hl 0 rfl) ?_
  refine gB5_boats hx hb hta hown hK hP wd_2_5 dX5_placeBar_1 ?_
  refine gB1_left hx hb hta hown hK hP wd_19_16 dX5_placeBar_4 ?_
  refine lv_iload_n hx hb dX5_placeBar_7 rfl (lv_at hl 1 rfl) ?_
  refine aB_olf hx hb hK hP j rfl (by omega) dX5_placeBar_8 ?_
  refine lv_if_le (tgt := 15) hx hb dX5_placeBar_9 (by decide) (fun c9 => ?_) (fun c9 => ?_)
  · refine lv_iload hx hb dX5_placeBar_15 (lv_at hl 4 rfl) ?_
    refine lv_iload_n hx hb dX5_placeBar_17 rfl (lv_at hl 3 rfl) ?_
    refine z_callS (As := [Value.int oc9, Value.int (nI k)]) (rest := []) hx hb hml hown hta zm_X5_holds wd_16_21 (c_X5_holds l D y a cap clr t hom mov wm tb tf ts nw wf wt nb bw bl bi bb no od ow ol ork ob olf oco pn pb pm pcd pw pli oc9 (nI k)) hN hK hP hD hS hA rfl hl rfl (Nat.le_of_ble_eq_true rfl) ⟨Nat.le_of_ble_eq_true rfl, Nat.le_of_ble_eq_true rfl⟩ ⟨Nat.le_of_ble_eq_true rfl, Nat.le_of_ble_eq_true rfl⟩ dX5_placeBar_18 (fun v w' H locs hq hP hD hS => ?_)
    obtain ⟨rfl, rfl⟩ := hq
    refine lv_if_eq (tgt := 27) hx hb dX5_placeBar_21 (by decide) (fun c21 => ?_) (fun c21 => ?_)
    · have c21 := bI_0 c21
      refine lv_iload hx hb dX5_placeBar_27 (lv_at hl 4 rfl) ?_
      refine lv_iconst (v := (1 : Int32)) hx hb dX5_placeBar_29 (by decide) ?_
      refine lv_iload_n hx hb dX5_placeBar_30 rfl (lv_at hl 2 rfl) ?_
      refine lv_ishl hx hb dX5_placeBar_31 ?_
      refine lv_iconst (v := (-1 : Int32)) hx hb dX5_placeBar_32 (by decide) ?_
      refine lv_ixor hx hb dX5_placeBar_33 ?_
      refine lv_iand hx hb dX5_placeBar_34 ?_
      refine lv_istore (lv' := [(5, Value.int (oc9 &&& (((1 : Int32) <<< ((nI f) &&& 31)) ^^^ (-1 : Int32)))), (0, Value.ref (a 0)), (1, Value.int (nI j)), (2, Value.int (nI f)), (3, Value.int (nI k)), (4, Value.int oc9)]) hx hb dX5_placeBar_35 hl (by decide) rfl (fun ls hl => ?_)
      refine lv_iload hx hb dX5_placeBar_37 (lv_at hl 0 rfl) ?_
      refine lv_aload_n hx hb dX5_placeBar_39 rfl (lv_at hl 1 rfl) ?_
      refine gB5_berths hx hb hta hown hK hP wd_2_1 dX5_placeBar_40 ?_
      refine gB0_inFront hx hb hta hown hK hP wd_16_16 dX5_placeBar_43 ?_
      refine lv_iload_n hx hb dX5_placeBar_46 rfl (lv_at hl 3 rfl) ?_
      refine aB_bi hx hb hK hP f rfl (by omega) dX5_placeBar_47 ?_
      refine lv_aload_n hx hb dX5_placeBar_48 rfl (lv_at hl 1 rfl) ?_
      refine gB5_berths hx hb hta hown hK hP wd_2_1 dX5_placeBar_49 ?_
      refine gB0_inFront hx hb hta hown hK hP wd_16_16 dX5_placeBar_52 ?_
      refine lv_iload_n hx hb dX5_placeBar_55 rfl (lv_at hl 4 rfl) ?_
      refine aB_bi hx hb hK hP k rfl (by omega) dX5_placeBar_56 ?_
      refine lv_ior hx hb dX5_placeBar_57 ?_
      refine lv_iand hx hb dX5_placeBar_58 ?_
      refine lv_if_eq (tgt := 65) hx hb dX5_placeBar_59 (by decide) (fun c59 => ?_) (fun c59 => ?_)
      · refine lv_aload_n hx hb dX5_placeBar_65 rfl (lv_at hl 1 rfl) ?_
        refine lv_iload_n hx hb dX5_placeBar_66 rfl (lv_at hl 2 rfl) ?_
        refine lv_iload_n hx hb dX5_placeBar_67 rfl (lv_at hl 4 rfl) ?_
        refine z_callV (As := [Value.int (nI j), Value.int (nI k)]) (rest := []) hx hb hml hown hta zm_X5_loadBar wd_17_0 (c_X5_loadBar l D y a cap clr t hom mov wm tb tf ts nw wf wt nb bw bl bi bb no od ow ol ork ob olf oco pn pb pm pcd pw pli j k (by omega) (by omega)) hN hK hP hD hS hA 0 rfl rfl rfl hl rfl (Nat.le_of_ble_eq_true rfl) ⟨Nat.le_of_ble_eq_true rfl, Nat.le_of_ble_eq_true rfl⟩ ⟨Nat.le_of_ble_eq_true rfl, Nat.le_of_ble_eq_true rfl⟩ dX5_placeBar_68 (fun v w' H locs hq hP hD hS => ?_)
        obtain ⟨rfl, rfl⟩ := hq
        refine z_zret hG hx hb hr hlocks hP hD hS (Nat.le_of_ble_eq_true rfl) (Nat.le_of_ble_eq_true rfl) dX5_placeBar_71 ?_ ?_
        · exact ld_ch ..
        · refine zqi ?_
          simp only [plF, c9, c21, c59, reduceIte, Bool.false_eq_true, not_true_eq_false, not_false_eq_true]
      · refine lv_bipush (v := (102 : Int32)) hx hb dX5_placeBar_62 (by decide) ?_
        refine z_zret hG hx hb hr hlocks hP hD hS (Nat.le_of_ble_eq_true rfl) (Nat.le_of_ble_eq_true rfl) dX5_placeBar_64 ?_ ?_
        · rfl
        · refine zqi ?_
          simp only [plF, c9, c21, c59, reduceIte, Bool.false_eq_true, not_true_eq_false, not_false_eq_true]
    · have c21 := bI_1 c21
      refine lv_bipush (v := (111 : Int32)) hx hb dX5_placeBar_24 (by decide) ?_
      refine z_zret hG hx hb hr hlocks hP hD hS (Nat.le_of_ble_eq_true rfl) (Nat.le_of_ble_eq_true rfl) dX5_placeBar_26 ?_ ?_
      · rfl
      · refine zqi ?_
        simp only [plF, c9, c21, reduceIte, Bool.false_eq_true, not_true_eq_false, not_false_eq_true]
  · refine lv_bipush (v := (100 : Int32)) hx hb dX5_placeBar_12 (by decide) ?_
    refine z_zret hG hx hb hr hlocks hP hD hS (Nat.le_of_ble_eq_true rfl) (Nat.le_of_ble_eq_true rfl) dX5_placeBar_14 ?_ ?_
    · rfl
    · refine zqi ?_
      simp only [plF, c9, reduceIte, Bool.false_eq_true, not_true_eq_false, not_false_eq_true]
set_option maxHeartbeats 800000 in
set_option maxRecDepth 100000 in
theorem c_X5_liftBar (l : Launch) (D : va_G) (y : Nat → ClassId) (a : Nat → Nat) (cap clr : Int32) (t : Nat) (hom mov : Int32) (wm : Int64) (tb tf ts : Int32) (nw : Nat) (wf wt : Nat → Int32) (nb : Nat) (bw bl bi bb : Nat → Int32) (no : Nat) (od ow ol ork ob olf oco : Nat → Int32) (pn pb pm : Int32) (pcd pw pli : Nat → Int32) (j : Nat) (k : Nat) (hj8 : j < 8) (hk6 : k < 6) (hb6 : nb ≤ 6) (hw : nw ≤ 6) : zP l D y yX5_liftBar cX5_liftBar 5 (some .char) 3 0 0 83 [Value.ref (a 0), Value.int (nI j), Value.int (nI k)] (wB a y cap clr (nI t) hom mov wm tb tf ts (nI nw) wf wt (nI nb) bw bl bi bb (nI no) od ow ol ork ob olf oco pn pb pm pcd pw pli) (fun o9 w9 => o9 = some (Value.int (liF cap clr tb tf ts hom (nI t) (badF wf wt nw (nI t)) ob bb od ow ol bw bl bi nb j k)) ∧ w9 = wB a y cap clr (nI t) hom mov wm tb tf ts (nI nw) wf wt (nI nb) bw bl bi bb (nI no) od ow ol ork ob olf oco pn pb pm pcd pw pli) := by
  refine zP.of (by decide +kernel) (Nat.le_of_ble_eq_true rfl) ?_
  intro p e s m args below meth c A ls hx hb hr hta hown hlocks hml hin hN hK hP hD hS hA hl
  refine z_gen (fun G hG => ?_)
  have hl : lv_has ls 5 [(0, Value.ref (a 0)), (1, Value.int (nI j)), (2, Value.int (nI k))] := hl
  refine lv_aload_n hx hb dX5_liftBar_0 rfl (lv_at hl 0 rfl) ?_
  refine gB5_boats hx hb hta hown hK hP wd_2_5 dX5_liftBar_1 ?_
  refine gB1_berth hx hb hta hown hK hP wd_16_2 dX5_liftBar_4 ?_
  refine lv_iload_n hx hb dX5_liftBar_7 rfl (lv_at hl 1 rfl) ?_
  refine aB_ob hx hb hK hP j rfl (by omega) dX5_liftBar_8 ?_
  refine lv_iconst (v := (-1 : Int32)) hx hb dX5_liftBar_9 (by decide) ?_
  refine lv_icmp_eq (tgt := 16) hx hb dX5_liftBar_10 (by decide) (fun c10 => ?_) (fun c10 => ?_)
  · refine lv_aload_n hx hb dX5_liftBar_16 rfl (lv_at hl 0 rfl) ?_
    refine gB5_berths hx hb hta hown hK hP wd_2_1 dX5_liftBar_17 ?_
    refine z_callV (As := []) (rest := []) hx hb hml hown hta zm_X0_occupied wd_16_17 (c_X0_occupied l D y a cap clr t hom mov wm tb tf ts nw wf wt nb bw bl bi bb no od ow ol ork ob olf oco pn pb pm pcd pw pli (by omega)) hN hK hP hD hS hA 3 rfl rfl rfl hl rfl (Nat.le_of_ble_eq_true rfl) ⟨Nat.le_of_ble_eq_true rfl, Nat.le_of_ble_eq_true rfl⟩ ⟨Nat.le_of_ble_eq_true rfl, Nat.le_of_ble_eq_true rfl⟩ dX5_liftBar_20 (fun v w' H locs hq hP hD hS => ?_)
    obtain ⟨rfl, rfl⟩ := hq
    refine lv_istore_n (lv' := [(3, Value.int (nI (occN bb nb))), (0, Value.ref (a 0)), (1, Value.int (nI j)), (2, Value.int (nI k))]) hx hb dX5_liftBar_23 rfl hl (by decide) rfl (fun ls hl => ?_)
    refine lv_iload_n hx hb dX5_liftBar_24 rfl (lv_at hl 0 rfl) ?_
    refine lv_iload_n hx hb dX5_liftBar_25 rfl (lv_at hl 3 rfl) ?_
    refine z_callS (As := [Value.int (nI (occN bb nb)), Value.int (nI k)]) (rest := []) hx hb hml hown hta zm_X5_holds wd_16_21 (c_X5_holds l D y a cap clr t hom mov wm tb tf ts nw wf wt nb bw bl bi bb no od ow ol ork ob olf oco pn pb pm pcd pw pli (nI (occN bb nb)) (nI k)) hN hK hP hD hS hA rfl hl rfl (Nat.le_of_ble_eq_true rfl) ⟨Nat.le_of_ble_eq_true rfl, Nat.le_of_ble_eq_true rfl⟩ ⟨Nat.le_of_ble_eq_true rfl, Nat.le_of_ble_eq_true rfl⟩ dX5_liftBar_26 (fun v w' H locs hq hP hD hS => ?_)
    obtain ⟨rfl, rfl⟩ := hq
    refine lv_if_eq (tgt := 35) hx hb dX5_liftBar_29 (by decide) (fun c29 => ?_) (fun c29 => ?_)
    · have c29 := bI_0 c29
      refine lv_iload_n hx hb dX5_liftBar_35 rfl (lv_at hl 0 rfl) ?_
      refine lv_aload_n hx hb dX5_liftBar_36 rfl (lv_at hl 1 rfl) ?_
      refine gB5_berths hx hb hta hown hK hP wd_2_1 dX5_liftBar_37 ?_
      refine gB0_inFront hx hb hta hown hK hP wd_16_16 dX5_liftBar_40 ?_
      refine lv_iload_n hx hb dX5_liftBar_43 rfl (lv_at hl 3 rfl) ?_
      refine aB_bi hx hb hK hP k rfl (by omega) dX5_liftBar_44 ?_
      refine lv_iand hx hb dX5_liftBar_45 ?_
      refine lv_if_eq (tgt := 52) hx hb dX5_liftBar_46 (by decide) (fun c46 => ?_) (fun c46 => ?_)
      · refine lv_aload_n hx hb dX5_liftBar_52 rfl (lv_at hl 1 rfl) ?_
        refine lv_iload_n hx hb dX5_liftBar_53 rfl (lv_at hl 2 rfl) ?_
        refine lv_iload_n hx hb dX5_liftBar_54 rfl (lv_at hl 3 rfl) ?_
        refine z_callV (As := [Value.int (nI j), Value.int (nI k)]) (rest := []) hx hb hml hown hta zm_X5_loadBar wd_17_0 (c_X5_loadBar l D y a cap clr t hom mov wm tb tf ts nw wf wt nb bw bl bi bb no od ow ol ork ob olf oco pn pb pm pcd pw pli j k (by omega) (by omega)) hN hK hP hD hS hA 0 rfl rfl rfl hl rfl (Nat.le_of_ble_eq_true rfl) ⟨Nat.le_of_ble_eq_true rfl, Nat.le_of_ble_eq_true rfl⟩ ⟨Nat.le_of_ble_eq_true rfl, Nat.le_of_ble_eq_true rfl⟩ dX5_liftBar_55 (fun v w' H locs hq hP hD hS => ?_)
        obtain ⟨rfl, rfl⟩ := hq
        refine lv_istore (lv' := [(4, Value.int (ldF cap ow ol bw bl j k)), (3, Value.int (nI (occN bb nb))), (0, Value.ref (a 0)), (1, Value.int (nI j)), (2, Value.int (nI k))]) hx hb dX5_liftBar_58 hl (by decide) rfl (fun ls hl => ?_)
        refine lv_iload hx hb dX5_liftBar_60 (lv_at hl 0 rfl) ?_
        refine lv_bipush (v := (110 : Int32)) hx hb dX5_liftBar_62 (by decide) ?_
        refine lv_icmp_eq (tgt := 70) hx hb dX5_liftBar_64 (by decide) (fun c64 => ?_) (fun c64 => ?_)
        · refine lv_aload_n hx hb dX5_liftBar_70 rfl (lv_at hl 2 rfl) ?_
          refine lv_iload_n hx hb dX5_liftBar_71 rfl (lv_at hl 3 rfl) ?_
          refine lv_aload_n hx hb dX5_liftBar_72 rfl (lv_at hl 2 rfl) ?_
          refine gB5_now hx hb hta hown hK hP wd_2_12 dX5_liftBar_73 ?_
          refine z_callV (As := [Value.int (nI j), Value.int (nI t)]) (rest := []) hx hb hml hown hta zm_X5_enoughWater wd_13_21 (c_X5_enoughWater l D y a cap clr t hom mov wm tb tf ts nw wf wt nb bw bl bi bb no od ow ol ork ob olf oco pn pb pm pcd pw pli j (nI t) (by omega)) hN hK hP hD hS hA 0 rfl rfl rfl hl rfl (Nat.le_of_ble_eq_true rfl) ⟨Nat.le_of_ble_eq_true rfl, Nat.le_of_ble_eq_true rfl⟩ ⟨Nat.le_of_ble_eq_true rfl, Nat.le_of_ble_eq_true rfl⟩ dX5_liftBar_76 (fun v w' H locs hq hP hD hS => ?_)
          obtain ⟨rfl, rfl⟩ := hq
          refine lv_if_eq (tgt := 89) hx hb dX5_liftBar_79 (by decide) (fun c79 => ?_) (fun c79 => ?_)
          · have c79 := bI_0 c79
            refine lv_bipush (v := (116 : Int32)) hx hb dX5_liftBar_89 (by decide) ?_
            refine z_zret hG hx hb hr hlocks hP hD hS (Nat.le_of_ble_eq_true rfl) (Nat.le_of_ble_eq_true rfl) dX5_liftBar_91 ?_ ?_
            · rfl
            · refine zqi ?_
              simp only [liF, c10, c29, c46, c64, c79, reduceIte, Bool.false_eq_true, not_true_eq_false, not_false_eq_true]
          · have c79 := bI_1 c79
            refine lv_aload_n hx hb dX5_liftBar_82 rfl (lv_at hl 2 rfl) ?_
            refine z_callV (As := []) (rest := []) hx hb hml hown hta zm_X5_hourBar wd_17_8 (c_X5_hourBar l D y a cap clr t hom mov wm tb tf ts nw wf wt nb bw bl bi bb no od ow ol ork ob olf oco pn pb pm pcd pw pli (by omega)) hN hK hP hD hS hA 0 rfl rfl rfl hl rfl (Nat.le_of_ble_eq_true rfl) ⟨Nat.le_of_ble_eq_true rfl, Nat.le_of_ble_eq_true rfl⟩ ⟨Nat.le_of_ble_eq_true rfl, Nat.le_of_ble_eq_true rfl⟩ dX5_liftBar_83 (fun v w' H locs hq hP hD hS => ?_)
            obtain ⟨rfl, rfl⟩ := hq
            refine lv_goto (tgt := 91) hx hb dX5_liftBar_86 (by decide) ?_
            refine z_zret hG hx hb hr hlocks hP hD hS (Nat.le_of_ble_eq_true rfl) (Nat.le_of_ble_eq_true rfl) dX5_liftBar_91 ?_ ?_
            · exact hb_ch ..
            · refine zqi ?_
              simp only [liF, c10, c29, c46, c64, c79, reduceIte, Bool.false_eq_true, not_true_eq_false, not_false_eq_true]
        · refine lv_iload hx hb dX5_liftBar_67 (lv_at hl 0 rfl) ?_
          refine z_zret hG hx hb hr hlocks hP hD hS (Nat.le_of_ble_eq_true rfl) (Nat.le_of_ble_eq_true rfl) dX5_liftBar_69 ?_ ?_
          · exact ld_ch ..
          · refine zqi ?_
            simp only [liF, c10, c29, c46, c64, reduceIte, Bool.false_eq_true, not_true_eq_false, not_false_eq_true]
      · refine lv_bipush (v := (102 : Int32)) hx hb dX5_liftBar_49 (by decide) ?_
        refine z_zret hG hx hb hr hlocks hP hD hS (Nat.le_of_ble_eq_true rfl) (Nat.le_of_ble_eq_true rfl) dX5_liftBar_51 ?_ ?_
        · rfl
        · refine zqi ?_
          simp only [liF, c10, c29, c46, reduceIte, Bool.false_eq_true, not_true_eq_false, not_false_eq_true]
    · have c29 := bI_1 c29
      refine lv_bipush (v := (111 : Int32)) hx hb dX5_liftBar_32 (by decide) ?_
      refine z_zret hG hx hb hr hlocks hP hD hS (Nat.le_of_ble_eq_true rfl) (Nat.le_of_ble_eq_true rfl) dX5_liftBar_34 ?_ ?_
      · rfl
      · refine zqi ?_
        simp only [liF, c10, c29, reduceIte, Bool.false_eq_true, not_true_eq_false, not_false_eq_true]
  · refine lv_bipush (v := (97 : Int32)) hx hb dX5_liftBar_13 (by decide) ?_
    refine z_zret hG hx hb hr hlocks hP hD hS (Nat.le_of_ble_eq_true rfl) (Nat.le_of_ble_eq_true rfl) dX5_liftBar_15 ?_ ?_
    · rfl
    · refine zqi ?_
      simp only [liF, c10, reduceIte, Bool.false_eq_true, not_true_eq_false, not_false_eq_true]
set_option maxHeartbeats 800000 in
set_option maxRecDepth 100000 in
theorem c_X5_launchBar (l : Launch) (D : va_G) (y : Nat → ClassId) (a : Nat → Nat) (cap clr : Int32) (t : Nat) (hom mov : Int32) (wm : Int64) (tb tf ts : Int32) (nw : Nat) (wf wt : Nat → Int32) (nb : Nat) (bw bl bi bb : Nat → Int32) (no : Nat) (od ow ol ork ob olf oco : Nat → Int32) (pn pb pm : Int32) (pcd pw pli : Nat → Int32) (j : Nat) (f : Nat) (hj8 : j < 8) (hf6 : f < 6) (hb6 : nb ≤ 6) (hw : nw ≤ 6) : zP l D y yX5_launchBar cX5_launchBar 3 (some .char) 3 0 0 83 [Value.ref (a 0), Value.int (nI j), Value.int (nI f)] (wB a y cap clr (nI t) hom mov wm tb tf ts (nI nw) wf wt (nI nb) bw bl bi bb (nI no) od ow ol ork ob olf oco pn pb pm pcd pw pli) (fun o9 w9 => o9 = some (Value.int (laF cap clr tb tf ts hom (nI t) (badF wf wt nw (nI t)) olf bb od ow bi nb j f)) ∧ w9 = wB a y cap clr (nI t) hom mov wm tb tf ts (nI nw) wf wt (nI nb) bw bl bi bb (nI no) od ow ol ork ob olf oco pn pb pm pcd pw pli) := by
  refine zP.of (by decide +kernel) (Nat.le_of_ble_eq_true rfl) ?_
  intro p e s m args below meth c A ls hx hb hr hta hown hlocks hml hin hN hK hP hD hS hA hl
  refine z_gen (fun G hG => ?_)
  have hl : lv_has ls 3 [(0, Value.ref (a 0)), (1, Value.int (nI j)), (2, Value.int (nI f))] := hl
  refine lv_aload_n hx hb dX5_launchBar_0 rfl (lv_at hl 0 rfl) ?_
  refine gB5_boats hx hb hta hown hK hP wd_2_5 dX5_launchBar_1 ?_
  refine gB1_left hx hb hta hown hK hP wd_19_16 dX5_launchBar_4 ?_
  refine lv_iload_n hx hb dX5_launchBar_7 rfl (lv_at hl 1 rfl) ?_
  refine aB_olf hx hb hK hP j rfl (by omega) dX5_launchBar_8 ?_
  refine lv_if_le (tgt := 15) hx hb dX5_launchBar_9 (by decide) (fun c9 => ?_) (fun c9 => ?_)
  · refine lv_aload_n hx hb dX5_launchBar_15 rfl (lv_at hl 0 rfl) ?_
    refine gB5_berths hx hb hta hown hK hP wd_2_1 dX5_launchBar_16 ?_
    refine z_callV (As := []) (rest := []) hx hb hml hown hta zm_X0_occupied wd_16_17 (c_X0_occupied l D y a cap clr t hom mov wm tb tf ts nw wf wt nb bw bl bi bb no od ow ol ork ob olf oco pn pb pm pcd pw pli (by omega)) hN hK hP hD hS hA 3 rfl rfl rfl hl rfl (Nat.le_of_ble_eq_true rfl) ⟨Nat.le_of_ble_eq_true rfl, Nat.le_of_ble_eq_true rfl⟩ ⟨Nat.le_of_ble_eq_true rfl, Nat.le_of_ble_eq_true rfl⟩ dX5_launchBar_19 (fun v w' H locs hq hP hD hS => ?_)
    obtain ⟨rfl, rfl⟩ := hq
    refine lv_aload_n hx hb dX5_launchBar_22 rfl (lv_at hl 0 rfl) ?_
    refine gB5_berths hx hb hta hown hK hP wd_2_1 dX5_launchBar_23 ?_
    refine gB0_inFront hx hb hta hown hK hP wd_16_16 dX5_launchBar_26 ?_
    refine lv_iload_n hx hb dX5_launchBar_29 rfl (lv_at hl 2 rfl) ?_
    refine aB_bi hx hb hK hP f rfl (by omega) dX5_launchBar_30 ?_
    refine lv_iand hx hb dX5_launchBar_31 ?_
    refine lv_if_eq (tgt := 38) hx hb dX5_launchBar_32 (by decide) (fun c32 => ?_) (fun c32 => ?_)
    · refine lv_aload_n hx hb dX5_launchBar_38 rfl (lv_at hl 0 rfl) ?_
      refine gB5_boats hx hb hta hown hK hP wd_2_5 dX5_launchBar_39 ?_
      refine gB1_weight hx hb hta hown hK hP wd_17_4 dX5_launchBar_42 ?_
      refine lv_iload_n hx hb dX5_launchBar_45 rfl (lv_at hl 1 rfl) ?_
      refine aB_ow hx hb hK hP j rfl (by omega) dX5_launchBar_46 ?_
      refine lv_aload_n hx hb dX5_launchBar_47 rfl (lv_at hl 0 rfl) ?_
      refine gB5_capacity hx hb hta hown hK hP wd_2_10 dX5_launchBar_48 ?_
      refine lv_icmp_le (tgt := 57) hx hb dX5_launchBar_51 (by decide) (fun c51 => ?_) (fun c51 => ?_)
      · refine lv_aload_n hx hb dX5_launchBar_57 rfl (lv_at hl 0 rfl) ?_
        refine lv_iload_n hx hb dX5_launchBar_58 rfl (lv_at hl 1 rfl) ?_
        refine lv_aload_n hx hb dX5_launchBar_59 rfl (lv_at hl 0 rfl) ?_
        refine gB5_now hx hb hta hown hK hP wd_2_12 dX5_launchBar_60 ?_
        refine z_callV (As := [Value.int (nI j), Value.int (nI t)]) (rest := []) hx hb hml hown hta zm_X5_enoughWater wd_13_21 (c_X5_enoughWater l D y a cap clr t hom mov wm tb tf ts nw wf wt nb bw bl bi bb no od ow ol ork ob olf oco pn pb pm pcd pw pli j (nI t) (by omega)) hN hK hP hD hS hA 0 rfl rfl rfl hl rfl (Nat.le_of_ble_eq_true rfl) ⟨Nat.le_of_ble_eq_true rfl, Nat.le_of_ble_eq_true rfl⟩ ⟨Nat.le_of_ble_eq_true rfl, Nat.le_of_ble_eq_true rfl⟩ dX5_launchBar_63 (fun v w' H locs hq hP hD hS => ?_)
        obtain ⟨rfl, rfl⟩ := hq
        refine lv_if_eq (tgt := 76) hx hb dX5_launchBar_66 (by decide) (fun c66 => ?_) (fun c66 => ?_)
        · have c66 := bI_0 c66
          refine lv_bipush (v := (116 : Int32)) hx hb dX5_launchBar_76 (by decide) ?_
          refine z_zret hG hx hb hr hlocks hP hD hS (Nat.le_of_ble_eq_true rfl) (Nat.le_of_ble_eq_true rfl) dX5_launchBar_78 ?_ ?_
          · rfl
          · refine zqi ?_
            simp only [laF, c9, c32, c51, c66, reduceIte, Bool.false_eq_true, not_true_eq_false, not_false_eq_true]
        · have c66 := bI_1 c66
          refine lv_aload_n hx hb dX5_launchBar_69 rfl (lv_at hl 0 rfl) ?_
          refine z_callV (As := []) (rest := []) hx hb hml hown hta zm_X5_hourBar wd_17_8 (c_X5_hourBar l D y a cap clr t hom mov wm tb tf ts nw wf wt nb bw bl bi bb no od ow ol ork ob olf oco pn pb pm pcd pw pli (by omega)) hN hK hP hD hS hA 0 rfl rfl rfl hl rfl (Nat.le_of_ble_eq_true rfl) ⟨Nat.le_of_ble_eq_true rfl, Nat.le_of_ble_eq_true rfl⟩ ⟨Nat.le_of_ble_eq_true rfl, Nat.le_of_ble_eq_true rfl⟩ dX5_launchBar_70 (fun v w' H locs hq hP hD hS => ?_)
          obtain ⟨rfl, rfl⟩ := hq
          refine lv_goto (tgt := 78) hx hb dX5_launchBar_73 (by decide) ?_
          refine z_zret hG hx hb hr hlocks hP hD hS (Nat.le_of_ble_eq_true rfl) (Nat.le_of_ble_eq_true rfl) dX5_launchBar_78 ?_ ?_
          · exact hb_ch ..
          · refine zqi ?_
            simp only [laF, c9, c32, c51, c66, reduceIte, Bool.false_eq_true, not_true_eq_false, not_false_eq_true]
      · refine lv_bipush (v := (119 : Int32)) hx hb dX5_launchBar_54 (by decide) ?_
        refine z_zret hG hx hb hr hlocks hP hD hS (Nat.le_of_ble_eq_true rfl) (Nat.le_of_ble_eq_true rfl) dX5_launchBar_56 ?_ ?_
        · rfl
        · refine zqi ?_
          simp only [laF, c9, c32, c51, reduceIte, Bool.false_eq_true, not_true_eq_false, not_false_eq_true]
    · refine lv_bipush (v := (102 : Int32)) hx hb dX5_launchBar_35 (by decide) ?_
      refine z_zret hG hx hb hr hlocks hP hD hS (Nat.le_of_ble_eq_true rfl) (Nat.le_of_ble_eq_true rfl) dX5_launchBar_37 ?_ ?_
      · rfl
      · refine zqi ?_
        simp only [laF, c9, c32, reduceIte, Bool.false_eq_true, not_true_eq_false, not_false_eq_true]
  · refine lv_bipush (v := (100 : Int32)) hx hb dX5_launchBar_12 (by decide) ?_
    refine z_zret hG hx hb hr hlocks hP hD hS (Nat.le_of_ble_eq_true rfl) (Nat.le_of_ble_eq_true rfl) dX5_launchBar_14 ?_ ?_
    · rfl
    · refine zqi ?_
      simp only [laF, c9, reduceIte, Bool.false_eq_true, not_true_eq_false, not_false_eq_true]
set_option maxHeartbeats 800000 in
set_option maxRecDepth 100000 in
theorem c_X5_shiftBar (l : Launch) (D : va_G) (y : Nat → ClassId) (a : Nat → Nat) (cap clr : Int32) (t : Nat) (hom mov : Int32) (wm : Int64) (tb tf ts : Int32) (nw : Nat) (wf wt : Nat → Int32) (nb : Nat) (bw bl bi bb : Nat → Int32) (no : Nat) (od ow ol ork ob olf oco : Nat → Int32) (pn pb pm : Int32) (pcd pw pli : Nat → Int32) (j : Nat) (f : Nat) (k : Nat) (hj8 : j < 8) (hf6 : f < 6) (hk6 : k < 6) (hb6 : nb ≤ 6) (hw : nw ≤ 6) : zP l D y yX5_shiftBar cX5_shiftBar 5 (some .char) 2 0 0 47 [Value.ref (a 0), Value.int (nI j), Value.int (nI f), Value.int (nI k)] (wB a y cap clr (nI t) hom mov wm tb tf ts (nI nw) wf wt (nI nb) bw bl bi bb (nI no) od ow ol ork ob olf oco pn pb pm pcd pw pli) (fun o9 w9 => o9 = some (Value.int (sbF cap hom (nI t) (badF wf wt nw (nI t)) olf ow ol bw bl bi bb nb j f k)) ∧ w9 = wB a y cap clr (nI t) hom mov wm tb tf ts (nI nw) wf wt (nI nb) bw bl bi bb (nI no) od ow ol ork ob olf oco pn pb pm pcd pw pli) := by
  refine zP.of (by decide +kernel) (Nat.le_of_ble_eq_true rfl) ?_
  intro p e s m args below meth c A ls hx hb hr hta hown hlocks hml hin hN hK hP hD hS hA hl
  refine z_gen (fun G hG => ?_)
  have hl : lv_has ls 5 [(0, Value.ref (a 0)), (1, Value.int (nI j)), (2, Value.int (nI f)), (3, Value.int (nI k))] := hl
  refine lv_aload_n hx hb dX5_shiftBar_0 rfl (lv_at hl 0 rfl) ?_
  refine lv_iload_n hx hb dX5_shiftBar_1 rfl (lv_at hl 1 rfl) ?_
  refine lv_iload_n hx hb dX5_shiftBar_2 rfl (lv_at hl 2 rfl) ?_
  refine lv_iload_n hx hb dX5_shiftBar_3 rfl (lv_at hl 3 rfl) ?_
  refine lv_aload_n hx hb dX5_shiftBar_4 rfl (lv_at hl 0 rfl) ?_
  refine gB5_berths hx hb hta hown hK hP wd_2_1 dX5_shiftBar_5 ?_
  refine z_callV (As := []) (rest := [Value.int (nI k), Value.int (nI f), Value.int (nI j), Value.ref (a 0)]) hx hb hml hown hta zm_X0_occupied wd_16_17 (c_X0_occupied l D y a cap clr t hom mov wm tb tf ts nw wf wt nb bw bl bi bb no od ow ol ork ob olf oco pn pb pm pcd pw pli (by omega)) hN hK hP hD hS hA 3 rfl rfl rfl hl rfl (Nat.le_of_ble_eq_true rfl) ⟨Nat.le_of_ble_eq_true rfl, Nat.le_of_ble_eq_true rfl⟩ ⟨Nat.le_of_ble_eq_true rfl, Nat.le_of_ble_eq_true rfl⟩ dX5_shiftBar_8 (fun v w' H locs hq hP hD hS => ?_)
  obtain ⟨rfl, rfl⟩ := hq
  refine z_callV (As := [Value.int (nI j), Value.int (nI f), Value.int (nI k), Value.int (nI (occN bb nb))]) (rest := []) hx hb hml hown hta zm_X5_placeBar wd_20_23 (c_X5_placeBar l D y a cap clr t hom mov wm tb tf ts nw wf wt nb bw bl bi bb no od ow ol ork ob olf oco pn pb pm pcd pw pli j f k (nI (occN bb nb)) (by omega) (by omega) (by omega)) hN hK hP hD hS hA 0 rfl rfl rfl hl rfl (Nat.le_of_ble_eq_true rfl) ⟨Nat.le_of_ble_eq_true rfl, Nat.le_of_ble_eq_true rfl⟩ ⟨Nat.le_of_ble_eq_true rfl, Nat.le_of_ble_eq_true rfl⟩ dX5_shiftBar_11 (fun v w' H locs hq hP hD hS => ?_)
  obtain ⟨rfl, rfl⟩ := hq
  refine lv_istore (lv' := [(4, Value.int (plF cap olf ow ol bw bl bi j f k (nI (occN bb nb)))), (0, Value.ref (a 0)), (1, Value.int (nI j)), (2, Value.int (nI f)), (3, Value.int (nI k))]) hx hb dX5_shiftBar_14 hl (by decide) rfl (fun ls hl => ?_)
  refine lv_iload hx hb dX5_shiftBar_16 (lv_at hl 0 rfl) ?_
  refine lv_bipush (v := (110 : Int32)) hx hb dX5_shiftBar_18 (by decide) ?_
  refine lv_icmp_ne (tgt := 30) hx hb dX5_shiftBar_20 (by decide) (fun c20 => ?_) (fun c20 => ?_)
  · refine lv_iload hx hb dX5_shiftBar_30 (lv_at hl 0 rfl) ?_
    refine z_zret hG hx hb hr hlocks hP hD hS (Nat.le_of_ble_eq_true rfl) (Nat.le_of_ble_eq_true rfl) dX5_shiftBar_32 ?_ ?_
    · exact pl_ch ..
    · refine zqi ?_
      simp only [sbF, c20, reduceIte, Bool.false_eq_true, not_true_eq_false, not_false_eq_true]
  · refine lv_aload_n hx hb dX5_shiftBar_23 rfl (lv_at hl 1 rfl) ?_
    refine z_callV (As := []) (rest := []) hx hb hml hown hta zm_X5_hourBar wd_17_8 (c_X5_hourBar l D y a cap clr t hom mov wm tb tf ts nw wf wt nb bw bl bi bb no od ow ol ork ob olf oco pn pb pm pcd pw pli (by omega)) hN hK hP hD hS hA 0 rfl rfl rfl hl rfl (Nat.le_of_ble_eq_true rfl) ⟨Nat.le_of_ble_eq_true rfl, Nat.le_of_ble_eq_true rfl⟩ ⟨Nat.le_of_ble_eq_true rfl, Nat.le_of_ble_eq_true rfl⟩ dX5_shiftBar_24 (fun v w' H locs hq hP hD hS => ?_)
    obtain ⟨rfl, rfl⟩ := hq
    refine lv_goto (tgt := 32) hx hb dX5_shiftBar_27 (by decide) ?_
    refine z_zret hG hx hb hr hlocks hP hD hS (Nat.le_of_ble_eq_true rfl) (Nat.le_of_ble_eq_true rfl) dX5_shiftBar_32 ?_ ?_
    · exact hb_ch ..
    · refine zqi ?_
      simp only [sbF, c20, reduceIte, Bool.false_eq_true, not_true_eq_false, not_false_eq_true]
set_option maxHeartbeats 800000 in
set_option maxRecDepth 100000 in
theorem c_X5_countMove (l : Launch) (D : va_G) (y : Nat → ClassId) (a : Nat → Nat) (cap clr : Int32) (t : Nat) (hom mov : Int32) (wm : Int64) (tb tf ts : Int32) (nw : Nat) (wf wt : Nat → Int32) (nb : Nat) (bw bl bi bb : Nat → Int32) (no : Nat) (od ow ol ork ob olf oco : Nat → Int32) (pn pb pm : Int32) (pcd pw pli : Nat → Int32) (j : Nat) (hj8 : j < 8) : zP l D y yX5_countMove cX5_countMove 2 (some .int) 0 0 0 0 [Value.ref (a 0), Value.int (nI j)] (wB a y cap clr (nI t) hom mov wm tb tf ts (nI nw) wf wt (nI nb) bw bl bi bb (nI no) od ow ol ork ob olf oco pn pb pm pcd pw pli) (fun o9 w9 => o9 = some (Value.int (mov + (1 : Int32))) ∧ w9 = wB a y cap clr (nI t) (nI t) (mov + (1 : Int32)) (wm + Int32.toInt64 (ow j)) tb tf ts (nI nw) wf wt (nI nb) bw bl bi bb (nI no) od ow ol ork ob olf oco pn pb pm pcd pw pli) := by
  refine zP.of (by decide +kernel) (Nat.le_of_ble_eq_true rfl) ?_
  intro p e s m args below meth c A ls hx hb hr hta hown hlocks hml hin hN hK hP hD hS hA hl
  refine z_gen (fun G hG => ?_)
  have hl : lv_has ls 2 [(0, Value.ref (a 0)), (1, Value.int (nI j))] := hl
  refine lv_aload_n hx hb dX5_countMove_0 rfl (lv_at hl 0 rfl) ?_
  refine lv_dup hx hb dX5_countMove_1 rfl ?_
  refine gB5_moves hx hb hta hown hK hP wd_2_14 dX5_countMove_2 ?_
  refine lv_iconst (v := (1 : Int32)) hx hb dX5_countMove_5 (by decide) ?_
  refine lv_iadd hx hb dX5_countMove_6 ?_
  refine pB5_moves hx hb hta hown hK hP hD hS wd_2_14 dX5_countMove_7 (fun H locs hP hD hS => ?_)
  refine lv_aload_n hx hb dX5_countMove_10 rfl (lv_at hl 0 rfl) ?_
  refine lv_aload_n hx hb dX5_countMove_11 rfl (lv_at hl 0 rfl) ?_
  refine gB5_now hx hb hta hown hK hP wd_2_12 dX5_countMove_12 ?_
  refine pB5_hourOfMove hx hb hta hown hK hP hD hS wd_2_13 dX5_countMove_15 (fun H locs hP hD hS => ?_)
  refine lv_aload_n hx hb dX5_countMove_18 rfl (lv_at hl 0 rfl) ?_
  refine lv_dup hx hb dX5_countMove_19 rfl ?_
  refine gB5_weightMoved hx hb hta hown hK hP wd_2_15 dX5_countMove_20 ?_
  refine lv_aload_n hx hb dX5_countMove_23 rfl (lv_at hl 0 rfl) ?_
  refine gB5_boats hx hb hta hown hK hP wd_2_5 dX5_countMove_24 ?_
  refine gB1_weight hx hb hta hown hK hP wd_17_4 dX5_countMove_27 ?_
  refine lv_iload_n hx hb dX5_countMove_30 rfl (lv_at hl 1 rfl) ?_
  refine aB_ow hx hb hK hP j rfl (by omega) dX5_countMove_31 ?_
  refine lv_i2l (v := Int32.toInt64 (ow j)) hx hb dX5_countMove_32 rfl ?_
  refine lv_ladd hx hb dX5_countMove_33 ?_
  refine pB5_weightMoved hx hb hta hown hK hP hD hS wd_2_15 dX5_countMove_34 (fun H locs hP hD hS => ?_)
  refine lv_aload_n hx hb dX5_countMove_37 rfl (lv_at hl 0 rfl) ?_
  refine gB5_moves hx hb hta hown hK hP wd_2_14 dX5_countMove_38 ?_
  refine z_iret hG hx hb hr hlocks hP hD hS (Nat.le_of_ble_eq_true rfl) (Nat.le_of_ble_eq_true rfl) dX5_countMove_41 ?_
  refine zqi ?_
  rfl
set_option maxHeartbeats 800000 in
set_option maxRecDepth 100000 in
theorem c_X5_hasClearWay (l : Launch) (D : va_G) (y : Nat → ClassId) (a : Nat → Nat) (cap clr : Int32) (t : Nat) (hom mov : Int32) (wm : Int64) (tb tf ts : Int32) (nw : Nat) (wf wt : Nat → Int32) (nb : Nat) (bw bl bi bb : Nat → Int32) (no : Nat) (od ow ol ork ob olf oco : Nat → Int32) (pn pb pm : Int32) (pcd pw pli : Nat → Int32) (j : Nat) (hj8 : j < 8) (hb6 : nb ≤ 6) : zP l D y yX5_hasClearWay cX5_hasClearWay 3 (some .boolean) 1 0 0 22 [Value.ref (a 0), Value.int (nI j)] (wB a y cap clr (nI t) hom mov wm tb tf ts (nI nw) wf wt (nI nb) bw bl bi bb (nI no) od ow ol ork ob olf oco pn pb pm pcd pw pli) (fun o9 w9 => o9 = some (Value.int (bI (cwF ob bb bi nb j))) ∧ w9 = wB a y cap clr (nI t) hom mov wm tb tf ts (nI nw) wf wt (nI nb) bw bl bi bb (nI no) od ow ol ork ob olf oco pn pb pm pcd pw pli) := by
  refine zP.of (by decide +kernel) (Nat.le_of_ble_eq_true rfl) ?_
  intro p e s m args below meth c A ls hx hb hr hta hown hlocks hml hin hN hK hP hD hS hA hl
  refine z_gen (fun G hG => ?_)
  have hl : lv_has ls 3 [(0, Value.ref (a 0)), (1, Value.int (nI j))] := hl
  refine lv_aload_n hx hb dX5_hasClearWay_0 rfl (lv_at hl 0 rfl) ?_
  refine gB5_boats hx hb hta hown hK hP wd_2_5 dX5_hasClearWay_1 ?_
  refine gB1_berth hx hb hta hown hK hP wd_16_2 dX5_hasClearWay_4 ?_
  refine lv_iload_n hx hb dX5_hasClearWay_7 rfl (lv_at hl 1 rfl) ?_
  refine aB_ob hx hb hK hP j rfl (by omega) dX5_hasClearWay_8 ?_
  refine lv_istore_n (lv' := [(2, Value.int (ob j)), (0, Value.ref (a 0)), (1, Value.int (nI j))]) hx hb dX5_hasClearWay_9 rfl hl (by decide) rfl (fun ls hl => ?_)
  refine lv_aload_n hx hb dX5_hasClearWay_10 rfl (lv_at hl 1 rfl) ?_
  refine gB5_berths hx hb hta hown hK hP wd_2_1 dX5_hasClearWay_11 ?_
  refine lv_iload_n hx hb dX5_hasClearWay_14 rfl (lv_at hl 0 rfl) ?_
  refine z_callV (As := [Value.int (ob j)]) (rest := []) hx hb hml hown hta zm_X0_has wd_6_8 (c_X0_has l D y a cap clr t hom mov wm tb tf ts nw wf wt nb bw bl bi bb no od ow ol ork ob olf oco pn pb pm pcd pw pli (ob j) (by omega)) hN hK hP hD hS hA 3 rfl rfl rfl hl rfl (Nat.le_of_ble_eq_true rfl) ⟨Nat.le_of_ble_eq_true rfl, Nat.le_of_ble_eq_true rfl⟩ ⟨Nat.le_of_ble_eq_true rfl, Nat.le_of_ble_eq_true rfl⟩ dX5_hasClearWay_15 (fun v w' H locs hq hP hD hS => ?_)
  obtain ⟨rfl, rfl⟩ := hq
  refine lv_if_eq (tgt := 45) hx hb dX5_hasClearWay_18 (by decide) (fun c18 => ?_) (fun c18 => ?_)
  · have c18 := bI_0 c18
    refine lv_iconst (v := (0 : Int32)) hx hb dX5_hasClearWay_45 (by decide) ?_
    refine z_zret hG hx hb hr hlocks hP hD hS (Nat.le_of_ble_eq_true rfl) (Nat.le_of_ble_eq_true rfl) dX5_hasClearWay_46 ?_ ?_
    · rfl
    · refine zqi ?_
      first
      | exact bI_f (by rw [cwF, c18]; rfl)
      | exact bI_t (by rw [cwF, c18, ef, nI_clamp (by omega), decide_eq_true c38]; rfl)
      | exact bI_f (by rw [cwF, c18, ef, nI_clamp (by omega), decide_eq_false c38]; rfl)
  · have c18 := bI_1 c18
    obtain ⟨f, hf, ef⟩ := (inB_iff (by omega)).mp c18
    refine lv_aload_n hx hb dX5_hasClearWay_21 rfl (lv_at hl 1 rfl) ?_
    refine gB5_berths hx hb hta hown hK hP wd_2_1 dX5_hasClearWay_22 ?_
    refine z_callV (As := []) (rest := []) hx hb hml hown hta zm_X0_occupied wd_16_17 (c_X0_occupied l D y a cap clr t hom mov wm tb tf ts nw wf wt nb bw bl bi bb no od ow ol ork ob olf oco pn pb pm pcd pw pli (by omega)) hN hK hP hD hS hA 3 rfl rfl rfl hl rfl (Nat.le_of_ble_eq_true rfl) ⟨Nat.le_of_ble_eq_true rfl, Nat.le_of_ble_eq_true rfl⟩ ⟨Nat.le_of_ble_eq_true rfl, Nat.le_of_ble_eq_true rfl⟩ dX5_hasClearWay_25 (fun v w' H locs hq hP hD hS => ?_)
    obtain ⟨rfl, rfl⟩ := hq
    refine lv_aload_n hx hb dX5_hasClearWay_28 rfl (lv_at hl 1 rfl) ?_
    refine gB5_berths hx hb hta hown hK hP wd_2_1 dX5_hasClearWay_29 ?_
    refine gB0_inFront hx hb hta hown hK hP wd_16_16 dX5_hasClearWay_32 ?_
    refine lv_iload_n hx hb dX5_hasClearWay_35 rfl (lv_at hl 0 rfl) ?_
    refine aB_bi hx hb hK hP f ef (by omega) dX5_hasClearWay_36 ?_
    refine lv_iand hx hb dX5_hasClearWay_37 ?_
    refine lv_if_ne (tgt := 45) hx hb dX5_hasClearWay_38 (by decide) (fun c38 => ?_) (fun c38 => ?_)
    · refine lv_iconst (v := (0 : Int32)) hx hb dX5_hasClearWay_45 (by decide) ?_
      refine z_zret hG hx hb hr hlocks hP hD hS (Nat.le_of_ble_eq_true rfl) (Nat.le_of_ble_eq_true rfl) dX5_hasClearWay_46 ?_ ?_
      · rfl
      · refine zqi ?_
        first
        | exact bI_f (by rw [cwF, c18]; rfl)
        | exact bI_t (by rw [cwF, c18, ef, nI_clamp (by omega), decide_eq_true c38]; rfl)
        | exact bI_f (by rw [cwF, c18, ef, nI_clamp (by omega), decide_eq_false c38]; rfl)
    · refine lv_iconst (v := (1 : Int32)) hx hb dX5_hasClearWay_41 (by decide) ?_
      refine lv_goto (tgt := 46) hx hb dX5_hasClearWay_42 (by decide) ?_
      refine z_zret hG hx hb hr hlocks hP hD hS (Nat.le_of_ble_eq_true rfl) (Nat.le_of_ble_eq_true rfl) dX5_hasClearWay_46 ?_ ?_
      · rfl
      · refine zqi ?_
        first
        | exact bI_f (by rw [cwF, c18]; rfl)
        | exact bI_t (by rw [cwF, c18, ef, nI_clamp (by omega), decide_eq_true c38]; rfl)
        | exact bI_f (by rw [cwF, c18, ef, nI_clamp (by omega), decide_eq_false c38]; rfl)
