set_option maxHeartbeats 800000 in
set_option maxRecDepth 100000 in
theorem c_X4_dryBySpans (l : Launch) (D : va_G) (y : Nat → ClassId) (a : Nat → Nat) (cap clr : Int32) (t : Nat) (hom mov : Int32) (wm : Int64) (tb tf ts : Int32) (nw : Nat) (wf wt : Nat → Int32) (nb : Nat) (bw bl bi bb : Nat → Int32) (no : Nat) (od ow ol ork ob olf oco : Nat → Int32) (pn pb pm : Int32) (pcd pw pli : Nat → Int32) (h : Int32)  : zP l D y yX4_dryBySpans cX4_dryBySpans 7 (some .int) 1 0 0 40 [Value.ref (a 2), Value.int h, Value.int (0 : Int32)] (wB a y cap clr (nI t) hom mov wm tb tf ts (nI nw) wf wt (nI nb) bw bl bi bb (nI no) od ow ol ork ob olf oco pn pb pm pcd pw pli) (fun o9 w9 => o9 = some (Value.int h) ∧ w9 = wB a y cap clr (nI t) hom mov wm tb tf ts (nI nw) wf wt (nI nb) bw bl bi bb (nI no) od ow ol ork ob olf oco pn pb pm pcd pw pli) := by
  refine zP.of (by decide +kernel) (Nat.le_of_ble_eq_true rfl) ?_
  intro p e s m args below meth c A ls hx hb hr hta hown hlocks hml hin hN hK hP hD hS hA hl
  refine z_gen (fun G hG => ?_)
  have hl : lv_has ls 7 [(0, Value.ref (a 2)), (1, Value.int h), (2, Value.int (0 : Int32))] := hl
  refine lv_iload_n hx hb dX4_dryBySpans_0 rfl (lv_at hl 1 rfl) ?_
  refine lv_istore_n (lv' := [(3, Value.int h), (0, Value.ref (a 2)), (1, Value.int h), (2, Value.int (0 : Int32))]) hx hb dX4_dryBySpans_1 rfl hl (by decide) rfl (fun ls hl => ?_)
  refine lv_iload_n hx hb dX4_dryBySpans_2 rfl (lv_at hl 3 rfl) ?_
  refine lv_istore (lv' := [(4, Value.int (0 : Int32)), (3, Value.int h), (0, Value.ref (a 2)), (1, Value.int h), (2, Value.int (0 : Int32))]) hx hb dX4_dryBySpans_3 hl (by decide) rfl (fun ls hl => ?_)
  refine lv_iconst (v := (0 : Int32)) hx hb dX4_dryBySpans_5 (by decide) ?_
  refine lv_istore (lv' := [(5, Value.int (0 : Int32)), (4, Value.int (0 : Int32)), (3, Value.int h), (0, Value.ref (a 2)), (1, Value.int h), (2, Value.int (0 : Int32))]) hx hb dX4_dryBySpans_6 hl (by decide) rfl (fun ls hl => ?_)
  refine lv_iload hx hb dX4_dryBySpans_8 (lv_at hl 0 rfl) ?_
  refine lv_bipush (v := (6 : Int32)) hx hb dX4_dryBySpans_10 (by decide) ?_
  refine lv_icmp_gt (tgt := 58) hx hb dX4_dryBySpans_12 (by decide) (fun c12 => ?_) (fun c12 => ?_)
  · exact absurd c12 (by decide)
  · refine lv_iload hx hb dX4_dryBySpans_15 (lv_at hl 1 rfl) ?_
    refine lv_if_le (tgt := 58) hx hb dX4_dryBySpans_17 (by decide) (fun c17 => ?_) (fun c17 => ?_)
    · refine lv_iload_n hx hb dX4_dryBySpans_58 rfl (lv_at hl 2 rfl) ?_
      refine z_iret hG hx hb hr hlocks hP hD hS (Nat.le_of_ble_eq_true rfl) (Nat.le_of_ble_eq_true rfl) dX4_dryBySpans_59 ?_
      refine zqi ?_
      rfl
    · exact absurd c17 (by decide)
set_option maxHeartbeats 800000 in
set_option maxRecDepth 100000 in
theorem c_X4_dryHourByHour (l : Launch) (D : va_G) (y : Nat → ClassId) (a : Nat → Nat) (cap clr : Int32) (t : Nat) (hom mov : Int32) (wm : Int64) (tb tf ts : Int32) (nw : Nat) (wf wt : Nat → Int32) (nb : Nat) (bw bl bi bb : Nat → Int32) (no : Nat) (od ow ol ork ob olf oco : Nat → Int32) (pn pb pm : Int32) (pcd pw pli : Nat → Int32) (h : Int32)  : zP l D y yX4_dryHourByHour cX4_dryHourByHour 6 (some .int) 1 0 0 22 [Value.ref (a 2), Value.int h, Value.int (0 : Int32)] (wB a y cap clr (nI t) hom mov wm tb tf ts (nI nw) wf wt (nI nb) bw bl bi bb (nI no) od ow ol ork ob olf oco pn pb pm pcd pw pli) (fun o9 w9 => o9 = some (Value.int h) ∧ w9 = wB a y cap clr (nI t) hom mov wm tb tf ts (nI nw) wf wt (nI nb) bw bl bi bb (nI no) od ow ol ork ob olf oco pn pb pm pcd pw pli) := by
  refine zP.of (by decide +kernel) (Nat.le_of_ble_eq_true rfl) ?_
  intro p e s m args below meth c A ls hx hb hr hta hown hlocks hml hin hN hK hP hD hS hA hl
  refine z_gen (fun G hG => ?_)
  have hl : lv_has ls 6 [(0, Value.ref (a 2)), (1, Value.int h), (2, Value.int (0 : Int32))] := hl
  refine lv_iload_n hx hb dX4_dryHourByHour_0 rfl (lv_at hl 1 rfl) ?_
  refine lv_istore_n (lv' := [(3, Value.int h), (0, Value.ref (a 2)), (1, Value.int h), (2, Value.int (0 : Int32))]) hx hb dX4_dryHourByHour_1 rfl hl (by decide) rfl (fun ls hl => ?_)
  refine lv_iload_n hx hb dX4_dryHourByHour_2 rfl (lv_at hl 3 rfl) ?_
  refine lv_istore (lv' := [(4, Value.int (0 : Int32)), (3, Value.int h), (0, Value.ref (a 2)), (1, Value.int h), (2, Value.int (0 : Int32))]) hx hb dX4_dryHourByHour_3 hl (by decide) rfl (fun ls hl => ?_)
  refine lv_sipush (v := (10000 : Int32)) hx hb dX4_dryHourByHour_5 (by decide) ?_
  refine lv_iload_n hx hb dX4_dryHourByHour_8 rfl (lv_at hl 4 rfl) ?_
  refine lv_iadd hx hb dX4_dryHourByHour_9 ?_
  refine lv_istore (lv' := [(5, Value.int ((10000 : Int32) + (0 : Int32))), (4, Value.int (0 : Int32)), (3, Value.int h), (0, Value.ref (a 2)), (1, Value.int h), (2, Value.int (0 : Int32))]) hx hb dX4_dryHourByHour_10 hl (by decide) rfl (fun ls hl => ?_)
  refine lv_iload hx hb dX4_dryHourByHour_12 (lv_at hl 1 rfl) ?_
  refine lv_if_le (tgt := 40) hx hb dX4_dryHourByHour_14 (by decide) (fun c14 => ?_) (fun c14 => ?_)
  · refine lv_iload_n hx hb dX4_dryHourByHour_40 rfl (lv_at hl 2 rfl) ?_
    refine z_iret hG hx hb hr hlocks hP hD hS (Nat.le_of_ble_eq_true rfl) (Nat.le_of_ble_eq_true rfl) dX4_dryHourByHour_41 ?_
    refine zqi ?_
    rfl
  · exact absurd c14 (by decide)
set_option maxHeartbeats 800000 in
set_option maxRecDepth 100000 in
theorem c_X5_dryAt (l : Launch) (hlt : l.stackTraces = false) (D : va_G) (y : Nat → ClassId) (a : Nat → Nat) (cap clr : Int32) (t : Nat) (hom mov : Int32) (wm : Int64) (tb tf ts : Int32) (nw : Nat) (wf wt : Nat → Int32) (nb : Nat) (bw bl bi bb : Nat → Int32) (no : Nat) (od ow ol ork ob olf oco : Nat → Int32) (pn pb pm : Int32) (pcd pw pli : Nat → Int32) (b : Int32) (hb8 : no ≤ 8) (hd : olf (nN b) = 0) : zX l D y yX5_dryAt cX5_dryAt 2 (some .int) 8 1 6 116 [Value.ref (a 0), Value.int b] (wB a y cap clr (nI t) hom mov wm tb tf ts (nI nw) wf wt (nI nb) bw bl bi bb (nI no) od ow ol ork ob olf oco pn pb pm pcd pw pli) (fun o9 w9 => (boC no b = 0) ∧ o9 = some (Value.int (nI t)) ∧ w9 = wB a y cap clr (nI t) hom mov wm tb tf ts (nI nw) wf wt (nI nb) bw bl bi bb (nI no) od ow ol ork ob olf oco pn pb pm pcd pw pli) (fun E => (E = "java/lang/IndexOutOfBoundsException" ∧ (boC no b = 1))) := by
  refine zX.of (by decide +kernel) (Nat.le_of_ble_eq_true rfl) ?_
  intro p e s m args below meth c A ls hx hb hr hta hown hlocks hml hex hN hK hP hD hS hA hl
  refine z_gen (fun G hG => ?_)
  have hl : lv_has ls 2 [(0, Value.ref (a 0)), (1, Value.int b)] := hl
  refine lv_aload_n hx hb dX5_dryAt_0 rfl (lv_at hl 0 rfl) ?_
  refine lv_iload_n hx hb dX5_dryAt_1 rfl (lv_at hl 1 rfl) ?_
  refine z_xcallV (As := [Value.int b]) (rest := []) hx hb hml hown hta zm_X5_checkBoat wd_8_10 (c_X5_checkBoat l hlt D y a cap clr t hom mov wm tb tf ts nw wf wt nb bw bl bi bb no od ow ol ork ob olf oco pn pb pm pcd pw pli b (by omega)) hN hK hP hD hS hA 0 rfl rfl rfl hl rfl (Nat.le_of_ble_eq_true rfl) ⟨Nat.le_of_ble_eq_true rfl, Nat.le_of_ble_eq_true rfl⟩ ⟨Nat.le_of_ble_eq_true rfl, Nat.le_of_ble_eq_true rfl⟩ dX5_dryAt_2 (fun E ce q9 H locs hE hP hS hc9 hv9 hcl9 => ?_) (fun v w' H locs hq hP hD hS => ?_)
  · refine z_out hG hex hlocks ?_ hP hS hc9 hv9 hcl9 (Nat.le_of_ble_eq_true rfl) (Nat.le_of_ble_eq_true rfl)
    obtain ⟨rfl, hE⟩ := hE
    exact ⟨rfl, by simp [boC, hE]⟩
  obtain ⟨hq1, rfl, rfl⟩ := hq
  obtain ⟨j, hj, rfl⟩ := (inB_iff (by omega)).mp hq1
  have ej : nN (nI j) = j := nI_clamp (by omega)
  refine lv_aload_n hx hb dX5_dryAt_5 rfl (lv_at hl 0 rfl) ?_
  refine gB5_weather hx hb hta hown hK hP wd_1_16 dX5_dryAt_6 ?_
  refine lv_aload_n hx hb dX5_dryAt_9 rfl (lv_at hl 0 rfl) ?_
  refine gB5_now hx hb hta hown hK hP wd_2_7 dX5_dryAt_10 ?_
  refine lv_aload_n hx hb dX5_dryAt_13 rfl (lv_at hl 0 rfl) ?_
  refine gB5_boats hx hb hta hown hK hP wd_2_0 dX5_dryAt_14 ?_
  refine gB1_left hx hb hta hown hK hP wd_12_3 dX5_dryAt_17 ?_
  refine lv_iload_n hx hb dX5_dryAt_20 rfl (lv_at hl 1 rfl) ?_
  refine aB_olf hx hb hK hP j rfl (by omega) dX5_dryAt_21 ?_
  refine zr_top (y := (0 : Int32)) (by rw [← ej]; exact hd) ?_
  refine z_callV (As := [Value.int (nI t), Value.int (0 : Int32)]) (rest := []) hx hb hml hown hta zm_X4_dryBySpans wd_21_23 (c_X4_dryBySpans l D y a cap clr t hom mov wm tb tf ts nw wf wt nb bw bl bi bb no od ow ol ork ob olf oco pn pb pm pcd pw pli (nI t)) hN hK hP hD hS hA 2 rfl rfl rfl hl rfl (Nat.le_of_ble_eq_true rfl) ⟨Nat.le_of_ble_eq_true rfl, Nat.le_of_ble_eq_true rfl⟩ ⟨Nat.le_of_ble_eq_true rfl, Nat.le_of_ble_eq_true rfl⟩ dX5_dryAt_22 (fun v w' H locs hq hP hD hS => ?_)
  obtain ⟨rfl, rfl⟩ := hq
  refine z_iretX hG hx hb hr hlocks hP hD hS (Nat.le_of_ble_eq_true rfl) (Nat.le_of_ble_eq_true rfl) dX5_dryAt_25 ?_
  refine ⟨?_, congrArg (fun z => some (Value.int z)) ?_, ?_⟩
  · simp [boC, hq1, ej]
  · rfl
  · rfl
set_option maxHeartbeats 800000 in
set_option maxRecDepth 100000 in
theorem c_X5_dryByHours (l : Launch) (hlt : l.stackTraces = false) (D : va_G) (y : Nat → ClassId) (a : Nat → Nat) (cap clr : Int32) (t : Nat) (hom mov : Int32) (wm : Int64) (tb tf ts : Int32) (nw : Nat) (wf wt : Nat → Int32) (nb : Nat) (bw bl bi bb : Nat → Int32) (no : Nat) (od ow ol ork ob olf oco : Nat → Int32) (pn pb pm : Int32) (pcd pw pli : Nat → Int32) (b : Int32) (hb8 : no ≤ 8) (hd : olf (nN b) = 0) : zX l D y yX5_dryByHours cX5_dryByHours 2 (some .int) 8 1 6 116 [Value.ref (a 0), Value.int b] (wB a y cap clr (nI t) hom mov wm tb tf ts (nI nw) wf wt (nI nb) bw bl bi bb (nI no) od ow ol ork ob olf oco pn pb pm pcd pw pli) (fun o9 w9 => (boC no b = 0) ∧ o9 = some (Value.int (nI t)) ∧ w9 = wB a y cap clr (nI t) hom mov wm tb tf ts (nI nw) wf wt (nI nb) bw bl bi bb (nI no) od ow ol ork ob olf oco pn pb pm pcd pw pli) (fun E => (E = "java/lang/IndexOutOfBoundsException" ∧ (boC no b = 1))) := by
  refine zX.of (by decide +kernel) (Nat.le_of_ble_eq_true rfl) ?_
  intro p e s m args below meth c A ls hx hb hr hta hown hlocks hml hex hN hK hP hD hS hA hl
  refine z_gen (fun G hG => ?_)
  have hl : lv_has ls 2 [(0, Value.ref (a 0)), (1, Value.int b)] := hl
  refine lv_aload_n hx hb dX5_dryByHours_0 rfl (lv_at hl 0 rfl) ?_
  refine lv_iload_n hx hb dX5_dryByHours_1 rfl (lv_at hl 1 rfl) ?_
  refine z_xcallV (As := [Value.int b]) (rest := []) hx hb hml hown hta zm_X5_checkBoat wd_8_10 (c_X5_checkBoat l hlt D y a cap clr t hom mov wm tb tf ts nw wf wt nb bw bl bi bb no od ow ol ork ob olf oco pn pb pm pcd pw pli b (by omega)) hN hK hP hD hS hA 0 rfl rfl rfl hl rfl (Nat.le_of_ble_eq_true rfl) ⟨Nat.le_of_ble_eq_true rfl, Nat.le_of_ble_eq_true rfl⟩ ⟨Nat.le_of_ble_eq_true rfl, Nat.le_of_ble_eq_true rfl⟩ dX5_dryByHours_2 (fun E ce q9 H locs hE hP hS hc9 hv9 hcl9 => ?_) (fun v w' H locs hq hP hD hS => ?_)
  · refine z_out hG hex hlocks ?_ hP hS hc9 hv9 hcl9 (Nat.le_of_ble_eq_true rfl) (Nat.le_of_ble_eq_true rfl)
    obtain ⟨rfl, hE⟩ := hE
    exact ⟨rfl, by simp [boC, hE]⟩
  obtain ⟨hq1, rfl, rfl⟩ := hq
  obtain ⟨j, hj, rfl⟩ := (inB_iff (by omega)).mp hq1
  have ej : nN (nI j) = j := nI_clamp (by omega)
  refine lv_aload_n hx hb dX5_dryByHours_5 rfl (lv_at hl 0 rfl) ?_
  refine gB5_weather hx hb hta hown hK hP wd_1_16 dX5_dryByHours_6 ?_
  refine lv_aload_n hx hb dX5_dryByHours_9 rfl (lv_at hl 0 rfl) ?_
  refine gB5_now hx hb hta hown hK hP wd_2_7 dX5_dryByHours_10 ?_
  refine lv_aload_n hx hb dX5_dryByHours_13 rfl (lv_at hl 0 rfl) ?_
  refine gB5_boats hx hb hta hown hK hP wd_2_0 dX5_dryByHours_14 ?_
  refine gB1_left hx hb hta hown hK hP wd_12_3 dX5_dryByHours_17 ?_
  refine lv_iload_n hx hb dX5_dryByHours_20 rfl (lv_at hl 1 rfl) ?_
  refine aB_olf hx hb hK hP j rfl (by omega) dX5_dryByHours_21 ?_
  refine zr_top (y := (0 : Int32)) (by rw [← ej]; exact hd) ?_
  refine z_callV (As := [Value.int (nI t), Value.int (0 : Int32)]) (rest := []) hx hb hml hown hta zm_X4_dryHourByHour wd_22_22 (c_X4_dryHourByHour l D y a cap clr t hom mov wm tb tf ts nw wf wt nb bw bl bi bb no od ow ol ork ob olf oco pn pb pm pcd pw pli (nI t)) hN hK hP hD hS hA 2 rfl rfl rfl hl rfl (Nat.le_of_ble_eq_true rfl) ⟨Nat.le_of_ble_eq_true rfl, Nat.le_of_ble_eq_true rfl⟩ ⟨Nat.le_of_ble_eq_true rfl, Nat.le_of_ble_eq_true rfl⟩ dX5_dryByHours_22 (fun v w' H locs hq hP hD hS => ?_)
  obtain ⟨rfl, rfl⟩ := hq
  refine z_iretX hG hx hb hr hlocks hP hD hS (Nat.le_of_ble_eq_true rfl) (Nat.le_of_ble_eq_true rfl) dX5_dryByHours_25 ?_
  refine ⟨?_, congrArg (fun z => some (Value.int z)) ?_, ?_⟩
  · simp [boC, hq1, ej]
  · rfl
  · rfl
