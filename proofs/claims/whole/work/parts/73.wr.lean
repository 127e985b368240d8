set_option maxHeartbeats 800000 in
set_option maxRecDepth 100000 in
theorem c_L_lift (l : Launch) (hlt : l.stackTraces = false) (D : va_G) (y : Nat → ClassId) (a : Nat → Nat) (cap clr : Int32) (t : Nat) (hom mov : Int32) (wm : Int64) (tb tf ts : Int32) (nw : Nat) (wf wt : Nat → Int32) (nb : Nat) (bw bl bi bb : Nat → Int32) (no : Nat) (od ow ol ork ob olf oco : Nat → Int32) (pn pb pm : Int32) (pcd pw pli : Nat → Int32) (b : Int32) (g : Int32) (hb8 : no ≤ 8) (hb6 : nb ≤ 6) (hw : nw ≤ 6) (o : Nat) (v0 : Nat → Int64) : zWr l D y yL_lift cL_lift 5 [(0, 10, 13, 13), (0, 10, 17, 17)] 10 3 18 160 [Value.ref (a 0), Value.int b, Value.int g, Value.ref o] (wB a y cap clr (nI t) hom mov wm tb tf ts (nI nw) wf wt (nI nb) bw bl bi bb (nI no) od ow ol ork ob olf oco pn pb pm pcd pw pli ++ oL y o v0) (fun o9 w9 => zOk (mvC no nb b g (liF cap clr tb tf ts hom (nI t) (badF wf wt nw (nI t)) ob bb od ow ol bw bl bi nb (nN b) (nN g))) (Int32.toInt64 (mov + (1 : Int32))) y o v0 (wB a y cap clr (nI t) (nI t) (mov + (1 : Int32)) (wm + Int32.toInt64 (ow (nN b))) tb tf ts (nI nw) wf wt (nI nb) bw bl bi (upd bb (nN g) b) (nI no) od ow ol ork (upd ob (nN b) g) olf oco pn pb pm pcd pw pli) (wB a y cap clr (nI t) hom mov wm tb tf ts (nI nw) wf wt (nI nb) bw bl bi bb (nI no) od ow ol ork ob olf oco pn pb pm pcd pw pli) o9 w9) := by
  refine zWr.of (by decide +kernel) (Nat.le_of_ble_eq_true rfl) ?_
  intro p e s m args below meth c A ls hx hb hr hta hown hlocks hml hex hH hN hK hP hD hS hA hl
  refine z_gen (fun G hG => ?_)
  have hl : lv_has ls 5 [(0, Value.ref (a 0)), (1, Value.int b), (2, Value.int g), (3, Value.ref o)] := hl
  refine lv_aload_n hx hb dL_lift_0 rfl (lv_at hl 3 rfl) ?_
  refine lv_iconst (v := (0 : Int32)) hx hb dL_lift_1 (by decide) ?_
  refine lv_aload_n hx hb dL_lift_2 rfl (lv_at hl 0 rfl) ?_
  refine lv_iload_n hx hb dL_lift_3 rfl (lv_at hl 1 rfl) ?_
  refine lv_iload_n hx hb dL_lift_4 rfl (lv_at hl 2 rfl) ?_
  refine z_xcallVF (wa := []) (w1 := wB a y cap clr (nI t) hom mov wm tb tf ts (nI nw) wf wt (nI nb) bw bl bi bb (nI no) od ow ol ork ob olf oco pn pb pm pcd pw pli) (wb := oL y o v0) (As := [Value.int b, Value.int g]) (rest := [Value.int 0, Value.ref o]) hx hb hml hown hta zm_X5_lift wd_15_22 (c_X5_lift l hlt D y a cap clr t hom mov wm tb tf ts nw wf wt nb bw bl bi bb no od ow ol ork ob olf oco pn pb pm pcd pw pli b g hb8 hb6 hw) hN hK hP hD hS hA 0 rfl rfl rfl hl rfl (Nat.le_of_ble_eq_true rfl) ⟨Nat.le_of_ble_eq_true rfl, Nat.le_of_ble_eq_true rfl⟩ ⟨Nat.le_of_ble_eq_true rfl, Nat.le_of_ble_eq_true rfl⟩ dL_lift_5 (fun E ce q9 w' H locs hE hP hD hS hc9 hv9 hcl9 => ?_) (fun v w' H locs hq hP hD hS => ?_)
  · obtain ⟨hE, rfl⟩ := hE
    rcases hE with ⟨rfl, hE⟩ | ⟨rfl, hE⟩
    · refine z_catch (a1 := 0) (b1 := 10) (h1 := 13) (k1 := 13) [] [(0, 10, 17, 17)] hown hta hH hN hex rfl (fun _ h => absurd h List.not_mem_nil) (by decide) ⟨by decide, by decide⟩ (by decide) wd_5_18 hc9 hv9 hcl9 ?_
      refine lv_astore (lv' := [(4, Value.ref q9), (0, Value.ref (a 0)), (1, Value.int b), (2, Value.int g), (3, Value.ref o)]) hx hb dL_lift_13 hl (by decide) rfl (fun ls hl => ?_)
      refine lv_iconst (v := (1 : Int32)) hx hb dL_lift_15 (by decide) ?_
      exact z_iret hG hx hb hr hlocks hP hD hS (Nat.le_of_ble_eq_true rfl) (Nat.le_of_ble_eq_true rfl) dL_lift_16 (zOk_x hE (by decide) (by decide))
    · refine z_catch (a1 := 0) (b1 := 10) (h1 := 17) (k1 := 17) [(0, 10, 13, 13)] [] hown hta hH hN hex rfl (List.forall_mem_cons.mpr ⟨⟨by decide, "java/lang/IndexOutOfBoundsException", by decide, by decide, wd_5_18⟩, fun _ h => absurd h List.not_mem_nil⟩) (by decide) ⟨by decide, by decide⟩ (by decide) wd_5_20 hc9 hv9 hcl9 ?_
      refine lv_astore (lv' := [(4, Value.ref q9), (0, Value.ref (a 0)), (1, Value.int b), (2, Value.int g), (3, Value.ref o)]) hx hb dL_lift_17 hl (by decide) rfl (fun ls hl => ?_)
      refine lv_iconst (v := (2 : Int32)) hx hb dL_lift_19 (by decide) ?_
      exact z_iret hG hx hb hr hlocks hP hD hS (Nat.le_of_ble_eq_true rfl) (Nat.le_of_ble_eq_true rfl) dL_lift_20 (zOk_x hE (by decide) (by decide))
  obtain ⟨hq, rfl, rfl⟩ := hq
  refine lv_i2l (v := Int32.toInt64 (mov + (1 : Int32))) hx hb dL_lift_8 rfl ?_
  refine z_lst hx hb hK hP hD hS dL_lift_9 (fun H locs hP hD hS => ?_)
  refine lv_goto (tgt := 21) hx hb dL_lift_10 (by decide) ?_
  refine lv_iconst (v := (0 : Int32)) hx hb dL_lift_21 (by decide) ?_
  exact z_iret hG hx hb hr hlocks hP hD hS (Nat.le_of_ble_eq_true rfl) (Nat.le_of_ble_eq_true rfl) dL_lift_22 (zOk_0 hq)
theorem zw_lift : (Cond.static yL_lift ∈ WA ∧ Cond.initialized RL ∈ WA ∧ Cond.codeWith yL_lift cL_lift 5 (some .int) [(0, 10, 13, 13), (0, 10, 17, 17)] ∈ WA) ∧ RL ≠ "java/lang/invoke/MethodHandle" ∧ RL ≠ "java/lang/invoke/VarHandle" ∧ (parseMethodDescriptor yL_lift.desc).map (fun d => d.parameters.length) = some 4 := ⟨⟨wd_15_20, wd_5_16, wd_15_21⟩, by decide +kernel, by decide +kernel, by decide +kernel⟩
set_option maxHeartbeats 800000 in
set_option maxRecDepth 100000 in
theorem c_L_liftReason (l : Launch) (hlt : l.stackTraces = false) (D : va_G) (y : Nat → ClassId) (a : Nat → Nat) (cap clr : Int32) (t : Nat) (hom mov : Int32) (wm : Int64) (tb tf ts : Int32) (nw : Nat) (wf wt : Nat → Int32) (nb : Nat) (bw bl bi bb : Nat → Int32) (no : Nat) (od ow ol ork ob olf oco : Nat → Int32) (pn pb pm : Int32) (pcd pw pli : Nat → Int32) (b : Int32) (g : Int32) (hb8 : no ≤ 8) (hb6 : nb ≤ 6) (hw : nw ≤ 6) (o : Nat) (v0 : Nat → Int64) : zWr l D y yL_liftReason cL_liftReason 5 [(0, 10, 13, 13)] 10 2 12 160 [Value.ref (a 0), Value.int b, Value.int g, Value.ref o] (wB a y cap clr (nI t) hom mov wm tb tf ts (nI nw) wf wt (nI nb) bw bl bi bb (nI no) od ow ol ork ob olf oco pn pb pm pcd pw pli ++ oL y o v0) (fun o9 w9 => zOk (bbC no nb b g) (Int32.toInt64 (liF cap clr tb tf ts hom (nI t) (badF wf wt nw (nI t)) ob bb od ow ol bw bl bi nb (nN b) (nN g))) y o v0 (wB a y cap clr (nI t) hom mov wm tb tf ts (nI nw) wf wt (nI nb) bw bl bi bb (nI no) od ow ol ork ob olf oco pn pb pm pcd pw pli) (wB a y cap clr (nI t) hom mov wm tb tf ts (nI nw) wf wt (nI nb) bw bl bi bb (nI no) od ow ol ork ob olf oco pn pb pm pcd pw pli) o9 w9) := by
  refine zWr.of (by decide +kernel) (Nat.le_of_ble_eq_true rfl) ?_
  intro p e s m args below meth c A ls hx hb hr hta hown hlocks hml hex hH hN hK hP hD hS hA hl
  refine z_gen (fun G hG => ?_)
  have hl : lv_has ls 5 [(0, Value.ref (a 0)), (1, Value.int b), (2, Value.int g), (3, Value.ref o)] := hl
  refine lv_aload_n hx hb dL_liftReason_0 rfl (lv_at hl 3 rfl) ?_
  refine lv_iconst (v := (0 : Int32)) hx hb dL_liftReason_1 (by decide) ?_
  refine lv_aload_n hx hb dL_liftReason_2 rfl (lv_at hl 0 rfl) ?_
  refine lv_iload_n hx hb dL_liftReason_3 rfl (lv_at hl 1 rfl) ?_
  refine lv_iload_n hx hb dL_liftReason_4 rfl (lv_at hl 2 rfl) ?_
  refine z_xcallVF (wa := []) (w1 := wB a y cap clr (nI t) hom mov wm tb tf ts (nI nw) wf wt (nI nb) bw bl bi bb (nI no) od ow ol ork ob olf oco pn pb pm pcd pw pli) (wb := oL y o v0) (As := [Value.int b, Value.int g]) (rest := [Value.int 0, Value.ref o]) hx hb hml hown hta zm_X5_liftReason wd_18_21 (c_X5_liftReason l hlt D y a cap clr t hom mov wm tb tf ts nw wf wt nb bw bl bi bb no od ow ol ork ob olf oco pn pb pm pcd pw pli b g hb8 hb6 hw) hN hK hP hD hS hA 0 rfl rfl rfl hl rfl (Nat.le_of_ble_eq_true rfl) ⟨Nat.le_of_ble_eq_true rfl, Nat.le_of_ble_eq_true rfl⟩ ⟨Nat.le_of_ble_eq_true rfl, Nat.le_of_ble_eq_true rfl⟩ dL_liftReason_5 (fun E ce q9 w' H locs hE hP hD hS hc9 hv9 hcl9 => ?_) (fun v w' H locs hq hP hD hS => ?_)
  · obtain ⟨hE, rfl⟩ := hE
    obtain ⟨rfl, hE⟩ := hE
    refine z_catch (a1 := 0) (b1 := 10) (h1 := 13) (k1 := 13) [] [] hown hta hH hN hex rfl (fun _ h => absurd h List.not_mem_nil) (by decide) ⟨by decide, by decide⟩ (by decide) wd_5_18 hc9 hv9 hcl9 ?_
    refine lv_astore (lv' := [(4, Value.ref q9), (0, Value.ref (a 0)), (1, Value.int b), (2, Value.int g), (3, Value.ref o)]) hx hb dL_liftReason_13 hl (by decide) rfl (fun ls hl => ?_)
    refine lv_iconst (v := (1 : Int32)) hx hb dL_liftReason_15 (by decide) ?_
    exact z_iret hG hx hb hr hlocks hP hD hS (Nat.le_of_ble_eq_true rfl) (Nat.le_of_ble_eq_true rfl) dL_liftReason_16 (zOk_x hE (by decide) (by decide))
  obtain ⟨hq, rfl, rfl⟩ := hq
  refine lv_i2l (v := Int32.toInt64 (liF cap clr tb tf ts hom (nI t) (badF wf wt nw (nI t)) ob bb od ow ol bw bl bi nb (nN b) (nN g))) hx hb dL_liftReason_8 rfl ?_
  refine z_lst hx hb hK hP hD hS dL_liftReason_9 (fun H locs hP hD hS => ?_)
  refine lv_goto (tgt := 17) hx hb dL_liftReason_10 (by decide) ?_
  refine lv_iconst (v := (0 : Int32)) hx hb dL_liftReason_17 (by decide) ?_
  exact z_iret hG hx hb hr hlocks hP hD hS (Nat.le_of_ble_eq_true rfl) (Nat.le_of_ble_eq_true rfl) dL_liftReason_18 (zOk_0 hq)
theorem zw_liftReason : (Cond.static yL_liftReason ∈ WA ∧ Cond.initialized RL ∈ WA ∧ Cond.codeWith yL_liftReason cL_liftReason 5 (some .int) [(0, 10, 13, 13)] ∈ WA) ∧ RL ≠ "java/lang/invoke/MethodHandle" ∧ RL ≠ "java/lang/invoke/VarHandle" ∧ (parseMethodDescriptor yL_liftReason.desc).map (fun d => d.parameters.length) = some 4 := ⟨⟨wd_18_19, wd_5_16, wd_18_20⟩, by decide +kernel, by decide +kernel, by decide +kernel⟩
set_option maxHeartbeats 800000 in
set_option maxRecDepth 100000 in
theorem c_L_launch (l : Launch) (hlt : l.stackTraces = false) (D : va_G) (y : Nat → ClassId) (a : Nat → Nat) (cap clr : Int32) (t : Nat) (hom mov : Int32) (wm : Int64) (tb tf ts : Int32) (nw : Nat) (wf wt : Nat → Int32) (nb : Nat) (bw bl bi bb : Nat → Int32) (no : Nat) (od ow ol ork ob olf oco : Nat → Int32) (pn pb pm : Int32) (pcd pw pli : Nat → Int32) (b : Int32) (hb8 : no ≤ 8) (hb6 : nb ≤ 6) (hw : nw ≤ 6) (o : Nat) (v0 : Nat → Int64) : zWr l D y yL_launch cL_launch 4 [(0, 9, 12, 13), (0, 9, 15, 17)] 9 3 18 138 [Value.ref (a 0), Value.int b, Value.ref o] (wB a y cap clr (nI t) hom mov wm tb tf ts (nI nw) wf wt (nI nb) bw bl bi bb (nI no) od ow ol ork ob olf oco pn pb pm pcd pw pli ++ oL y o v0) (fun o9 w9 => zOk (mlC no b (laR cap clr tb tf ts hom (nI t) (badF wf wt nw (nI t)) ob olf bb od ow bi nb (nN b))) (Int32.toInt64 (mov + (1 : Int32))) y o v0 (wB a y cap clr (nI t) (nI t) (mov + (1 : Int32)) (wm + Int32.toInt64 (ow (nN b))) tb tf ts (nI nw) wf wt (nI nb) bw bl bi (upd bb (nN (ob (nN b))) (-1 : Int32)) (nI no) od ow ol ork (upd ob (nN b) (-2 : Int32)) olf oco pn pb pm pcd pw pli) (wB a y cap clr (nI t) hom mov wm tb tf ts (nI nw) wf wt (nI nb) bw bl bi bb (nI no) od ow ol ork ob olf oco pn pb pm pcd pw pli) o9 w9) := by
  refine zWr.of (by decide +kernel) (Nat.le_of_ble_eq_true rfl) ?_
  intro p e s m args below meth c A ls hx hb hr hta hown hlocks hml hex hH hN hK hP hD hS hA hl
  refine z_gen (fun G hG => ?_)
  have hl : lv_has ls 4 [(0, Value.ref (a 0)), (1, Value.int b), (2, Value.ref o)] := hl
  refine lv_aload_n hx hb dL_launch_0 rfl (lv_at hl 2 rfl) ?_
  refine lv_iconst (v := (0 : Int32)) hx hb dL_launch_1 (by decide) ?_
  refine lv_aload_n hx hb dL_launch_2 rfl (lv_at hl 0 rfl) ?_
  refine lv_iload_n hx hb dL_launch_3 rfl (lv_at hl 1 rfl) ?_
  refine z_xcallVF (wa := []) (w1 := wB a y cap clr (nI t) hom mov wm tb tf ts (nI nw) wf wt (nI nb) bw bl bi bb (nI no) od ow ol ork ob olf oco pn pb pm pcd pw pli) (wb := oL y o v0) (As := [Value.int b]) (rest := [Value.int 0, Value.ref o]) hx hb hml hown hta zm_X5_launch wd_19_8 (c_X5_launch l hlt D y a cap clr t hom mov wm tb tf ts nw wf wt nb bw bl bi bb no od ow ol ork ob olf oco pn pb pm pcd pw pli b hb8 hb6 hw) hN hK hP hD hS hA 0 rfl rfl rfl hl rfl (Nat.le_of_ble_eq_true rfl) ⟨Nat.le_of_ble_eq_true rfl, Nat.le_of_ble_eq_true rfl⟩ ⟨Nat.le_of_ble_eq_true rfl, Nat.le_of_ble_eq_true rfl⟩ dL_launch_4 (fun E ce q9 w' H locs hE hP hD hS hc9 hv9 hcl9 => ?_) (fun v w' H locs hq hP hD hS => ?_)
  · obtain ⟨hE, rfl⟩ := hE
    rcases hE with ⟨rfl, hE⟩ | ⟨rfl, hE⟩
    · refine z_catch (a1 := 0) (b1 := 9) (h1 := 12) (k1 := 13) [] [(0, 9, 15, 17)] hown hta hH hN hex rfl (fun _ h => absurd h List.not_mem_nil) (by decide) ⟨by decide, by decide⟩ (by decide) wd_5_18 hc9 hv9 hcl9 ?_
      refine lv_astore_n (lv' := [(3, Value.ref q9), (0, Value.ref (a 0)), (1, Value.int b), (2, Value.ref o)]) hx hb dL_launch_12 rfl hl (by decide) rfl (fun ls hl => ?_)
      refine lv_iconst (v := (1 : Int32)) hx hb dL_launch_13 (by decide) ?_
      exact z_iret hG hx hb hr hlocks hP hD hS (Nat.le_of_ble_eq_true rfl) (Nat.le_of_ble_eq_true rfl) dL_launch_14 (zOk_x hE (by decide) (by decide))
    · refine z_catch (a1 := 0) (b1 := 9) (h1 := 15) (k1 := 17) [(0, 9, 12, 13)] [] hown hta hH hN hex rfl (List.forall_mem_cons.mpr ⟨⟨by decide, "java/lang/IndexOutOfBoundsException", by decide, by decide, wd_5_18⟩, fun _ h => absurd h List.not_mem_nil⟩) (by decide) ⟨by decide, by decide⟩ (by decide) wd_5_20 hc9 hv9 hcl9 ?_
      refine lv_astore_n (lv' := [(3, Value.ref q9), (0, Value.ref (a 0)), (1, Value.int b), (2, Value.ref o)]) hx hb dL_launch_15 rfl hl (by decide) rfl (fun ls hl => ?_)
      refine lv_iconst (v := (2 : Int32)) hx hb dL_launch_16 (by decide) ?_
      exact z_iret hG hx hb hr hlocks hP hD hS (Nat.le_of_ble_eq_true rfl) (Nat.le_of_ble_eq_true rfl) dL_launch_17 (zOk_x hE (by decide) (by decide))
  obtain ⟨hq, rfl, rfl⟩ := hq
  refine lv_i2l (v := Int32.toInt64 (mov + (1 : Int32))) hx hb dL_launch_7 rfl ?_
  refine z_lst hx hb hK hP hD hS dL_launch_8 (fun H locs hP hD hS => ?_)
  refine lv_goto (tgt := 18) hx hb dL_launch_9 (by decide) ?_
  refine lv_iconst (v := (0 : Int32)) hx hb dL_launch_18 (by decide) ?_
  exact z_iret hG hx hb hr hlocks hP hD hS (Nat.le_of_ble_eq_true rfl) (Nat.le_of_ble_eq_true rfl) dL_launch_19 (zOk_0 hq)
theorem zw_launch : (Cond.static yL_launch ∈ WA ∧ Cond.initialized RL ∈ WA ∧ Cond.codeWith yL_launch cL_launch 4 (some .int) [(0, 9, 12, 13), (0, 9, 15, 17)] ∈ WA) ∧ RL ≠ "java/lang/invoke/MethodHandle" ∧ RL ≠ "java/lang/invoke/VarHandle" ∧ (parseMethodDescriptor yL_launch.desc).map (fun d => d.parameters.length) = some 3 := ⟨⟨wd_19_6, wd_5_16, wd_19_7⟩, by decide +kernel, by decide +kernel, by decide +kernel⟩
set_option maxHeartbeats 800000 in
set_option maxRecDepth 100000 in
theorem c_L_launchReason (l : Launch) (hlt : l.stackTraces = false) (D : va_G) (y : Nat → ClassId) (a : Nat → Nat) (cap clr : Int32) (t : Nat) (hom mov : Int32) (wm : Int64) (tb tf ts : Int32) (nw : Nat) (wf wt : Nat → Int32) (nb : Nat) (bw bl bi bb : Nat → Int32) (no : Nat) (od ow ol ork ob olf oco : Nat → Int32) (pn pb pm : Int32) (pcd pw pli : Nat → Int32) (b : Int32) (hb8 : no ≤ 8) (hb6 : nb ≤ 6) (hw : nw ≤ 6) (o : Nat) (v0 : Nat → Int64) : zWr l D y yL_launchReason cL_launchReason 4 [(0, 9, 12, 13)] 9 1 6 138 [Value.ref (a 0), Value.int b, Value.ref o] (wB a y cap clr (nI t) hom mov wm tb tf ts (nI nw) wf wt (nI nb) bw bl bi bb (nI no) od ow ol ork ob olf oco pn pb pm pcd pw pli ++ oL y o v0) (fun o9 w9 => zOk (boC no b) (Int32.toInt64 (laR cap clr tb tf ts hom (nI t) (badF wf wt nw (nI t)) ob olf bb od ow bi nb (nN b))) y o v0 (wB a y cap clr (nI t) hom mov wm tb tf ts (nI nw) wf wt (nI nb) bw bl bi bb (nI no) od ow ol ork ob olf oco pn pb pm pcd pw pli) (wB a y cap clr (nI t) hom mov wm tb tf ts (nI nw) wf wt (nI nb) bw bl bi bb (nI no) od ow ol ork ob olf oco pn pb pm pcd pw pli) o9 w9) := by
  refine zWr.of (by decide +kernel) (Nat.le_of_ble_eq_true rfl) ?_
  intro p e s m args below meth c A ls hx hb hr hta hown hlocks hml hex hH hN hK hP hD hS hA hl
  refine z_gen (fun G hG => ?_)
  have hl : lv_has ls 4 [(0, Value.ref (a 0)), (1, Value.int b), (2, Value.ref o)] := hl
  refine lv_aload_n hx hb dL_launchReason_0 rfl (lv_at hl 2 rfl) ?_
  refine lv_iconst (v := (0 : Int32)) hx hb dL_launchReason_1 (by decide) ?_
  refine lv_aload_n hx hb dL_launchReason_2 rfl (lv_at hl 0 rfl) ?_
  refine lv_iload_n hx hb dL_launchReason_3 rfl (lv_at hl 1 rfl) ?_
  refine z_xcallVF (wa := []) (w1 := wB a y cap clr (nI t) hom mov wm tb tf ts (nI nw) wf wt (nI nb) bw bl bi bb (nI no) od ow ol ork ob olf oco pn pb pm pcd pw pli) (wb := oL y o v0) (As := [Value.int b]) (rest := [Value.int 0, Value.ref o]) hx hb hml hown hta zm_X5_launchReason wd_20_4 (c_X5_launchReason l hlt D y a cap clr t hom mov wm tb tf ts nw wf wt nb bw bl bi bb no od ow ol ork ob olf oco pn pb pm pcd pw pli b hb8 hb6 hw) hN hK hP hD hS hA 0 rfl rfl rfl hl rfl (Nat.le_of_ble_eq_true rfl) ⟨Nat.le_of_ble_eq_true rfl, Nat.le_of_ble_eq_true rfl⟩ ⟨Nat.le_of_ble_eq_true rfl, Nat.le_of_ble_eq_true rfl⟩ dL_launchReason_4 (fun E ce q9 w' H locs hE hP hD hS hc9 hv9 hcl9 => ?_) (fun v w' H locs hq hP hD hS => ?_)
  · obtain ⟨hE, rfl⟩ := hE
    obtain ⟨rfl, hE⟩ := hE
    refine z_catch (a1 := 0) (b1 := 9) (h1 := 12) (k1 := 13) [] [] hown hta hH hN hex rfl (fun _ h => absurd h List.not_mem_nil) (by decide) ⟨by decide, by decide⟩ (by decide) wd_5_18 hc9 hv9 hcl9 ?_
    refine lv_astore_n (lv' := [(3, Value.ref q9), (0, Value.ref (a 0)), (1, Value.int b), (2, Value.ref o)]) hx hb dL_launchReason_12 rfl hl (by decide) rfl (fun ls hl => ?_)
    refine lv_iconst (v := (1 : Int32)) hx hb dL_launchReason_13 (by decide) ?_
    exact z_iret hG hx hb hr hlocks hP hD hS (Nat.le_of_ble_eq_true rfl) (Nat.le_of_ble_eq_true rfl) dL_launchReason_14 (zOk_x hE (by decide) (by decide))
  obtain ⟨hq, rfl, rfl⟩ := hq
  refine lv_i2l (v := Int32.toInt64 (laR cap clr tb tf ts hom (nI t) (badF wf wt nw (nI t)) ob olf bb od ow bi nb (nN b))) hx hb dL_launchReason_7 rfl ?_
  refine z_lst hx hb hK hP hD hS dL_launchReason_8 (fun H locs hP hD hS => ?_)
  refine lv_goto (tgt := 15) hx hb dL_launchReason_9 (by decide) ?_
  refine lv_iconst (v := (0 : Int32)) hx hb dL_launchReason_15 (by decide) ?_
  exact z_iret hG hx hb hr hlocks hP hD hS (Nat.le_of_ble_eq_true rfl) (Nat.le_of_ble_eq_true rfl) dL_launchReason_16 (zOk_0 hq)
theorem zw_launchReason : (Cond.static yL_launchReason ∈ WA ∧ Cond.initialized RL ∈ WA ∧ Cond.codeWith yL_launchReason cL_launchReason 4 (some .int) [(0, 9, 12, 13)] ∈ WA) ∧ RL ≠ "java/lang/invoke/MethodHandle" ∧ RL ≠ "java/lang/invoke/VarHandle" ∧ (parseMethodDescriptor yL_launchReason.desc).map (fun d => d.parameters.length) = some 3 := ⟨⟨wd_20_2, wd_5_16, wd_20_3⟩, by decide +kernel, by decide +kernel, by decide +kernel⟩
set_option maxHeartbeats 800000 in
set_option maxRecDepth 100000 in
theorem c_L_shift (l : Launch) (hlt : l.stackTraces = false) (D : va_G) (y : Nat → ClassId) (a : Nat → Nat) (cap clr : Int32) (t : Nat) (hom mov : Int32) (wm : Int64) (tb tf ts : Int32) (nw : Nat) (wf wt : Nat → Int32) (nb : Nat) (bw bl bi bb : Nat → Int32) (no : Nat) (od ow ol ork ob olf oco : Nat → Int32) (pn pb pm : Int32) (pcd pw pli : Nat → Int32) (b : Int32) (g : Int32) (hb8 : no ≤ 8) (hb6 : nb ≤ 6) (hw : nw ≤ 6) (o : Nat) (v0 : Nat → Int64) : zWr l D y yL_shift cL_shift 5 [(0, 10, 13, 13), (0, 10, 17, 17)] 10 3 18 161 [Value.ref (a 0), Value.int b, Value.int g, Value.ref o] (wB a y cap clr (nI t) hom mov wm tb tf ts (nI nw) wf wt (nI nb) bw bl bi bb (nI no) od ow ol ork ob olf oco pn pb pm pcd pw pli ++ oL y o v0) (fun o9 w9 => zOk (mvC no nb b g (shR cap hom (nI t) (badF wf wt nw (nI t)) ob olf ow ol bw bl bi bb nb (nN b) (nN g))) (Int32.toInt64 (mov + (1 : Int32))) y o v0 (wB a y cap clr (nI t) (nI t) (mov + (1 : Int32)) (wm + Int32.toInt64 (ow (nN b))) tb tf ts (nI nw) wf wt (nI nb) bw bl bi (upd (upd bb (nN (ob (nN b))) (-1 : Int32)) (nN g) b) (nI no) od ow ol ork (upd ob (nN b) g) olf oco pn pb pm pcd pw pli) (wB a y cap clr (nI t) hom mov wm tb tf ts (nI nw) wf wt (nI nb) bw bl bi bb (nI no) od ow ol ork ob olf oco pn pb pm pcd pw pli) o9 w9) := by
  refine zWr.of (by decide +kernel) (Nat.le_of_ble_eq_true rfl) ?_
  intro p e s m args below meth c A ls hx hb hr hta hown hlocks hml hex hH hN hK hP hD hS hA hl
  refine z_gen (fun G hG => ?_)
  have hl : lv_has ls 5 [(0, Value.ref (a 0)), (1, Value.int b), (2, Value.int g), (3, Value.ref o)] := hl
  refine lv_aload_n hx hb dL_shift_0 rfl (lv_at hl 3 rfl) ?_
  refine lv_iconst (v := (0 : Int32)) hx hb dL_shift_1 (by decide) ?_
  refine lv_aload_n hx hb dL_shift_2 rfl (lv_at hl 0 rfl) ?_
  refine lv_iload_n hx hb dL_shift_3 rfl (lv_at hl 1 rfl) ?_
  refine lv_iload_n hx hb dL_shift_4 rfl (lv_at hl 2 rfl) ?_
  refine z_xcallVF (wa := []) (w1 := wB a y cap clr (nI t) hom mov wm tb tf ts (nI nw) wf wt (nI nb) bw bl bi bb (nI no) od ow ol ork ob olf oco pn pb pm pcd pw pli) (wb := oL y o v0) (As := [Value.int b, Value.int g]) (rest := [Value.int 0, Value.ref o]) hx hb hml hown hta zm_X5_shift wd_20_15 (c_X5_shift l hlt D y a cap clr t hom mov wm tb tf ts nw wf wt nb bw bl bi bb no od ow ol ork ob olf oco pn pb pm pcd pw pli b g hb8 hb6 hw) hN hK hP hD hS hA 0 rfl rfl rfl hl rfl (Nat.le_of_ble_eq_true rfl) ⟨Nat.le_of_ble_eq_true rfl, Nat.le_of_ble_eq_true rfl⟩ ⟨Nat.le_of_ble_eq_true rfl, Nat.le_of_ble_eq_true rfl⟩ dL_shift_5 (fun E ce q9 w' H locs hE hP hD hS hc9 hv9 hcl9 => ?_) (fun v w' H locs hq hP hD hS => ?_)
  · obtain ⟨hE, rfl⟩ := hE
    rcases hE with ⟨rfl, hE⟩ | ⟨rfl, hE⟩
    · refine z_catch (a1 := 0) (b1 := 10) (h1 := 13) (k1 := 13) [] [(0, 10, 17, 17)] hown hta hH hN hex rfl (fun _ h => absurd h List.not_mem_nil) (by decide) ⟨by decide, by decide⟩ (by decide) wd_5_18 hc9 hv9 hcl9 ?_
      refine lv_astore (lv' := [(4, Value.ref q9), (0, Value.ref (a 0)), (1, Value.int b), (2, Value.int g), (3, Value.ref o)]) hx hb dL_shift_13 hl (by decide) rfl (fun ls hl => ?_)
      refine lv_iconst (v := (1 : Int32)) hx hb dL_shift_15 (by decide) ?_
      exact z_iret hG hx hb hr hlocks hP hD hS (Nat.le_of_ble_eq_true rfl) (Nat.le_of_ble_eq_true rfl) dL_shift_16 (zOk_x hE (by decide) (by decide))
    · refine z_catch (a1 := 0) (b1 := 10) (h1 := 17) (k1 := 17) [(0, 10, 13, 13)] [] hown hta hH hN hex rfl (List.forall_mem_cons.mpr ⟨⟨by decide, "java/lang/IndexOutOfBoundsException", by decide, by decide, wd_5_18⟩, fun _ h => absurd h List.not_mem_nil⟩) (by decide) ⟨by decide, by decide⟩ (by decide) wd_5_20 hc9 hv9 hcl9 ?_
      refine lv_astore (lv' := [(4, Value.ref q9), (0, Value.ref (a 0)), (1, Value.int b), (2, Value.int g), (3, Value.ref o)]) hx hb dL_shift_17 hl (by decide) rfl (fun ls hl => ?_)
      refine lv_iconst (v := (2 : Int32)) hx hb dL_shift_19 (by decide) ?_
      exact z_iret hG hx hb hr hlocks hP hD hS (Nat.le_of_ble_eq_true rfl) (Nat.le_of_ble_eq_true rfl) dL_shift_20 (zOk_x hE (by decide) (by decide))
  obtain ⟨hq, rfl, rfl⟩ := hq
  refine lv_i2l (v := Int32.toInt64 (mov + (1 : Int32))) hx hb dL_shift_8 rfl ?_
  refine z_lst hx hb hK hP hD hS dL_shift_9 (fun H locs hP hD hS => ?_)
  refine lv_goto (tgt := 21) hx hb dL_shift_10 (by decide) ?_
  refine lv_iconst (v := (0 : Int32)) hx hb dL_shift_21 (by decide) ?_
  exact z_iret hG hx hb hr hlocks hP hD hS (Nat.le_of_ble_eq_true rfl) (Nat.le_of_ble_eq_true rfl) dL_shift_22 (zOk_0 hq)
theorem zw_shift : (Cond.static yL_shift ∈ WA ∧ Cond.initialized RL ∈ WA ∧ Cond.codeWith yL_shift cL_shift 5 (some .int) [(0, 10, 13, 13), (0, 10, 17, 17)] ∈ WA) ∧ RL ≠ "java/lang/invoke/MethodHandle" ∧ RL ≠ "java/lang/invoke/VarHandle" ∧ (parseMethodDescriptor yL_shift.desc).map (fun d => d.parameters.length) = some 4 := ⟨⟨wd_20_13, wd_5_16, wd_20_14⟩, by decide +kernel, by decide +kernel, by decide +kernel⟩
set_option maxHeartbeats 800000 in
set_option maxRecDepth 100000 in
theorem c_L_shiftReason (l : Launch) (hlt : l.stackTraces = false) (D : va_G) (y : Nat → ClassId) (a : Nat → Nat) (cap clr : Int32) (t : Nat) (hom mov : Int32) (wm : Int64) (tb tf ts : Int32) (nw : Nat) (wf wt : Nat → Int32) (nb : Nat) (bw bl bi bb : Nat → Int32) (no : Nat) (od ow ol ork ob olf oco : Nat → Int32) (pn pb pm : Int32) (pcd pw pli : Nat → Int32) (b : Int32) (g : Int32) (hb8 : no ≤ 8) (hb6 : nb ≤ 6) (hw : nw ≤ 6) (o : Nat) (v0 : Nat → Int64) : zWr l D y yL_shiftReason cL_shiftReason 5 [(0, 10, 13, 13)] 10 2 12 161 [Value.ref (a 0), Value.int b, Value.int g, Value.ref o] (wB a y cap clr (nI t) hom mov wm tb tf ts (nI nw) wf wt (nI nb) bw bl bi bb (nI no) od ow ol ork ob olf oco pn pb pm pcd pw pli ++ oL y o v0) (fun o9 w9 => zOk (bbC no nb b g) (Int32.toInt64 (shR cap hom (nI t) (badF wf wt nw (nI t)) ob olf ow ol bw bl bi bb nb (nN b) (nN g))) y o v0 (wB a y cap clr (nI t) hom mov wm tb tf ts (nI nw) wf wt (nI nb) bw bl bi bb (nI no) od ow ol ork ob olf oco pn pb pm pcd pw pli) (wB a y cap clr (nI t) hom mov wm tb tf ts (nI nw) wf wt (nI nb) bw bl bi bb (nI no) od ow ol ork ob olf oco pn pb pm pcd pw pli) o9 w9) := by
  refine zWr.of (by decide +kernel) (Nat.le_of_ble_eq_true rfl) ?_
  intro p e s m args below meth c A ls hx hb hr hta hown hlocks hml hex hH hN hK hP hD hS hA hl
  refine z_gen (fun G hG => ?_)
  have hl : lv_has ls 5 [(0, Value.ref (a 0)), (1, Value.int b), (2, Value.int g), (3, Value.ref o)] := hl
  refine lv_aload_n hx hb dL_shiftReason_0 rfl (lv_at hl 3 rfl) ?_
  refine lv_iconst (v := (0 : Int32)) hx hb dL_shiftReason_1 (by decide) ?_
  refine lv_aload_n hx hb dL_shiftReason_2 rfl (lv_at hl 0 rfl) ?_
  refine lv_iload_n hx hb dL_shiftReason_3 rfl (lv_at hl 1 rfl) ?_
  refine lv_iload_n hx hb dL_shiftReason_4 rfl (lv_at hl 2 rfl) ?_
  refine z_xcallVF (wa := []) (w1 := wB a y cap clr (nI t) hom mov wm tb tf ts (nI nw) wf wt (nI nb) bw bl bi bb (nI no) od ow ol ork ob olf oco pn pb pm pcd pw pli) (wb := oL y o v0) (As := [Value.int b, Value.int g]) (rest := [Value.int 0, Value.ref o]) hx hb hml hown hta zm_X5_shiftReason wd_21_18 (c_X5_shiftReason l hlt D y a cap clr t hom mov wm tb tf ts nw wf wt nb bw bl bi bb no od ow ol ork ob olf oco pn pb pm pcd pw pli b g hb8 hb6 hw) hN hK hP hD hS hA 0 rfl rfl rfl hl rfl (Nat.le_of_ble_eq_true rfl) ⟨Nat.le_of_ble_eq_true rfl, Nat.le_of_ble_eq_true rfl⟩ ⟨Nat.le_of_ble_eq_true rfl, Nat.le_of_ble_eq_true rfl⟩ dL_shiftReason_5 (fun E ce q9 w' H locs hE hP hD hS hc9 hv9 hcl9 => ?_) (fun v w' H locs hq hP hD hS => ?_)
  · obtain ⟨hE, rfl⟩ := hE
    obtain ⟨rfl, hE⟩ := hE
    refine z_catch (a1 := 0) (b1 := 10) (h1 := 13) (k1 := 13) [] [] hown hta hH hN hex rfl (fun _ h => absurd h List.not_mem_nil) (by decide) ⟨by decide, by decide⟩ (by decide) wd_5_18 hc9 hv9 hcl9 ?_
    refine lv_astore (lv' := [(4, Value.ref q9), (0, Value.ref (a 0)), (1, Value.int b), (2, Value.int g), (3, Value.ref o)]) hx hb dL_shiftReason_13 hl (by decide) rfl (fun ls hl => ?_)
    refine lv_iconst (v := (1 : Int32)) hx hb dL_shiftReason_15 (by decide) ?_
    exact z_iret hG hx hb hr hlocks hP hD hS (Nat.le_of_ble_eq_true rfl) (Nat.le_of_ble_eq_true rfl) dL_shiftReason_16 (zOk_x hE (by decide) (by decide))
  obtain ⟨hq, rfl, rfl⟩ := hq
  refine lv_i2l (v := Int32.toInt64 (shR cap hom (nI t) (badF wf wt nw (nI t)) ob olf ow ol bw bl bi bb nb (nN b) (nN g))) hx hb dL_shiftReason_8 rfl ?_
  refine z_lst hx hb hK hP hD hS dL_shiftReason_9 (fun H locs hP hD hS => ?_)
  refine lv_goto (tgt := 17) hx hb dL_shiftReason_10 (by decide) ?_
  refine lv_iconst (v := (0 : Int32)) hx hb dL_shiftReason_17 (by decide) ?_
  exact z_iret hG hx hb hr hlocks hP hD hS (Nat.le_of_ble_eq_true rfl) (Nat.le_of_ble_eq_true rfl) dL_shiftReason_18 (zOk_0 hq)
theorem zw_shiftReason : (Cond.static yL_shiftReason ∈ WA ∧ Cond.initialized RL ∈ WA ∧ Cond.codeWith yL_shiftReason cL_shiftReason 5 (some .int) [(0, 10, 13, 13)] ∈ WA) ∧ RL ≠ "java/lang/invoke/MethodHandle" ∧ RL ≠ "java/lang/invoke/VarHandle" ∧ (parseMethodDescriptor yL_shiftReason.desc).map (fun d => d.parameters.length) = some 4 := ⟨⟨wd_21_16, wd_5_16, wd_21_17⟩, by decide +kernel, by decide +kernel, by decide +kernel⟩
set_option maxHeartbeats 800000 in
set_option maxRecDepth 100000 in
theorem c_L_comeBack (l : Launch) (hlt : l.stackTraces = false) (D : va_G) (y : Nat → ClassId) (a : Nat → Nat) (cap clr : Int32) (t : Nat) (hom mov : Int32) (wm : Int64) (tb tf ts : Int32) (nw : Nat) (wf wt : Nat → Int32) (nb : Nat) (bw bl bi bb : Nat → Int32) (no : Nat) (od ow ol ork ob olf oco : Nat → Int32) (pn pb pm : Int32) (pcd pw pli : Nat → Int32) (b : Int32) (hb8 : no ≤ 8) (o : Nat) (v0 : Nat → Int64) : zWr l D y yL_comeBack cL_comeBack 4 [(0, 9, 12, 13), (0, 9, 15, 17)] 9 2 12 137 [Value.ref (a 0), Value.int b, Value.ref o] (wB a y cap clr (nI t) hom mov wm tb tf ts (nI nw) wf wt (nI nb) bw bl bi bb (nI no) od ow ol ork ob olf oco pn pb pm pcd pw pli ++ oL y o v0) (fun o9 w9 => zOk (cbC no ob b) (Int32.toInt64 (nI (cntW (upd ob (nN b) (-1 : Int32)) no))) y o v0 (wB a y cap clr (nI t) hom mov wm tb tf ts (nI nw) wf wt (nI nb) bw bl bi bb (nI no) od ow ol ork (upd ob (nN b) (-1 : Int32)) olf oco pn pb pm pcd pw pli) (wB a y cap clr (nI t) hom mov wm tb tf ts (nI nw) wf wt (nI nb) bw bl bi bb (nI no) od ow ol ork ob olf oco pn pb pm pcd pw pli) o9 w9) := by
  refine zWr.of (by decide +kernel) (Nat.le_of_ble_eq_true rfl) ?_
  intro p e s m args below meth c A ls hx hb hr hta hown hlocks hml hex hH hN hK hP hD hS hA hl
  refine z_gen (fun G hG => ?_)
  have hl : lv_has ls 4 [(0, Value.ref (a 0)), (1, Value.int b), (2, Value.ref o)] := hl
  refine lv_aload_n hx hb dL_comeBack_0 rfl (lv_at hl 2 rfl) ?_
  refine lv_iconst (v := (0 : Int32)) hx hb dL_comeBack_1 (by decide) ?_
  refine lv_aload_n hx hb dL_comeBack_2 rfl (lv_at hl 0 rfl) ?_
  refine lv_iload_n hx hb dL_comeBack_3 rfl (lv_at hl 1 rfl) ?_
  refine z_xcallVF (wa := []) (w1 := wB a y cap clr (nI t) hom mov wm tb tf ts (nI nw) wf wt (nI nb) bw bl bi bb (nI no) od ow ol ork ob olf oco pn pb pm pcd pw pli) (wb := oL y o v0) (As := [Value.int b]) (rest := [Value.int 0, Value.ref o]) hx hb hml hown hta zm_X5_comeBack wd_22_5 (c_X5_comeBack l hlt D y a cap clr t hom mov wm tb tf ts nw wf wt nb bw bl bi bb no od ow ol ork ob olf oco pn pb pm pcd pw pli b hb8) hN hK hP hD hS hA 0 rfl rfl rfl hl rfl (Nat.le_of_ble_eq_true rfl) ⟨Nat.le_of_ble_eq_true rfl, Nat.le_of_ble_eq_true rfl⟩ ⟨Nat.le_of_ble_eq_true rfl, Nat.le_of_ble_eq_true rfl⟩ dL_comeBack_4 (fun E ce q9 w' H locs hE hP hD hS hc9 hv9 hcl9 => ?_) (fun v w' H locs hq hP hD hS => ?_)
  · obtain ⟨hE, rfl⟩ := hE
    rcases hE with ⟨rfl, hE⟩ | ⟨rfl, hE⟩
    · refine z_catch (a1 := 0) (b1 := 9) (h1 := 12) (k1 := 13) [] [(0, 9, 15, 17)] hown hta hH hN hex rfl (fun _ h => absurd h List.not_mem_nil) (by decide) ⟨by decide, by decide⟩ (by decide) wd_5_18 hc9 hv9 hcl9 ?_
      refine lv_astore_n (lv' := [(3, Value.ref q9), (0, Value.ref (a 0)), (1, Value.int b), (2, Value.ref o)]) hx hb dL_comeBack_12 rfl hl (by decide) rfl (fun ls hl => ?_)
      refine lv_iconst (v := (1 : Int32)) hx hb dL_comeBack_13 (by decide) ?_
      exact z_iret hG hx hb hr hlocks hP hD hS (Nat.le_of_ble_eq_true rfl) (Nat.le_of_ble_eq_true rfl) dL_comeBack_14 (zOk_x hE (by decide) (by decide))
    · refine z_catch (a1 := 0) (b1 := 9) (h1 := 15) (k1 := 17) [(0, 9, 12, 13)] [] hown hta hH hN hex rfl (List.forall_mem_cons.mpr ⟨⟨by decide, "java/lang/IndexOutOfBoundsException", by decide, by decide, wd_5_18⟩, fun _ h => absurd h List.not_mem_nil⟩) (by decide) ⟨by decide, by decide⟩ (by decide) wd_5_20 hc9 hv9 hcl9 ?_
      refine lv_astore_n (lv' := [(3, Value.ref q9), (0, Value.ref (a 0)), (1, Value.int b), (2, Value.ref o)]) hx hb dL_comeBack_15 rfl hl (by decide) rfl (fun ls hl => ?_)
      refine lv_iconst (v := (2 : Int32)) hx hb dL_comeBack_16 (by decide) ?_
      exact z_iret hG hx hb hr hlocks hP hD hS (Nat.le_of_ble_eq_true rfl) (Nat.le_of_ble_eq_true rfl) dL_comeBack_17 (zOk_x hE (by decide) (by decide))
  obtain ⟨hq, rfl, rfl⟩ := hq
  refine lv_i2l (v := Int32.toInt64 (nI (cntW (upd ob (nN b) (-1 : Int32)) no))) hx hb dL_comeBack_7 rfl ?_
  refine z_lst hx hb hK hP hD hS dL_comeBack_8 (fun H locs hP hD hS => ?_)
  refine lv_goto (tgt := 18) hx hb dL_comeBack_9 (by decide) ?_
  refine lv_iconst (v := (0 : Int32)) hx hb dL_comeBack_18 (by decide) ?_
  exact z_iret hG hx hb hr hlocks hP hD hS (Nat.le_of_ble_eq_true rfl) (Nat.le_of_ble_eq_true rfl) dL_comeBack_19 (zOk_0 hq)
theorem zw_comeBack : (Cond.static yL_comeBack ∈ WA ∧ Cond.initialized RL ∈ WA ∧ Cond.codeWith yL_comeBack cL_comeBack 4 (some .int) [(0, 9, 12, 13), (0, 9, 15, 17)] ∈ WA) ∧ RL ≠ "java/lang/invoke/MethodHandle" ∧ RL ≠ "java/lang/invoke/VarHandle" ∧ (parseMethodDescriptor yL_comeBack.desc).map (fun d => d.parameters.length) = some 3 := ⟨⟨wd_22_3, wd_5_16, wd_22_4⟩, by decide +kernel, by decide +kernel, by decide +kernel⟩
set_option maxHeartbeats 800000 in
set_option maxRecDepth 100000 in
theorem c_L_nextWaiting (l : Launch) (hlt : l.stackTraces = false) (D : va_G) (y : Nat → ClassId) (a : Nat → Nat) (cap clr : Int32) (t : Nat) (hom mov : Int32) (wm : Int64) (tb tf ts : Int32) (nw : Nat) (wf wt : Nat → Int32) (nb : Nat) (bw bl bi bb : Nat → Int32) (no : Nat) (od ow ol ork ob olf oco : Nat → Int32) (pn pb pm : Int32) (pcd pw pli : Nat → Int32)  (hb8 : no ≤ 8) (o : Nat) (v0 : Nat → Int64) : zWr l D y yL_nextWaiting cL_nextWaiting 3 [(0, 8, 11, 50)] 8 1 6 116 [Value.ref (a 0), Value.ref o] (wB a y cap clr (nI t) hom mov wm tb tf ts (nI nw) wf wt (nI nb) bw bl bi bb (nI no) od ow ol ork ob olf oco pn pb pm pcd pw pli ++ oL y o v0) (fun o9 w9 => zOk (nwC no ob ork ow) (Int32.toInt64 (fI (fW ob ork ow no))) y o v0 (wB a y cap clr (nI t) hom mov wm tb tf ts (nI nw) wf wt (nI nb) bw bl bi bb (nI no) od ow ol ork ob olf oco pn pb pm pcd pw pli) (wB a y cap clr (nI t) hom mov wm tb tf ts (nI nw) wf wt (nI nb) bw bl bi bb (nI no) od ow ol ork ob olf oco pn pb pm pcd pw pli) o9 w9) := by
  refine zWr.of (by decide +kernel) (Nat.le_of_ble_eq_true rfl) ?_
  intro p e s m args below meth c A ls hx hb hr hta hown hlocks hml hex hH hN hK hP hD hS hA hl
  refine z_gen (fun G hG => ?_)
  have hl : lv_has ls 3 [(0, Value.ref (a 0)), (1, Value.ref o)] := hl
  refine lv_aload_n hx hb dL_nextWaiting_0 rfl (lv_at hl 1 rfl) ?_
  refine lv_iconst (v := (0 : Int32)) hx hb dL_nextWaiting_1 (by decide) ?_
  refine lv_aload_n hx hb dL_nextWaiting_2 rfl (lv_at hl 0 rfl) ?_
  refine z_xcallVF (wa := []) (w1 := wB a y cap clr (nI t) hom mov wm tb tf ts (nI nw) wf wt (nI nb) bw bl bi bb (nI no) od ow ol ork ob olf oco pn pb pm pcd pw pli) (wb := oL y o v0) (As := []) (rest := [Value.int 0, Value.ref o]) hx hb hml hown hta zm_X5_nextWaiting wd_23_4 (c_X5_nextWaiting l hlt D y a cap clr t hom mov wm tb tf ts nw wf wt nb bw bl bi bb no od ow ol ork ob olf oco pn pb pm pcd pw pli hb8) hN hK hP hD hS hA 0 rfl rfl rfl hl rfl (Nat.le_of_ble_eq_true rfl) ⟨Nat.le_of_ble_eq_true rfl, Nat.le_of_ble_eq_true rfl⟩ ⟨Nat.le_of_ble_eq_true rfl, Nat.le_of_ble_eq_true rfl⟩ dL_nextWaiting_3 (fun E ce q9 w' H locs hE hP hD hS hc9 hv9 hcl9 => ?_) (fun v w' H locs hq hP hD hS => ?_)
  · obtain ⟨hE, rfl⟩ := hE
    obtain ⟨rfl, hE⟩ := hE
    refine z_catch (a1 := 0) (b1 := 8) (h1 := 11) (k1 := 50) [] [] hown hta hH hN hex rfl (fun _ h => absurd h List.not_mem_nil) (by decide) ⟨by decide, by decide⟩ (by decide) wd_15_8 hc9 hv9 hcl9 ?_
    refine lv_astore_n (lv' := [(2, Value.ref q9), (0, Value.ref (a 0)), (1, Value.ref o)]) hx hb dL_nextWaiting_11 rfl hl (by decide) rfl (fun ls hl => ?_)
    refine lv_iconst (v := (1 : Int32)) hx hb dL_nextWaiting_12 (by decide) ?_
    exact z_iret hG hx hb hr hlocks hP hD hS (Nat.le_of_ble_eq_true rfl) (Nat.le_of_ble_eq_true rfl) dL_nextWaiting_13 (zOk_x hE (by decide) (by decide))
  obtain ⟨hq, rfl, rfl⟩ := hq
  refine lv_i2l (v := Int32.toInt64 (fI (fW ob ork ow no))) hx hb dL_nextWaiting_6 rfl ?_
  refine z_lst hx hb hK hP hD hS dL_nextWaiting_7 (fun H locs hP hD hS => ?_)
  refine lv_goto (tgt := 14) hx hb dL_nextWaiting_8 (by decide) ?_
  refine lv_iconst (v := (0 : Int32)) hx hb dL_nextWaiting_14 (by decide) ?_
  exact z_iret hG hx hb hr hlocks hP hD hS (Nat.le_of_ble_eq_true rfl) (Nat.le_of_ble_eq_true rfl) dL_nextWaiting_15 (zOk_0 hq)
theorem zw_nextWaiting : (Cond.static yL_nextWaiting ∈ WA ∧ Cond.initialized RL ∈ WA ∧ Cond.codeWith yL_nextWaiting cL_nextWaiting 3 (some .int) [(0, 8, 11, 50)] ∈ WA) ∧ RL ≠ "java/lang/invoke/MethodHandle" ∧ RL ≠ "java/lang/invoke/VarHandle" ∧ (parseMethodDescriptor yL_nextWaiting.desc).map (fun d => d.parameters.length) = some 2 := ⟨⟨wd_23_2, wd_5_16, wd_23_3⟩, by decide +kernel, by decide +kernel, by decide +kernel⟩
set_option maxHeartbeats 800000 in
set_option maxRecDepth 100000 in
theorem c_L_state (l : Launch) (hlt : l.stackTraces = false) (D : va_G) (y : Nat → ClassId) (a : Nat → Nat) (cap clr : Int32) (t : Nat) (hom mov : Int32) (wm : Int64) (tb tf ts : Int32) (nw : Nat) (wf wt : Nat → Int32) (nb : Nat) (bw bl bi bb : Nat → Int32) (no : Nat) (od ow ol ork ob olf oco : Nat → Int32) (pn pb pm : Int32) (pcd pw pli : Nat → Int32) (b : Int32) (hb8 : no ≤ 8) (o : Nat) (v0 : Nat → Int64) : zWr l D y yL_state cL_state 4 [(0, 9, 12, 13)] 9 1 6 137 [Value.ref (a 0), Value.int b, Value.ref o] (wB a y cap clr (nI t) hom mov wm tb tf ts (nI nw) wf wt (nI nb) bw bl bi bb (nI no) od ow ol ork ob olf oco pn pb pm pcd pw pli ++ oL y o v0) (fun o9 w9 => zOk (boC no b) (Int32.toInt64 (stF ob (nN b))) y o v0 (wB a y cap clr (nI t) hom mov wm tb tf ts (nI nw) wf wt (nI nb) bw bl bi bb (nI no) od ow ol ork ob olf oco pn pb pm pcd pw pli) (wB a y cap clr (nI t) hom mov wm tb tf ts (nI nw) wf wt (nI nb) bw bl bi bb (nI no) od ow ol ork ob olf oco pn pb pm pcd pw pli) o9 w9) := by
  refine zWr.of (by decide +kernel) (Nat.le_of_ble_eq_true rfl) ?_
  intro p e s m args below meth c A ls hx hb hr hta hown hlocks hml hex hH hN hK hP hD hS hA hl
  refine z_gen (fun G hG => ?_)
  have hl : lv_has ls 4 [(0, Value.ref (a 0)), (1, Value.int b), (2, Value.ref o)] := hl
  refine lv_aload_n hx hb dL_state_0 rfl (lv_at hl 2 rfl) ?_
  refine lv_iconst (v := (0 : Int32)) hx hb dL_state_1 (by decide) ?_
  refine lv_aload_n hx hb dL_state_2 rfl (lv_at hl 0 rfl) ?_
  refine lv_iload_n hx hb dL_state_3 rfl (lv_at hl 1 rfl) ?_
  refine z_xcallVF (wa := []) (w1 := wB a y cap clr (nI t) hom mov wm tb tf ts (nI nw) wf wt (nI nb) bw bl bi bb (nI no) od ow ol ork ob olf oco pn pb pm pcd pw pli) (wb := oL y o v0) (As := [Value.int b]) (rest := [Value.int 0, Value.ref o]) hx hb hml hown hta zm_X5_state wd_24_0 (c_X5_state l hlt D y a cap clr t hom mov wm tb tf ts nw wf wt nb bw bl bi bb no od ow ol ork ob olf oco pn pb pm pcd pw pli b hb8) hN hK hP hD hS hA 0 rfl rfl rfl hl rfl (Nat.le_of_ble_eq_true rfl) ⟨Nat.le_of_ble_eq_true rfl, Nat.le_of_ble_eq_true rfl⟩ ⟨Nat.le_of_ble_eq_true rfl, Nat.le_of_ble_eq_true rfl⟩ dL_state_4 (fun E ce q9 w' H locs hE hP hD hS hc9 hv9 hcl9 => ?_) (fun v w' H locs hq hP hD hS => ?_)
  · obtain ⟨hE, rfl⟩ := hE
    obtain ⟨rfl, hE⟩ := hE
    refine z_catch (a1 := 0) (b1 := 9) (h1 := 12) (k1 := 13) [] [] hown hta hH hN hex rfl (fun _ h => absurd h List.not_mem_nil) (by decide) ⟨by decide, by decide⟩ (by decide) wd_5_18 hc9 hv9 hcl9 ?_
    refine lv_astore_n (lv' := [(3, Value.ref q9), (0, Value.ref (a 0)), (1, Value.int b), (2, Value.ref o)]) hx hb dL_state_12 rfl hl (by decide) rfl (fun ls hl => ?_)
    refine lv_iconst (v := (1 : Int32)) hx hb dL_state_13 (by decide) ?_
    exact z_iret hG hx hb hr hlocks hP hD hS (Nat.le_of_ble_eq_true rfl) (Nat.le_of_ble_eq_true rfl) dL_state_14 (zOk_x hE (by decide) (by decide))
  obtain ⟨hq, rfl, rfl⟩ := hq
  refine lv_i2l (v := Int32.toInt64 (stF ob (nN b))) hx hb dL_state_7 rfl ?_
  refine z_lst hx hb hK hP hD hS dL_state_8 (fun H locs hP hD hS => ?_)
  refine lv_goto (tgt := 15) hx hb dL_state_9 (by decide) ?_
  refine lv_iconst (v := (0 : Int32)) hx hb dL_state_15 (by decide) ?_
  exact z_iret hG hx hb hr hlocks hP hD hS (Nat.le_of_ble_eq_true rfl) (Nat.le_of_ble_eq_true rfl) dL_state_16 (zOk_0 hq)
theorem zw_state : (Cond.static yL_state ∈ WA ∧ Cond.initialized RL ∈ WA ∧ Cond.codeWith yL_state cL_state 4 (some .int) [(0, 9, 12, 13)] ∈ WA) ∧ RL ≠ "java/lang/invoke/MethodHandle" ∧ RL ≠ "java/lang/invoke/VarHandle" ∧ (parseMethodDescriptor yL_state.desc).map (fun d => d.parameters.length) = some 3 := ⟨⟨wd_23_22, wd_5_16, wd_23_23⟩, by decide +kernel, by decide +kernel, by decide +kernel⟩
set_option maxHeartbeats 800000 in
set_option maxRecDepth 100000 in
theorem c_L_berthOf (l : Launch) (hlt : l.stackTraces = false) (D : va_G) (y : Nat → ClassId) (a : Nat → Nat) (cap clr : Int32) (t : Nat) (hom mov : Int32) (wm : Int64) (tb tf ts : Int32) (nw : Nat) (wf wt : Nat → Int32) (nb : Nat) (bw bl bi bb : Nat → Int32) (no : Nat) (od ow ol ork ob olf oco : Nat → Int32) (pn pb pm : Int32) (pcd pw pli : Nat → Int32) (b : Int32) (hb8 : no ≤ 8) (hb6 : nb ≤ 6) (o : Nat) (v0 : Nat → Int64) : zWr l D y yL_berthOf cL_berthOf 4 [(0, 9, 12, 13), (0, 9, 15, 50)] 9 2 12 137 [Value.ref (a 0), Value.int b, Value.ref o] (wB a y cap clr (nI t) hom mov wm tb tf ts (nI nw) wf wt (nI nb) bw bl bi bb (nI no) od ow ol ork ob olf oco pn pb pm pcd pw pli ++ oL y o v0) (fun o9 w9 => zOk (beC no nb ob b) (Int32.toInt64 (ob (nN b))) y o v0 (wB a y cap clr (nI t) hom mov wm tb tf ts (nI nw) wf wt (nI nb) bw bl bi bb (nI no) od ow ol ork ob olf oco pn pb pm pcd pw pli) (wB a y cap clr (nI t) hom mov wm tb tf ts (nI nw) wf wt (nI nb) bw bl bi bb (nI no) od ow ol ork ob olf oco pn pb pm pcd pw pli) o9 w9) := by
  refine zWr.of (by decide +kernel) (Nat.le_of_ble_eq_true rfl) ?_
  intro p e s m args below meth c A ls hx hb hr hta hown hlocks hml hex hH hN hK hP hD hS hA hl
  refine z_gen (fun G hG => ?_)
  have hl : lv_has ls 4 [(0, Value.ref (a 0)), (1, Value.int b), (2, Value.ref o)] := hl
  refine lv_aload_n hx hb dL_berthOf_0 rfl (lv_at hl 2 rfl) ?_
  refine lv_iconst (v := (0 : Int32)) hx hb dL_berthOf_1 (by decide) ?_
  refine lv_aload_n hx hb dL_berthOf_2 rfl (lv_at hl 0 rfl) ?_
  refine lv_iload_n hx hb dL_berthOf_3 rfl (lv_at hl 1 rfl) ?_
  refine z_xcallVF (wa := []) (w1 := wB a y cap clr (nI t) hom mov wm tb tf ts (nI nw) wf wt (nI nb) bw bl bi bb (nI no) od ow ol ork ob olf oco pn pb pm pcd pw pli) (wb := oL y o v0) (As := [Value.int b]) (rest := [Value.int 0, Value.ref o]) hx hb hml hown hta zm_X5_berthOf wd_24_11 (c_X5_berthOf l hlt D y a cap clr t hom mov wm tb tf ts nw wf wt nb bw bl bi bb no od ow ol ork ob olf oco pn pb pm pcd pw pli b hb8 hb6) hN hK hP hD hS hA 0 rfl rfl rfl hl rfl (Nat.le_of_ble_eq_true rfl) ⟨Nat.le_of_ble_eq_true rfl, Nat.le_of_ble_eq_true rfl⟩ ⟨Nat.le_of_ble_eq_true rfl, Nat.le_of_ble_eq_true rfl⟩ dL_berthOf_4 (fun E ce q9 w' H locs hE hP hD hS hc9 hv9 hcl9 => ?_) (fun v w' H locs hq hP hD hS => ?_)
  · obtain ⟨hE, rfl⟩ := hE
    rcases hE with ⟨rfl, hE⟩ | ⟨rfl, hE⟩
    · refine z_catch (a1 := 0) (b1 := 9) (h1 := 12) (k1 := 13) [] [(0, 9, 15, 50)] hown hta hH hN hex rfl (fun _ h => absurd h List.not_mem_nil) (by decide) ⟨by decide, by decide⟩ (by decide) wd_5_18 hc9 hv9 hcl9 ?_
      refine lv_astore_n (lv' := [(3, Value.ref q9), (0, Value.ref (a 0)), (1, Value.int b), (2, Value.ref o)]) hx hb dL_berthOf_12 rfl hl (by decide) rfl (fun ls hl => ?_)
      refine lv_iconst (v := (1 : Int32)) hx hb dL_berthOf_13 (by decide) ?_
      exact z_iret hG hx hb hr hlocks hP hD hS (Nat.le_of_ble_eq_true rfl) (Nat.le_of_ble_eq_true rfl) dL_berthOf_14 (zOk_x hE (by decide) (by decide))
    · refine z_catch (a1 := 0) (b1 := 9) (h1 := 15) (k1 := 50) [(0, 9, 12, 13)] [] hown hta hH hN hex rfl (List.forall_mem_cons.mpr ⟨⟨by decide, "java/lang/IndexOutOfBoundsException", by decide, by decide, wd_5_18⟩, fun _ h => absurd h List.not_mem_nil⟩) (by decide) ⟨by decide, by decide⟩ (by decide) wd_15_8 hc9 hv9 hcl9 ?_
      refine lv_astore_n (lv' := [(3, Value.ref q9), (0, Value.ref (a 0)), (1, Value.int b), (2, Value.ref o)]) hx hb dL_berthOf_15 rfl hl (by decide) rfl (fun ls hl => ?_)
      refine lv_iconst (v := (2 : Int32)) hx hb dL_berthOf_16 (by decide) ?_
      exact z_iret hG hx hb hr hlocks hP hD hS (Nat.le_of_ble_eq_true rfl) (Nat.le_of_ble_eq_true rfl) dL_berthOf_17 (zOk_x hE (by decide) (by decide))
  obtain ⟨hq, rfl, rfl⟩ := hq
  refine lv_i2l (v := Int32.toInt64 (ob (nN b))) hx hb dL_berthOf_7 rfl ?_
  refine z_lst hx hb hK hP hD hS dL_berthOf_8 (fun H locs hP hD hS => ?_)
  refine lv_goto (tgt := 18) hx hb dL_berthOf_9 (by decide) ?_
  refine lv_iconst (v := (0 : Int32)) hx hb dL_berthOf_18 (by decide) ?_
  exact z_iret hG hx hb hr hlocks hP hD hS (Nat.le_of_ble_eq_true rfl) (Nat.le_of_ble_eq_true rfl) dL_berthOf_19 (zOk_0 hq)
theorem zw_berthOf : (Cond.static yL_berthOf ∈ WA ∧ Cond.initialized RL ∈ WA ∧ Cond.codeWith yL_berthOf cL_berthOf 4 (some .int) [(0, 9, 12, 13), (0, 9, 15, 50)] ∈ WA) ∧ RL ≠ "java/lang/invoke/MethodHandle" ∧ RL ≠ "java/lang/invoke/VarHandle" ∧ (parseMethodDescriptor yL_berthOf.desc).map (fun d => d.parameters.length) = some 3 := ⟨⟨wd_24_9, wd_5_16, wd_24_10⟩, by decide +kernel, by decide +kernel, by decide +kernel⟩
set_option maxHeartbeats 800000 in
set_option maxRecDepth 100000 in
theorem c_L_boatIn (l : Launch) (hlt : l.stackTraces = false) (D : va_G) (y : Nat → ClassId) (a : Nat → Nat) (cap clr : Int32) (t : Nat) (hom mov : Int32) (wm : Int64) (tb tf ts : Int32) (nw : Nat) (wf wt : Nat → Int32) (nb : Nat) (bw bl bi bb : Nat → Int32) (no : Nat) (od ow ol ork ob olf oco : Nat → Int32) (pn pb pm : Int32) (pcd pw pli : Nat → Int32) (b : Int32) (hb6 : nb ≤ 6) (o : Nat) (v0 : Nat → Int64) : zWr l D y yL_boatIn cL_boatIn 4 [(0, 9, 12, 13), (0, 9, 15, 50)] 9 2 12 137 [Value.ref (a 0), Value.int b, Value.ref o] (wB a y cap clr (nI t) hom mov wm tb tf ts (nI nw) wf wt (nI nb) bw bl bi bb (nI no) od ow ol ork ob olf oco pn pb pm pcd pw pli ++ oL y o v0) (fun o9 w9 => zOk (bnC nb bb b) (Int32.toInt64 (bb (nN b))) y o v0 (wB a y cap clr (nI t) hom mov wm tb tf ts (nI nw) wf wt (nI nb) bw bl bi bb (nI no) od ow ol ork ob olf oco pn pb pm pcd pw pli) (wB a y cap clr (nI t) hom mov wm tb tf ts (nI nw) wf wt (nI nb) bw bl bi bb (nI no) od ow ol ork ob olf oco pn pb pm pcd pw pli) o9 w9) := by
  refine zWr.of (by decide +kernel) (Nat.le_of_ble_eq_true rfl) ?_
  intro p e s m args below meth c A ls hx hb hr hta hown hlocks hml hex hH hN hK hP hD hS hA hl
  refine z_gen (fun G hG => ?_)
  have hl : lv_has ls 4 [(0, Value.ref (a 0)), (1, Value.int b), (2, Value.ref o)] := hl
  refine lv_aload_n hx hb dL_boatIn_0 rfl (lv_at hl 2 rfl) ?_
  refine lv_iconst (v := (0 : Int32)) hx hb dL_boatIn_1 (by decide) ?_
  refine lv_aload_n hx hb dL_boatIn_2 rfl (lv_at hl 0 rfl) ?_
  refine lv_iload_n hx hb dL_boatIn_3 rfl (lv_at hl 1 rfl) ?_
  refine z_xcallVF (wa := []) (w1 := wB a y cap clr (nI t) hom mov wm tb tf ts (nI nw) wf wt (nI nb) bw bl bi bb (nI no) od ow ol ork ob olf oco pn pb pm pcd pw pli) (wb := oL y o v0) (As := [Value.int b]) (rest := [Value.int 0, Value.ref o]) hx hb hml hown hta zm_X5_boatIn wd_24_22 (c_X5_boatIn l hlt D y a cap clr t hom mov wm tb tf ts nw wf wt nb bw bl bi bb no od ow ol ork ob olf oco pn pb pm pcd pw pli b hb6) hN hK hP hD hS hA 0 rfl rfl rfl hl rfl (Nat.le_of_ble_eq_true rfl) ⟨Nat.le_of_ble_eq_true rfl, Nat.le_of_ble_eq_true rfl⟩ ⟨Nat.le_of_ble_eq_true rfl, Nat.le_of_ble_eq_true rfl⟩ dL_boatIn_4 (fun E ce q9 w' H locs hE hP hD hS hc9 hv9 hcl9 => ?_) (fun v w' H locs hq hP hD hS => ?_)
  · obtain ⟨hE, rfl⟩ := hE
    rcases hE with ⟨rfl, hE⟩ | ⟨rfl, hE⟩
    · refine z_catch (a1 := 0) (b1 := 9) (h1 := 12) (k1 := 13) [] [(0, 9, 15, 50)] hown hta hH hN hex rfl (fun _ h => absurd h List.not_mem_nil) (by decide) ⟨by decide, by decide⟩ (by decide) wd_5_18 hc9 hv9 hcl9 ?_
      refine lv_astore_n (lv' := [(3, Value.ref q9), (0, Value.ref (a 0)), (1, Value.int b), (2, Value.ref o)]) hx hb dL_boatIn_12 rfl hl (by decide) rfl (fun ls hl => ?_)
      refine lv_iconst (v := (1 : Int32)) hx hb dL_boatIn_13 (by decide) ?_
      exact z_iret hG hx hb hr hlocks hP hD hS (Nat.le_of_ble_eq_true rfl) (Nat.le_of_ble_eq_true rfl) dL_boatIn_14 (zOk_x hE (by decide) (by decide))
    · refine z_catch (a1 := 0) (b1 := 9) (h1 := 15) (k1 := 50) [(0, 9, 12, 13)] [] hown hta hH hN hex rfl (List.forall_mem_cons.mpr ⟨⟨by decide, "java/lang/IndexOutOfBoundsException", by decide, by decide, wd_5_18⟩, fun _ h => absurd h List.not_mem_nil⟩) (by decide) ⟨by decide, by decide⟩ (by decide) wd_15_8 hc9 hv9 hcl9 ?_
      refine lv_astore_n (lv' := [(3, Value.ref q9), (0, Value.ref (a 0)), (1, Value.int b), (2, Value.ref o)]) hx hb dL_boatIn_15 rfl hl (by decide) rfl (fun ls hl => ?_)
      refine lv_iconst (v := (2 : Int32)) hx hb dL_boatIn_16 (by decide) ?_
      exact z_iret hG hx hb hr hlocks hP hD hS (Nat.le_of_ble_eq_true rfl) (Nat.le_of_ble_eq_true rfl) dL_boatIn_17 (zOk_x hE (by decide) (by decide))
  obtain ⟨hq, rfl, rfl⟩ := hq
  refine lv_i2l (v := Int32.toInt64 (bb (nN b))) hx hb dL_boatIn_7 rfl ?_
  refine z_lst hx hb hK hP hD hS dL_boatIn_8 (fun H locs hP hD hS => ?_)
  refine lv_goto (tgt := 18) hx hb dL_boatIn_9 (by decide) ?_
  refine lv_iconst (v := (0 : Int32)) hx hb dL_boatIn_18 (by decide) ?_
  exact z_iret hG hx hb hr hlocks hP hD hS (Nat.le_of_ble_eq_true rfl) (Nat.le_of_ble_eq_true rfl) dL_boatIn_19 (zOk_0 hq)
theorem zw_boatIn : (Cond.static yL_boatIn ∈ WA ∧ Cond.initialized RL ∈ WA ∧ Cond.codeWith yL_boatIn cL_boatIn 4 (some .int) [(0, 9, 12, 13), (0, 9, 15, 50)] ∈ WA) ∧ RL ≠ "java/lang/invoke/MethodHandle" ∧ RL ≠ "java/lang/invoke/VarHandle" ∧ (parseMethodDescriptor yL_boatIn.desc).map (fun d => d.parameters.length) = some 3 := ⟨⟨wd_24_20, wd_5_16, wd_24_21⟩, by decide +kernel, by decide +kernel, by decide +kernel⟩
