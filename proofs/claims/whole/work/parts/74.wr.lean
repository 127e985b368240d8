set_option maxHeartbeats 800000 in
set_option maxRecDepth 100000 in
theorem c_L_paint (l : Launch) (hlt : l.stackTraces = false) (D : va_G) (y : Nat → ClassId) (a : Nat → Nat) (cap clr : Int32) (t : Nat) (hom mov : Int32) (wm : Int64) (tb tf ts : Int32) (nw : Nat) (wf wt : Nat → Int32) (nb : Nat) (bw bl bi bb : Nat → Int32) (no : Nat) (od ow ol ork ob olf oco : Nat → Int32) (pn pb pm : Int32) (pcd pw pli : Nat → Int32) (b : Int32) (h : Int32) (hb8 : no ≤ 8) (hb6 : nb ≤ 6) (hw : nw ≤ 6) (o : Nat) (v0 : Nat → Int64) : zWr l D y yL_paint cL_paint 5 [(0, 10, 13, 13), (0, 10, 17, 15), (0, 10, 21, 17)] 9 2 12 138 [Value.ref (a 0), Value.int b, Value.int h, Value.ref o] (wB a y cap clr (nI t) hom mov wm tb tf ts (nI nw) wf wt (nI nb) bw bl bi bb (nI no) od ow ol ork ob olf oco pn pb pm pcd pw pli ++ oL y o v0) (fun o9 w9 => zOk (paC no nb (badF wf wt nw (nI t)) ob olf b h) (Int32.toInt64 (oco (nN b) + (1 : Int32))) y o v0 (wB a y cap clr (nI t) hom mov wm tb tf ts (nI nw) wf wt (nI nb) bw bl bi bb (nI no) od ow ol ork ob (upd olf (nN b) h) (upd oco (nN b) (oco (nN b) + (1 : Int32))) pn pb pm pcd pw pli) (wB a y cap clr (nI t) hom mov wm tb tf ts (nI nw) wf wt (nI nb) bw bl bi bb (nI no) od ow ol ork ob olf oco pn pb pm pcd pw pli) o9 w9) := by
  refine zWr.of (by decide +kernel) (Nat.le_of_ble_eq_true rfl) ?_
  intro p e s m args below meth c A ls hx hb hr hta hown hlocks hml hex hH hN hK hP hD hS hA hl
  refine z_gen (fun G hG => ?_)
  have hl : lv_has ls 5 [(0, Value.ref (a 0)), (1, Value.int b), (2, Value.int h), (3, Value.ref o)] := hl
  refine lv_aload_n hx hb dL_paint_0 rfl (lv_at hl 3 rfl) ?_
  refine lv_iconst (v := (0 : Int32)) hx hb dL_paint_1 (by decide) ?_
  refine lv_aload_n hx hb dL_paint_2 rfl (lv_at hl 0 rfl) ?_
  refine lv_iload_n hx hb dL_paint_3 rfl (lv_at hl 1 rfl) ?_
  refine lv_iload_n hx hb dL_paint_4 rfl (lv_at hl 2 rfl) ?_
  refine z_xcallVF (wa := []) (w1 := wB a y cap clr (nI t) hom mov wm tb tf ts (nI nw) wf wt (nI nb) bw bl bi bb (nI no) od ow ol ork ob olf oco pn pb pm pcd pw pli) (wb := oL y o v0) (As := [Value.int b, Value.int h]) (rest := [Value.int 0, Value.ref o]) hx hb hml hown hta zm_X5_paint wd_25_9 (c_X5_paint l hlt D y a cap clr t hom mov wm tb tf ts nw wf wt nb bw bl bi bb no od ow ol ork ob olf oco pn pb pm pcd pw pli b h hb8 hb6 hw) hN hK hP hD hS hA 0 rfl rfl rfl hl rfl (Nat.le_of_ble_eq_true rfl) ⟨Nat.le_of_ble_eq_true rfl, Nat.le_of_ble_eq_true rfl⟩ ⟨Nat.le_of_ble_eq_true rfl, Nat.le_of_ble_eq_true rfl⟩ dL_paint_5 (fun E ce q9 w' H locs hE hP hD hS hc9 hv9 hcl9 => ?_) (fun v w' H locs hq hP hD hS => ?_)
  · obtain ⟨hE, rfl⟩ := hE
    rcases hE with ⟨rfl, hE⟩ | ⟨rfl, hE⟩ | ⟨rfl, hE⟩
    · refine z_catch (a1 := 0) (b1 := 10) (h1 := 13) (k1 := 13) [] [(0, 10, 17, 15), (0, 10, 21, 17)] hown hta hH hN hex rfl (fun _ h => absurd h List.not_mem_nil) (by decide) ⟨by decide, by decide⟩ (by decide) wd_5_18 hc9 hv9 hcl9 ?_
      refine lv_astore (lv' := [(4, Value.ref q9), (0, Value.ref (a 0)), (1, Value.int b), (2, Value.int h), (3, Value.ref o)]) hx hb dL_paint_13 hl (by decide) rfl (fun ls hl => ?_)
      refine lv_iconst (v := (1 : Int32)) hx hb dL_paint_15 (by decide) ?_
      exact z_iret hG hx hb hr hlocks hP hD hS (Nat.le_of_ble_eq_true rfl) (Nat.le_of_ble_eq_true rfl) dL_paint_16 (zOk_x hE (by decide) (by decide))
    · refine z_catch (a1 := 0) (b1 := 10) (h1 := 17) (k1 := 15) [(0, 10, 13, 13)] [(0, 10, 21, 17)] hown hta hH hN hex rfl (List.forall_mem_cons.mpr ⟨⟨by decide, "java/lang/IndexOutOfBoundsException", by decide, by decide, wd_5_18⟩, fun _ h => absurd h List.not_mem_nil⟩) (by decide) ⟨by decide, by decide⟩ (by decide) wd_5_19 hc9 hv9 hcl9 ?_
      refine lv_astore (lv' := [(4, Value.ref q9), (0, Value.ref (a 0)), (1, Value.int b), (2, Value.int h), (3, Value.ref o)]) hx hb dL_paint_17 hl (by decide) rfl (fun ls hl => ?_)
      refine lv_iconst (v := (2 : Int32)) hx hb dL_paint_19 (by decide) ?_
      exact z_iret hG hx hb hr hlocks hP hD hS (Nat.le_of_ble_eq_true rfl) (Nat.le_of_ble_eq_true rfl) dL_paint_20 (zOk_x hE (by decide) (by decide))
    · refine z_catch (a1 := 0) (b1 := 10) (h1 := 21) (k1 := 17) [(0, 10, 13, 13), (0, 10, 17, 15)] [] hown hta hH hN hex rfl (List.forall_mem_cons.mpr ⟨⟨by decide, "java/lang/IndexOutOfBoundsException", by decide, by decide, wd_5_18⟩, List.forall_mem_cons.mpr ⟨⟨by decide, "java/lang/IllegalArgumentException", by decide, by decide, wd_5_19⟩, fun _ h => absurd h List.not_mem_nil⟩⟩) (by decide) ⟨by decide, by decide⟩ (by decide) wd_5_20 hc9 hv9 hcl9 ?_
      refine lv_astore (lv' := [(4, Value.ref q9), (0, Value.ref (a 0)), (1, Value.int b), (2, Value.int h), (3, Value.ref o)]) hx hb dL_paint_21 hl (by decide) rfl (fun ls hl => ?_)
      refine lv_iconst (v := (3 : Int32)) hx hb dL_paint_23 (by decide) ?_
      exact z_iret hG hx hb hr hlocks hP hD hS (Nat.le_of_ble_eq_true rfl) (Nat.le_of_ble_eq_true rfl) dL_paint_24 (zOk_x hE (by decide) (by decide))
  obtain ⟨hq, rfl, rfl⟩ := hq
  refine lv_i2l (v := Int32.toInt64 (oco (nN b) + (1 : Int32))) hx hb dL_paint_8 rfl ?_
  refine z_lst hx hb hK hP hD hS dL_paint_9 (fun H locs hP hD hS => ?_)
  refine lv_goto (tgt := 25) hx hb dL_paint_10 (by decide) ?_
  refine lv_iconst (v := (0 : Int32)) hx hb dL_paint_25 (by decide) ?_
  exact z_iret hG hx hb hr hlocks hP hD hS (Nat.le_of_ble_eq_true rfl) (Nat.le_of_ble_eq_true rfl) dL_paint_26 (zOk_0 hq)
theorem zw_paint : (Cond.static yL_paint ∈ WA ∧ Cond.initialized RL ∈ WA ∧ Cond.codeWith yL_paint cL_paint 5 (some .int) [(0, 10, 13, 13), (0, 10, 17, 15), (0, 10, 21, 17)] ∈ WA) ∧ RL ≠ "java/lang/invoke/MethodHandle" ∧ RL ≠ "java/lang/invoke/VarHandle" ∧ (parseMethodDescriptor yL_paint.desc).map (fun d => d.parameters.length) = some 4 := ⟨⟨wd_25_7, wd_5_16, wd_25_8⟩, by decide +kernel, by decide +kernel, by decide +kernel⟩
set_option maxHeartbeats 800000 in
set_option maxRecDepth 100000 in
theorem c_L_dryLeft (l : Launch) (hlt : l.stackTraces = false) (D : va_G) (y : Nat → ClassId) (a : Nat → Nat) (cap clr : Int32) (t : Nat) (hom mov : Int32) (wm : Int64) (tb tf ts : Int32) (nw : Nat) (wf wt : Nat → Int32) (nb : Nat) (bw bl bi bb : Nat → Int32) (no : Nat) (od ow ol ork ob olf oco : Nat → Int32) (pn pb pm : Int32) (pcd pw pli : Nat → Int32) (b : Int32) (hb8 : no ≤ 8) (o : Nat) (v0 : Nat → Int64) : zWr l D y yL_dryLeft cL_dryLeft 4 [(0, 9, 12, 13)] 9 1 6 137 [Value.ref (a 0), Value.int b, Value.ref o] (wB a y cap clr (nI t) hom mov wm tb tf ts (nI nw) wf wt (nI nb) bw bl bi bb (nI no) od ow ol ork ob olf oco pn pb pm pcd pw pli ++ oL y o v0) (fun o9 w9 => zOk (boC no b) (Int32.toInt64 (olf (nN b))) y o v0 (wB a y cap clr (nI t) hom mov wm tb tf ts (nI nw) wf wt (nI nb) bw bl bi bb (nI no) od ow ol ork ob olf oco pn pb pm pcd pw pli) (wB a y cap clr (nI t) hom mov wm tb tf ts (nI nw) wf wt (nI nb) bw bl bi bb (nI no) od ow ol ork ob olf oco pn pb pm pcd pw pli) o9 w9) := by
  refine zWr.of (by decide +kernel) (Nat.le_of_ble_eq_true rfl) ?_
  intro p e s m args below meth c A ls hx hb hr hta hown hlocks hml hex hH hN hK hP hD hS hA hl
  refine z_gen (fun G hG => ?_)
  have hl : lv_has ls 4 [(0, Value.ref (a 0)), (1, Value.int b), (2, Value.ref o)] := hl
  refine lv_aload_n hx hb dL_dryLeft_0 rfl (lv_at hl 2 rfl) ?_
  refine lv_iconst (v := (0 : Int32)) hx hb dL_dryLeft_1 (by decide) ?_
  refine lv_aload_n hx hb dL_dryLeft_2 rfl (lv_at hl 0 rfl) ?_
  refine lv_iload_n hx hb dL_dryLeft_3 rfl (lv_at hl 1 rfl) ?_
  refine z_xcallVF (wa := []) (w1 := wB a y cap clr (nI t) hom mov wm tb tf ts (nI nw) wf wt (nI nb) bw bl bi bb (nI no) od ow ol ork ob olf oco pn pb pm pcd pw pli) (wb := oL y o v0) (As := [Value.int b]) (rest := [Value.int 0, Value.ref o]) hx hb hml hown hta zm_X5_dryLeft wd_25_21 (c_X5_dryLeft l hlt D y a cap clr t hom mov wm tb tf ts nw wf wt nb bw bl bi bb no od ow ol ork ob olf oco pn pb pm pcd pw pli b hb8) hN hK hP hD hS hA 0 rfl rfl rfl hl rfl (Nat.le_of_ble_eq_true rfl) ⟨Nat.le_of_ble_eq_true rfl, Nat.le_of_ble_eq_true rfl⟩ ⟨Nat.le_of_ble_eq_true rfl, Nat.le_of_ble_eq_true rfl⟩ dL_dryLeft_4 (fun E ce q9 w' H locs hE hP hD hS hc9 hv9 hcl9 => ?_) (fun v w' H locs hq hP hD hS => ?_)
  · obtain ⟨hE, rfl⟩ := hE
    obtain ⟨rfl, hE⟩ := hE
    refine z_catch (a1 := 0) (b1 := 9) (h1 := 12) (k1 := 13) [] [] hown hta hH hN hex rfl (fun _ h => absurd h List.not_mem_nil) (by decide) ⟨by decide, by decide⟩ (by decide) wd_5_18 hc9 hv9 hcl9 ?_
    refine lv_astore_n (lv' := [(3, Value.ref q9), (0, Value.ref (a 0)), (1, Value.int b), (2, Value.ref o)]) hx hb dL_dryLeft_12 rfl hl (by decide) rfl (fun ls hl => ?_)
    refine lv_iconst (v := (1 : Int32)) hx hb dL_dryLeft_13 (by decide) ?_
    exact z_iret hG hx hb hr hlocks hP hD hS (Nat.le_of_ble_eq_true rfl) (Nat.le_of_ble_eq_true rfl) dL_dryLeft_14 (zOk_x hE (by decide) (by decide))
  obtain ⟨hq, rfl, rfl⟩ := hq
  refine lv_i2l (v := Int32.toInt64 (olf (nN b))) hx hb dL_dryLeft_7 rfl ?_
  refine z_lst hx hb hK hP hD hS dL_dryLeft_8 (fun H locs hP hD hS => ?_)
  refine lv_goto (tgt := 15) hx hb dL_dryLeft_9 (by decide) ?_
  refine lv_iconst (v := (0 : Int32)) hx hb dL_dryLeft_15 (by decide) ?_
  exact z_iret hG hx hb hr hlocks hP hD hS (Nat.le_of_ble_eq_true rfl) (Nat.le_of_ble_eq_true rfl) dL_dryLeft_16 (zOk_0 hq)
theorem zw_dryLeft : (Cond.static yL_dryLeft ∈ WA ∧ Cond.initialized RL ∈ WA ∧ Cond.codeWith yL_dryLeft cL_dryLeft 4 (some .int) [(0, 9, 12, 13)] ∈ WA) ∧ RL ≠ "java/lang/invoke/MethodHandle" ∧ RL ≠ "java/lang/invoke/VarHandle" ∧ (parseMethodDescriptor yL_dryLeft.desc).map (fun d => d.parameters.length) = some 3 := ⟨⟨wd_25_19, wd_5_16, wd_25_20⟩, by decide +kernel, by decide +kernel, by decide +kernel⟩
set_option maxHeartbeats 800000 in
set_option maxRecDepth 100000 in
theorem c_L_dryAt (l : Launch) (hlt : l.stackTraces = false) (D : va_G) (y : Nat → ClassId) (a : Nat → Nat) (cap clr : Int32) (t : Nat) (hom mov : Int32) (wm : Int64) (tb tf ts : Int32) (nw : Nat) (wf wt : Nat → Int32) (nb : Nat) (bw bl bi bb : Nat → Int32) (no : Nat) (od ow ol ork ob olf oco : Nat → Int32) (pn pb pm : Int32) (pcd pw pli : Nat → Int32) (b : Int32) (hb8 : no ≤ 8) (hw : nw ≤ 6) (hsp : spOk wf wt nw) (ht : t ≤ 9999) (hol : ∀ j, j < 8 → ∃ L, L ≤ 48 ∧ olf j = nI L) (o : Nat) (v0 : Nat → Int64) : zWr l D y yL_dryAt cL_dryAt 4 [(0, 9, 12, 13)] 9 2 12 137 [Value.ref (a 0), Value.int b, Value.ref o] (wB a y cap clr (nI t) hom mov wm tb tf ts (nI nw) wf wt (nI nb) bw bl bi bb (nI no) od ow ol ork ob olf oco pn pb pm pcd pw pli ++ oL y o v0) (fun o9 w9 => zOk (boC no b) (Int32.toInt64 (nI (dryV wf wt nw t (olf (nN b))))) y o v0 (wB a y cap clr (nI t) hom mov wm tb tf ts (nI nw) wf wt (nI nb) bw bl bi bb (nI no) od ow ol ork ob olf oco pn pb pm pcd pw pli) (wB a y cap clr (nI t) hom mov wm tb tf ts (nI nw) wf wt (nI nb) bw bl bi bb (nI no) od ow ol ork ob olf oco pn pb pm pcd pw pli) o9 w9) := by
  refine zWr.of (by decide +kernel) (Nat.le_of_ble_eq_true rfl) ?_
  intro p e s m args below meth c A ls hx hb hr hta hown hlocks hml hex hH hN hK hP hD hS hA hl
  refine z_gen (fun G hG => ?_)
  have hl : lv_has ls 4 [(0, Value.ref (a 0)), (1, Value.int b), (2, Value.ref o)] := hl
  refine lv_aload_n hx hb dL_dryAt_0 rfl (lv_at hl 2 rfl) ?_
  refine lv_iconst (v := (0 : Int32)) hx hb dL_dryAt_1 (by decide) ?_
  refine lv_aload_n hx hb dL_dryAt_2 rfl (lv_at hl 0 rfl) ?_
  refine lv_iload_n hx hb dL_dryAt_3 rfl (lv_at hl 1 rfl) ?_
  refine z_xcallVF (wa := []) (w1 := wB a y cap clr (nI t) hom mov wm tb tf ts (nI nw) wf wt (nI nb) bw bl bi bb (nI no) od ow ol ork ob olf oco pn pb pm pcd pw pli) (wb := oL y o v0) (As := [Value.int b]) (rest := [Value.int 0, Value.ref o]) hx hb hml hown hta zm_X5_dryAt wd_26_8 (c_X5_dryAt l hlt D y a cap clr t hom mov wm tb tf ts nw wf wt nb bw bl bi bb no od ow ol ork ob olf oco pn pb pm pcd pw pli b hb8 hw hsp ht hol) hN hK hP hD hS hA 0 rfl rfl rfl hl rfl (Nat.le_of_ble_eq_true rfl) ⟨Nat.le_of_ble_eq_true rfl, Nat.le_of_ble_eq_true rfl⟩ ⟨Nat.le_of_ble_eq_true rfl, Nat.le_of_ble_eq_true rfl⟩ dL_dryAt_4 (fun E ce q9 w' H locs hE hP hD hS hc9 hv9 hcl9 => ?_) (fun v w' H locs hq hP hD hS => ?_)
  · obtain ⟨hE, rfl⟩ := hE
    obtain ⟨rfl, hE⟩ := hE
    refine z_catch (a1 := 0) (b1 := 9) (h1 := 12) (k1 := 13) [] [] hown hta hH hN hex rfl (fun _ h => absurd h List.not_mem_nil) (by decide) ⟨by decide, by decide⟩ (by decide) wd_5_18 hc9 hv9 hcl9 ?_
    refine lv_astore_n (lv' := [(3, Value.ref q9), (0, Value.ref (a 0)), (1, Value.int b), (2, Value.ref o)]) hx hb dL_dryAt_12 rfl hl (by decide) rfl (fun ls hl => ?_)
    refine lv_iconst (v := (1 : Int32)) hx hb dL_dryAt_13 (by decide) ?_
    exact z_iret hG hx hb hr hlocks hP hD hS (Nat.le_of_ble_eq_true rfl) (Nat.le_of_ble_eq_true rfl) dL_dryAt_14 (zOk_x hE (by decide) (by decide))
  obtain ⟨hq, rfl, rfl⟩ := hq
  refine lv_i2l (v := Int32.toInt64 (nI (dryV wf wt nw t (olf (nN b))))) hx hb dL_dryAt_7 rfl ?_
  refine z_lst hx hb hK hP hD hS dL_dryAt_8 (fun H locs hP hD hS => ?_)
  refine lv_goto (tgt := 15) hx hb dL_dryAt_9 (by decide) ?_
  refine lv_iconst (v := (0 : Int32)) hx hb dL_dryAt_15 (by decide) ?_
  exact z_iret hG hx hb hr hlocks hP hD hS (Nat.le_of_ble_eq_true rfl) (Nat.le_of_ble_eq_true rfl) dL_dryAt_16 (zOk_0 hq)
theorem zw_dryAt : (Cond.static yL_dryAt ∈ WA ∧ Cond.initialized RL ∈ WA ∧ Cond.codeWith yL_dryAt cL_dryAt 4 (some .int) [(0, 9, 12, 13)] ∈ WA) ∧ RL ≠ "java/lang/invoke/MethodHandle" ∧ RL ≠ "java/lang/invoke/VarHandle" ∧ (parseMethodDescriptor yL_dryAt.desc).map (fun d => d.parameters.length) = some 3 := ⟨⟨wd_26_6, wd_5_16, wd_26_7⟩, by decide +kernel, by decide +kernel, by decide +kernel⟩
set_option maxHeartbeats 800000 in
set_option maxRecDepth 100000 in
theorem c_L_dryByHours (l : Launch) (hlt : l.stackTraces = false) (D : va_G) (y : Nat → ClassId) (a : Nat → Nat) (cap clr : Int32) (t : Nat) (hom mov : Int32) (wm : Int64) (tb tf ts : Int32) (nw : Nat) (wf wt : Nat → Int32) (nb : Nat) (bw bl bi bb : Nat → Int32) (no : Nat) (od ow ol ork ob olf oco : Nat → Int32) (pn pb pm : Int32) (pcd pw pli : Nat → Int32) (b : Int32) (hb8 : no ≤ 8) (hw : nw ≤ 6) (hsp : spOk wf wt nw) (ht : t ≤ 9999) (hol : ∀ j, j < 8 → ∃ L, L ≤ 48 ∧ olf j = nI L) (o : Nat) (v0 : Nat → Int64) : zWr l D y yL_dryByHours cL_dryByHours 4 [(0, 9, 12, 13)] 9 2 12 137 [Value.ref (a 0), Value.int b, Value.ref o] (wB a y cap clr (nI t) hom mov wm tb tf ts (nI nw) wf wt (nI nb) bw bl bi bb (nI no) od ow ol ork ob olf oco pn pb pm pcd pw pli ++ oL y o v0) (fun o9 w9 => zOk (boC no b) (Int32.toInt64 (nI (dryV wf wt nw t (olf (nN b))))) y o v0 (wB a y cap clr (nI t) hom mov wm tb tf ts (nI nw) wf wt (nI nb) bw bl bi bb (nI no) od ow ol ork ob olf oco pn pb pm pcd pw pli) (wB a y cap clr (nI t) hom mov wm tb tf ts (nI nw) wf wt (nI nb) bw bl bi bb (nI no) od ow ol ork ob olf oco pn pb pm pcd pw pli) o9 w9) := by
  refine zWr.of (by decide +kernel) (Nat.le_of_ble_eq_true rfl) ?_
  intro p e s m args below meth c A ls hx hb hr hta hown hlocks hml hex hH hN hK hP hD hS hA hl
  refine z_gen (fun G hG => ?_)
  have hl : lv_has ls 4 [(0, Value.ref (a 0)), (1, Value.int b), (2, Value.ref o)] := hl
  refine lv_aload_n hx hb dL_dryByHours_0 rfl (lv_at hl 2 rfl) ?_
  refine lv_iconst (v := (0 : Int32)) hx hb dL_dryByHours_1 (by decide) ?_
  refine lv_aload_n hx hb dL_dryByHours_2 rfl (lv_at hl 0 rfl) ?_
  refine lv_iload_n hx hb dL_dryByHours_3 rfl (lv_at hl 1 rfl) ?_
  refine z_xcallVF (wa := []) (w1 := wB a y cap clr (nI t) hom mov wm tb tf ts (nI nw) wf wt (nI nb) bw bl bi bb (nI no) od ow ol ork ob olf oco pn pb pm pcd pw pli) (wb := oL y o v0) (As := [Value.int b]) (rest := [Value.int 0, Value.ref o]) hx hb hml hown hta zm_X5_dryByHours wd_27_15 (c_X5_dryByHours l hlt D y a cap clr t hom mov wm tb tf ts nw wf wt nb bw bl bi bb no od ow ol ork ob olf oco pn pb pm pcd pw pli b hb8 hw hsp ht hol) hN hK hP hD hS hA 0 rfl rfl rfl hl rfl (Nat.le_of_ble_eq_true rfl) ⟨Nat.le_of_ble_eq_true rfl, Nat.le_of_ble_eq_true rfl⟩ ⟨Nat.le_of_ble_eq_true rfl, Nat.le_of_ble_eq_true rfl⟩ dL_dryByHours_4 (fun E ce q9 w' H locs hE hP hD hS hc9 hv9 hcl9 => ?_) (fun v w' H locs hq hP hD hS => ?_)
  · obtain ⟨hE, rfl⟩ := hE
    obtain ⟨rfl, hE⟩ := hE
    refine z_catch (a1 := 0) (b1 := 9) (h1 := 12) (k1 := 13) [] [] hown hta hH hN hex rfl (fun _ h => absurd h List.not_mem_nil) (by decide) ⟨by decide, by decide⟩ (by decide) wd_5_18 hc9 hv9 hcl9 ?_
    refine lv_astore_n (lv' := [(3, Value.ref q9), (0, Value.ref (a 0)), (1, Value.int b), (2, Value.ref o)]) hx hb dL_dryByHours_12 rfl hl (by decide) rfl (fun ls hl => ?_)
    refine lv_iconst (v := (1 : Int32)) hx hb dL_dryByHours_13 (by decide) ?_
    exact z_iret hG hx hb hr hlocks hP hD hS (Nat.le_of_ble_eq_true rfl) (Nat.le_of_ble_eq_true rfl) dL_dryByHours_14 (zOk_x hE (by decide) (by decide))
  obtain ⟨hq, rfl, rfl⟩ := hq
  refine lv_i2l (v := Int32.toInt64 (nI (dryV wf wt nw t (olf (nN b))))) hx hb dL_dryByHours_7 rfl ?_
  refine z_lst hx hb hK hP hD hS dL_dryByHours_8 (fun H locs hP hD hS => ?_)
  refine lv_goto (tgt := 15) hx hb dL_dryByHours_9 (by decide) ?_
  refine lv_iconst (v := (0 : Int32)) hx hb dL_dryByHours_15 (by decide) ?_
  exact z_iret hG hx hb hr hlocks hP hD hS (Nat.le_of_ble_eq_true rfl) (Nat.le_of_ble_eq_true rfl) dL_dryByHours_16 (zOk_0 hq)
theorem zw_dryByHours : (Cond.static yL_dryByHours ∈ WA ∧ Cond.initialized RL ∈ WA ∧ Cond.codeWith yL_dryByHours cL_dryByHours 4 (some .int) [(0, 9, 12, 13)] ∈ WA) ∧ RL ≠ "java/lang/invoke/MethodHandle" ∧ RL ≠ "java/lang/invoke/VarHandle" ∧ (parseMethodDescriptor yL_dryByHours.desc).map (fun d => d.parameters.length) = some 3 := ⟨⟨wd_27_13, wd_5_16, wd_27_14⟩, by decide +kernel, by decide +kernel, by decide +kernel⟩
set_option maxHeartbeats 800000 in
set_option maxRecDepth 100000 in
theorem c_L_pass (l : Launch) (hlt : l.stackTraces = false) (D : va_G) (y : Nat → ClassId) (a : Nat → Nat) (cap clr : Int32) (t : Nat) (hom mov : Int32) (wm : Int64) (tb tf ts : Int32) (nw : Nat) (wf wt : Nat → Int32) (nb : Nat) (bw bl bi bb : Nat → Int32) (no : Nat) (od ow ol ork ob olf oco : Nat → Int32) (pn pb pm : Int32) (pcd pw pli : Nat → Int32) (h : Int32) (hb8 : no ≤ 8) (hw : nw ≤ 6) (ht : t ≤ 9999) (o : Nat) (v0 : Nat → Int64) : zWr l D y yL_pass cL_pass 4 [(0, 9, 12, 15)] 8 1 6 117 [Value.ref (a 0), Value.int h, Value.ref o] (wB a y cap clr (nI t) hom mov wm tb tf ts (nI nw) wf wt (nI nb) bw bl bi bb (nI no) od ow ol ork ob olf oco pn pb pm pcd pw pli ++ oL y o v0) (fun o9 w9 => zOk (psC t h) (Int32.toInt64 (nI (t + nN h))) y o v0 (wB a y cap clr (nI (t + nN h)) hom mov wm tb tf ts (nI nw) wf wt (nI nb) bw bl bi bb (nI no) od ow ol ork ob (pdF wf wt nw no t olf (nN h)) oco pn pb pm pcd pw pli) (wB a y cap clr (nI t) hom mov wm tb tf ts (nI nw) wf wt (nI nb) bw bl bi bb (nI no) od ow ol ork ob olf oco pn pb pm pcd pw pli) o9 w9) := by
  refine zWr.of (by decide +kernel) (Nat.le_of_ble_eq_true rfl) ?_
  intro p e s m args below meth c A ls hx hb hr hta hown hlocks hml hex hH hN hK hP hD hS hA hl
  refine z_gen (fun G hG => ?_)
  have hl : lv_has ls 4 [(0, Value.ref (a 0)), (1, Value.int h), (2, Value.ref o)] := hl
  refine lv_aload_n hx hb dL_pass_0 rfl (lv_at hl 2 rfl) ?_
  refine lv_iconst (v := (0 : Int32)) hx hb dL_pass_1 (by decide) ?_
  refine lv_aload_n hx hb dL_pass_2 rfl (lv_at hl 0 rfl) ?_
  refine lv_iload_n hx hb dL_pass_3 rfl (lv_at hl 1 rfl) ?_
  refine z_xcallVF (wa := []) (w1 := wB a y cap clr (nI t) hom mov wm tb tf ts (nI nw) wf wt (nI nb) bw bl bi bb (nI no) od ow ol ork ob olf oco pn pb pm pcd pw pli) (wb := oL y o v0) (As := [Value.int h]) (rest := [Value.int 0, Value.ref o]) hx hb hml hown hta zm_X5_pass wd_28_7 (c_X5_pass l hlt D y a cap clr t hom mov wm tb tf ts nw wf wt nb bw bl bi bb no od ow ol ork ob olf oco pn pb pm pcd pw pli h hb8 hw ht) hN hK hP hD hS hA 0 rfl rfl rfl hl rfl (Nat.le_of_ble_eq_true rfl) ⟨Nat.le_of_ble_eq_true rfl, Nat.le_of_ble_eq_true rfl⟩ ⟨Nat.le_of_ble_eq_true rfl, Nat.le_of_ble_eq_true rfl⟩ dL_pass_4 (fun E ce q9 w' H locs hE hP hD hS hc9 hv9 hcl9 => ?_) (fun v w' H locs hq hP hD hS => ?_)
  · obtain ⟨hE, rfl⟩ := hE
    obtain ⟨rfl, hE⟩ := hE
    refine z_catch (a1 := 0) (b1 := 9) (h1 := 12) (k1 := 15) [] [] hown hta hH hN hex rfl (fun _ h => absurd h List.not_mem_nil) (by decide) ⟨by decide, by decide⟩ (by decide) wd_5_19 hc9 hv9 hcl9 ?_
    refine lv_astore_n (lv' := [(3, Value.ref q9), (0, Value.ref (a 0)), (1, Value.int h), (2, Value.ref o)]) hx hb dL_pass_12 rfl hl (by decide) rfl (fun ls hl => ?_)
    refine lv_iconst (v := (1 : Int32)) hx hb dL_pass_13 (by decide) ?_
    exact z_iret hG hx hb hr hlocks hP hD hS (Nat.le_of_ble_eq_true rfl) (Nat.le_of_ble_eq_true rfl) dL_pass_14 (zOk_x hE (by decide) (by decide))
  obtain ⟨hq, rfl, rfl⟩ := hq
  refine lv_i2l (v := Int32.toInt64 (nI (t + nN h))) hx hb dL_pass_7 rfl ?_
  refine z_lst hx hb hK hP hD hS dL_pass_8 (fun H locs hP hD hS => ?_)
  refine lv_goto (tgt := 15) hx hb dL_pass_9 (by decide) ?_
  refine lv_iconst (v := (0 : Int32)) hx hb dL_pass_15 (by decide) ?_
  exact z_iret hG hx hb hr hlocks hP hD hS (Nat.le_of_ble_eq_true rfl) (Nat.le_of_ble_eq_true rfl) dL_pass_16 (zOk_0 hq)
theorem zw_pass : (Cond.static yL_pass ∈ WA ∧ Cond.initialized RL ∈ WA ∧ Cond.codeWith yL_pass cL_pass 4 (some .int) [(0, 9, 12, 15)] ∈ WA) ∧ RL ≠ "java/lang/invoke/MethodHandle" ∧ RL ≠ "java/lang/invoke/VarHandle" ∧ (parseMethodDescriptor yL_pass.desc).map (fun d => d.parameters.length) = some 3 := ⟨⟨wd_28_5, wd_5_16, wd_28_6⟩, by decide +kernel, by decide +kernel, by decide +kernel⟩
set_option maxHeartbeats 800000 in
set_option maxRecDepth 100000 in
theorem c_L_leastShifted (l : Launch) (hlt : l.stackTraces = false) (D : va_G) (y : Nat → ClassId) (a : Nat → Nat) (cap clr : Int32) (t : Nat) (hom mov : Int32) (wm : Int64) (tb tf ts : Int32) (nw : Nat) (wf wt : Nat → Int32) (nb : Nat) (bw bl bi bb : Nat → Int32) (no : Nat) (od ow ol ork ob olf oco : Nat → Int32) (pn pb pm : Int32) (pcd pw pli : Nat → Int32) (b : Int32) (Wf : Nat → Nat) (Ed : (Nat → Int32) → Nat → Nat → Prop) (Cl : (Nat → Int32) → Prop) (v : Int32) (hb8 : no ≤ 8) (hb6 : nb ≤ 6) (hE : Eok nb no Ed) (hva : Va nb no (gB ob nb)) (hW : Wok no ow Wf) (hEC : EC nb no Ed (beS ob nb no) cap olf ow ol bw bl bi) (hCl : inB b no = true → inB (ob (nN b)) nb = true → ClC nb no (beS ob nb no) bi (nN b) Cl) (hv : Lst no Wf Ed (gB ob nb) Cl v) (hcw : inB b no = true → inB (ob (nN b)) nb = true → (cwF ob bb bi nb (nN b) = true ↔ Cl (gB ob nb))) (o : Nat) (v0 : Nat → Int64) : zWr l D y yL_leastShifted cL_leastShifted 4 [(0, 9, 12, 13), (0, 9, 15, 17), (0, 9, 18, 50)] 10 3 18 168 [Value.ref (a 0), Value.int b, Value.ref o] (wB a y cap clr (nI t) hom mov wm tb tf ts (nI nw) wf wt (nI nb) bw bl bi bb (nI no) od ow ol ork ob olf oco pn pb pm pcd pw pli ++ oL y o v0) (fun o9 w9 => ∃ (pn9 : Int32) (pb9 : Int32) (pm9 : Int32) (pcd9 : Nat → Int32) (pw9 : Nat → Int32) (pli9 : Nat → Int32), zOk (lsC no nb ob b v) (Int32.toInt64 v) y o v0 (wB a y cap clr (nI t) hom mov wm tb tf ts (nI nw) wf wt (nI nb) bw bl bi bb (nI no) od ow ol ork ob olf oco pn9 pb9 pm9 pcd9 pw9 pli9) (wB a y cap clr (nI t) hom mov wm tb tf ts (nI nw) wf wt (nI nb) bw bl bi bb (nI no) od ow ol ork ob olf oco pn9 pb9 pm9 pcd9 pw9 pli9) o9 w9) := by
  refine zWr.of (by decide +kernel) (Nat.le_of_ble_eq_true rfl) ?_
  intro p e s m args below meth c A ls hx hb hr hta hown hlocks hml hex hH hN hK hP hD hS hA hl
  refine z_gen (fun G hG => ?_)
  have hl : lv_has ls 4 [(0, Value.ref (a 0)), (1, Value.int b), (2, Value.ref o)] := hl
  refine lv_aload_n hx hb dL_leastShifted_0 rfl (lv_at hl 2 rfl) ?_
  refine lv_iconst (v := (0 : Int32)) hx hb dL_leastShifted_1 (by decide) ?_
  refine lv_aload_n hx hb dL_leastShifted_2 rfl (lv_at hl 0 rfl) ?_
  refine lv_iload_n hx hb dL_leastShifted_3 rfl (lv_at hl 1 rfl) ?_
  refine z_xwcallVF (wa := []) (w1 := wB a y cap clr (nI t) hom mov wm tb tf ts (nI nw) wf wt (nI nb) bw bl bi bb (nI no) od ow ol ork ob olf oco pn pb pm pcd pw pli) (wb := oL y o v0) (As := [Value.int b]) (rest := [Value.int 0, Value.ref o]) hx hb hml hown hta zm_X5_leastShifted wd_29_6 (c_X5_leastShifted l hlt D y a cap clr t hom mov wm tb tf ts nw wf wt nb bw bl bi bb no od ow ol ork ob olf oco pn pb pm pcd pw pli b Wf Ed Cl v hb8 hb6 hE hva hW hEC hCl hv hcw) hN hK hP hD hS hA 0 rfl rfl rfl hl rfl (Nat.le_of_ble_eq_true rfl) ⟨Nat.le_of_ble_eq_true rfl, Nat.le_of_ble_eq_true rfl⟩ ⟨Nat.le_of_ble_eq_true rfl, Nat.le_of_ble_eq_true rfl⟩ dL_leastShifted_4 (fun E ce q9 w' H locs hE hP hD hS hc9 hv9 hcl9 => ?_) (fun v w' H locs hq hP hD hS => ?_)
  · obtain ⟨⟨pn9, pb9, pm9, pcd9, pw9, pli9, rfl⟩, hE⟩ := hE
    rcases hE with ⟨rfl, hE⟩ | ⟨rfl, hE⟩ | ⟨rfl, hE⟩
    · refine z_catch (a1 := 0) (b1 := 9) (h1 := 12) (k1 := 13) [] [(0, 9, 15, 17), (0, 9, 18, 50)] hown hta hH hN hex rfl (fun _ h => absurd h List.not_mem_nil) (by decide) ⟨by decide, by decide⟩ (by decide) wd_5_18 hc9 hv9 hcl9 ?_
      refine lv_astore_n (lv' := [(3, Value.ref q9), (0, Value.ref (a 0)), (1, Value.int b), (2, Value.ref o)]) hx hb dL_leastShifted_12 rfl hl (by decide) rfl (fun ls hl => ?_)
      refine lv_iconst (v := (1 : Int32)) hx hb dL_leastShifted_13 (by decide) ?_
      exact z_iret hG hx hb hr hlocks hP hD hS (Nat.le_of_ble_eq_true rfl) (Nat.le_of_ble_eq_true rfl) dL_leastShifted_14 (⟨_, _, _, _, _, _, zOk_x hE (by decide) (by decide)⟩)
    · refine z_catch (a1 := 0) (b1 := 9) (h1 := 15) (k1 := 17) [(0, 9, 12, 13)] [(0, 9, 18, 50)] hown hta hH hN hex rfl (List.forall_mem_cons.mpr ⟨⟨by decide, "java/lang/IndexOutOfBoundsException", by decide, by decide, wd_5_18⟩, fun _ h => absurd h List.not_mem_nil⟩) (by decide) ⟨by decide, by decide⟩ (by decide) wd_5_20 hc9 hv9 hcl9 ?_
      refine lv_astore_n (lv' := [(3, Value.ref q9), (0, Value.ref (a 0)), (1, Value.int b), (2, Value.ref o)]) hx hb dL_leastShifted_15 rfl hl (by decide) rfl (fun ls hl => ?_)
      refine lv_iconst (v := (2 : Int32)) hx hb dL_leastShifted_16 (by decide) ?_
      exact z_iret hG hx hb hr hlocks hP hD hS (Nat.le_of_ble_eq_true rfl) (Nat.le_of_ble_eq_true rfl) dL_leastShifted_17 (⟨_, _, _, _, _, _, zOk_x hE (by decide) (by decide)⟩)
    · refine z_catch (a1 := 0) (b1 := 9) (h1 := 18) (k1 := 50) [(0, 9, 12, 13), (0, 9, 15, 17)] [] hown hta hH hN hex rfl (List.forall_mem_cons.mpr ⟨⟨by decide, "java/lang/IndexOutOfBoundsException", by decide, by decide, wd_5_18⟩, List.forall_mem_cons.mpr ⟨⟨by decide, "java/lang/IllegalStateException", by decide, by decide, wd_5_20⟩, fun _ h => absurd h List.not_mem_nil⟩⟩) (by decide) ⟨by decide, by decide⟩ (by decide) wd_15_8 hc9 hv9 hcl9 ?_
      refine lv_astore_n (lv' := [(3, Value.ref q9), (0, Value.ref (a 0)), (1, Value.int b), (2, Value.ref o)]) hx hb dL_leastShifted_18 rfl hl (by decide) rfl (fun ls hl => ?_)
      refine lv_iconst (v := (3 : Int32)) hx hb dL_leastShifted_19 (by decide) ?_
      exact z_iret hG hx hb hr hlocks hP hD hS (Nat.le_of_ble_eq_true rfl) (Nat.le_of_ble_eq_true rfl) dL_leastShifted_20 (⟨_, _, _, _, _, _, zOk_x hE (by decide) (by decide)⟩)
  obtain ⟨pn9, pb9, pm9, pcd9, pw9, pli9, hq, rfl, rfl⟩ := hq
  refine lv_i2l (v := Int32.toInt64 v) hx hb dL_leastShifted_7 rfl ?_
  refine z_lst hx hb hK hP hD hS dL_leastShifted_8 (fun H locs hP hD hS => ?_)
  refine lv_goto (tgt := 21) hx hb dL_leastShifted_9 (by decide) ?_
  refine lv_iconst (v := (0 : Int32)) hx hb dL_leastShifted_21 (by decide) ?_
  exact z_iret hG hx hb hr hlocks hP hD hS (Nat.le_of_ble_eq_true rfl) (Nat.le_of_ble_eq_true rfl) dL_leastShifted_22 (⟨_, _, _, _, _, _, zOk_0 hq⟩)
theorem zw_leastShifted : (Cond.static yL_leastShifted ∈ WA ∧ Cond.initialized RL ∈ WA ∧ Cond.codeWith yL_leastShifted cL_leastShifted 4 (some .int) [(0, 9, 12, 13), (0, 9, 15, 17), (0, 9, 18, 50)] ∈ WA) ∧ RL ≠ "java/lang/invoke/MethodHandle" ∧ RL ≠ "java/lang/invoke/VarHandle" ∧ (parseMethodDescriptor yL_leastShifted.desc).map (fun d => d.parameters.length) = some 3 := ⟨⟨wd_29_4, wd_5_16, wd_29_5⟩, by decide +kernel, by decide +kernel, by decide +kernel⟩
set_option maxHeartbeats 800000 in
set_option maxRecDepth 100000 in
theorem c_L_leastByRounds (l : Launch) (hlt : l.stackTraces = false) (D : va_G) (y : Nat → ClassId) (a : Nat → Nat) (cap clr : Int32) (t : Nat) (hom mov : Int32) (wm : Int64) (tb tf ts : Int32) (nw : Nat) (wf wt : Nat → Int32) (nb : Nat) (bw bl bi bb : Nat → Int32) (no : Nat) (od ow ol ork ob olf oco : Nat → Int32) (pn pb pm : Int32) (pcd pw pli : Nat → Int32) (b : Int32) (Wf : Nat → Nat) (Ed : (Nat → Int32) → Nat → Nat → Prop) (Cl : (Nat → Int32) → Prop) (v : Int32) (hb8 : no ≤ 8) (hb6 : nb ≤ 6) (hE : Eok nb no Ed) (hva : Va nb no (gB ob nb)) (hW : Wok no ow Wf) (hEC : EC nb no Ed (beS ob nb no) cap olf ow ol bw bl bi) (hCl : inB b no = true → inB (ob (nN b)) nb = true → ClC nb no (beS ob nb no) bi (nN b) Cl) (hv : Lst no Wf Ed (gB ob nb) Cl v) (hcw : inB b no = true → inB (ob (nN b)) nb = true → (cwF ob bb bi nb (nN b) = true ↔ Cl (gB ob nb))) (o : Nat) (v0 : Nat → Int64) : zWr l D y yL_leastByRounds cL_leastByRounds 4 [(0, 9, 12, 13), (0, 9, 15, 17), (0, 9, 18, 50)] 10 3 18 169 [Value.ref (a 0), Value.int b, Value.ref o] (wB a y cap clr (nI t) hom mov wm tb tf ts (nI nw) wf wt (nI nb) bw bl bi bb (nI no) od ow ol ork ob olf oco pn pb pm pcd pw pli ++ oL y o v0) (fun o9 w9 => ∃ (pn9 : Int32) (pb9 : Int32) (pm9 : Int32) (pcd9 : Nat → Int32) (pw9 : Nat → Int32) (pli9 : Nat → Int32), zOk (lsC no nb ob b v) (Int32.toInt64 v) y o v0 (wB a y cap clr (nI t) hom mov wm tb tf ts (nI nw) wf wt (nI nb) bw bl bi bb (nI no) od ow ol ork ob olf oco pn9 pb9 pm9 pcd9 pw9 pli9) (wB a y cap clr (nI t) hom mov wm tb tf ts (nI nw) wf wt (nI nb) bw bl bi bb (nI no) od ow ol ork ob olf oco pn9 pb9 pm9 pcd9 pw9 pli9) o9 w9) := by
  refine zWr.of (by decide +kernel) (Nat.le_of_ble_eq_true rfl) ?_
  intro p e s m args below meth c A ls hx hb hr hta hown hlocks hml hex hH hN hK hP hD hS hA hl
  refine z_gen (fun G hG => ?_)
  have hl : lv_has ls 4 [(0, Value.ref (a 0)), (1, Value.int b), (2, Value.ref o)] := hl
  refine lv_aload_n hx hb dL_leastByRounds_0 rfl (lv_at hl 2 rfl) ?_
  refine lv_iconst (v := (0 : Int32)) hx hb dL_leastByRounds_1 (by decide) ?_
  refine lv_aload_n hx hb dL_leastByRounds_2 rfl (lv_at hl 0 rfl) ?_
  refine lv_iload_n hx hb dL_leastByRounds_3 rfl (lv_at hl 1 rfl) ?_
  refine z_xwcallVF (wa := []) (w1 := wB a y cap clr (nI t) hom mov wm tb tf ts (nI nw) wf wt (nI nb) bw bl bi bb (nI no) od ow ol ork ob olf oco pn pb pm pcd pw pli) (wb := oL y o v0) (As := [Value.int b]) (rest := [Value.int 0, Value.ref o]) hx hb hml hown hta zm_X5_leastByRounds wd_33_21 (c_X5_leastByRounds l hlt D y a cap clr t hom mov wm tb tf ts nw wf wt nb bw bl bi bb no od ow ol ork ob olf oco pn pb pm pcd pw pli b Wf Ed Cl v hb8 hb6 hE hva hW hEC hCl hv hcw) hN hK hP hD hS hA 0 rfl rfl rfl hl rfl (Nat.le_of_ble_eq_true rfl) ⟨Nat.le_of_ble_eq_true rfl, Nat.le_of_ble_eq_true rfl⟩ ⟨Nat.le_of_ble_eq_true rfl, Nat.le_of_ble_eq_true rfl⟩ dL_leastByRounds_4 (fun E ce q9 w' H locs hE hP hD hS hc9 hv9 hcl9 => ?_) (fun v w' H locs hq hP hD hS => ?_)
  · obtain ⟨⟨pn9, pb9, pm9, pcd9, pw9, pli9, rfl⟩, hE⟩ := hE
    rcases hE with ⟨rfl, hE⟩ | ⟨rfl, hE⟩ | ⟨rfl, hE⟩
    · refine z_catch (a1 := 0) (b1 := 9) (h1 := 12) (k1 := 13) [] [(0, 9, 15, 17), (0, 9, 18, 50)] hown hta hH hN hex rfl (fun _ h => absurd h List.not_mem_nil) (by decide) ⟨by decide, by decide⟩ (by decide) wd_5_18 hc9 hv9 hcl9 ?_
      refine lv_astore_n (lv' := [(3, Value.ref q9), (0, Value.ref (a 0)), (1, Value.int b), (2, Value.ref o)]) hx hb dL_leastByRounds_12 rfl hl (by decide) rfl (fun ls hl => ?_)
      refine lv_iconst (v := (1 : Int32)) hx hb dL_leastByRounds_13 (by decide) ?_
      exact z_iret hG hx hb hr hlocks hP hD hS (Nat.le_of_ble_eq_true rfl) (Nat.le_of_ble_eq_true rfl) dL_leastByRounds_14 (⟨_, _, _, _, _, _, zOk_x hE (by decide) (by decide)⟩)
    · refine z_catch (a1 := 0) (b1 := 9) (h1 := 15) (k1 := 17) [(0, 9, 12, 13)] [(0, 9, 18, 50)] hown hta hH hN hex rfl (List.forall_mem_cons.mpr ⟨⟨by decide, "java/lang/IndexOutOfBoundsException", by decide, by decide, wd_5_18⟩, fun _ h => absurd h List.not_mem_nil⟩) (by decide) ⟨by decide, by decide⟩ (by decide) wd_5_20 hc9 hv9 hcl9 ?_
      refine lv_astore_n (lv' := [(3, Value.ref q9), (0, Value.ref (a 0)), (1, Value.int b), (2, Value.ref o)]) hx hb dL_leastByRounds_15 rfl hl (by decide) rfl (fun ls hl => ?_)
      refine lv_iconst (v := (2 : Int32)) hx hb dL_leastByRounds_16 (by decide) ?_
      exact z_iret hG hx hb hr hlocks hP hD hS (Nat.le_of_ble_eq_true rfl) (Nat.le_of_ble_eq_true rfl) dL_leastByRounds_17 (⟨_, _, _, _, _, _, zOk_x hE (by decide) (by decide)⟩)
    · refine z_catch (a1 := 0) (b1 := 9) (h1 := 18) (k1 := 50) [(0, 9, 12, 13), (0, 9, 15, 17)] [] hown hta hH hN hex rfl (List.forall_mem_cons.mpr ⟨⟨by decide, "java/lang/IndexOutOfBoundsException", by decide, by decide, wd_5_18⟩, List.forall_mem_cons.mpr ⟨⟨by decide, "java/lang/IllegalStateException", by decide, by decide, wd_5_20⟩, fun _ h => absurd h List.not_mem_nil⟩⟩) (by decide) ⟨by decide, by decide⟩ (by decide) wd_15_8 hc9 hv9 hcl9 ?_
      refine lv_astore_n (lv' := [(3, Value.ref q9), (0, Value.ref (a 0)), (1, Value.int b), (2, Value.ref o)]) hx hb dL_leastByRounds_18 rfl hl (by decide) rfl (fun ls hl => ?_)
      refine lv_iconst (v := (3 : Int32)) hx hb dL_leastByRounds_19 (by decide) ?_
      exact z_iret hG hx hb hr hlocks hP hD hS (Nat.le_of_ble_eq_true rfl) (Nat.le_of_ble_eq_true rfl) dL_leastByRounds_20 (⟨_, _, _, _, _, _, zOk_x hE (by decide) (by decide)⟩)
  obtain ⟨pn9, pb9, pm9, pcd9, pw9, pli9, hq, rfl, rfl⟩ := hq
  refine lv_i2l (v := Int32.toInt64 v) hx hb dL_leastByRounds_7 rfl ?_
  refine z_lst hx hb hK hP hD hS dL_leastByRounds_8 (fun H locs hP hD hS => ?_)
  refine lv_goto (tgt := 21) hx hb dL_leastByRounds_9 (by decide) ?_
  refine lv_iconst (v := (0 : Int32)) hx hb dL_leastByRounds_21 (by decide) ?_
  exact z_iret hG hx hb hr hlocks hP hD hS (Nat.le_of_ble_eq_true rfl) (Nat.le_of_ble_eq_true rfl) dL_leastByRounds_22 (⟨_, _, _, _, _, _, zOk_0 hq⟩)
theorem zw_leastByRounds : (Cond.static yL_leastByRounds ∈ WA ∧ Cond.initialized RL ∈ WA ∧ Cond.codeWith yL_leastByRounds cL_leastByRounds 4 (some .int) [(0, 9, 12, 13), (0, 9, 15, 17), (0, 9, 18, 50)] ∈ WA) ∧ RL ≠ "java/lang/invoke/MethodHandle" ∧ RL ≠ "java/lang/invoke/VarHandle" ∧ (parseMethodDescriptor yL_leastByRounds.desc).map (fun d => d.parameters.length) = some 3 := ⟨⟨wd_33_19, wd_5_16, wd_33_20⟩, by decide +kernel, by decide +kernel, by decide +kernel⟩
set_option maxHeartbeats 800000 in
set_option maxRecDepth 100000 in
theorem c_L_usedShare (l : Launch) (hlt : l.stackTraces = false) (D : va_G) (y : Nat → ClassId) (a : Nat → Nat) (cap clr : Int32) (t : Nat) (hom mov : Int32) (wm : Int64) (tb tf ts : Int32) (nw : Nat) (wf wt : Nat → Int32) (nb : Nat) (bw bl bi bb : Nat → Int32) (no : Nat) (od ow ol ork ob olf oco : Nat → Int32) (pn pb pm : Int32) (pcd pw pli : Nat → Int32)  (hb6 : nb ≤ 6) (o : Nat) (v0 : Nat → UInt64) : zWr l D y yL_usedShare cL_usedShare 3 [(0, 8, 11, 113)] 8 1 6 115 [Value.ref (a 0), Value.ref o] (wB a y cap clr (nI t) hom mov wm tb tf ts (nI nw) wf wt (nI nb) bw bl bi bb (nI no) od ow ol ork ob olf oco pn pb pm pcd pw pli ++ oD y o v0) (fun o9 w9 => zOd (usC nb) (FP.f2d (usF (ocC bb nb) nb)) y o v0 (wB a y cap clr (nI t) hom mov wm tb tf ts (nI nw) wf wt (nI nb) bw bl bi bb (nI no) od ow ol ork ob olf oco pn pb pm pcd pw pli) (wB a y cap clr (nI t) hom mov wm tb tf ts (nI nw) wf wt (nI nb) bw bl bi bb (nI no) od ow ol ork ob olf oco pn pb pm pcd pw pli) o9 w9) := by
  refine zWr.of (by decide +kernel) (Nat.le_of_ble_eq_true rfl) ?_
  intro p e s m args below meth c A ls hx hb hr hta hown hlocks hml hex hH hN hK hP hD hS hA hl
  refine z_gen (fun G hG => ?_)
  have hl : lv_has ls 3 [(0, Value.ref (a 0)), (1, Value.ref o)] := hl
  refine lv_aload_n hx hb dL_usedShare_0 rfl (lv_at hl 1 rfl) ?_
  refine lv_iconst (v := (0 : Int32)) hx hb dL_usedShare_1 (by decide) ?_
  refine lv_aload_n hx hb dL_usedShare_2 rfl (lv_at hl 0 rfl) ?_
  refine z_xcallVF (wa := []) (w1 := wB a y cap clr (nI t) hom mov wm tb tf ts (nI nw) wf wt (nI nb) bw bl bi bb (nI no) od ow ol ork ob olf oco pn pb pm pcd pw pli) (wb := oD y o v0) (As := []) (rest := [Value.int 0, Value.ref o]) hx hb hml hown hta zm_X5_usedShare wd_35_2 (c_X5_usedShare l hlt D y a cap clr t hom mov wm tb tf ts nw wf wt nb bw bl bi bb no od ow ol ork ob olf oco pn pb pm pcd pw pli hb6) hN hK hP hD hS hA 0 rfl rfl rfl hl rfl (Nat.le_of_ble_eq_true rfl) ⟨Nat.le_of_ble_eq_true rfl, Nat.le_of_ble_eq_true rfl⟩ ⟨Nat.le_of_ble_eq_true rfl, Nat.le_of_ble_eq_true rfl⟩ dL_usedShare_3 (fun E ce q9 w' H locs hE hP hD hS hc9 hv9 hcl9 => ?_) (fun v w' H locs hq hP hD hS => ?_)
  · obtain ⟨hE, rfl⟩ := hE
    obtain ⟨rfl, hE⟩ := hE
    refine z_catch (a1 := 0) (b1 := 8) (h1 := 11) (k1 := 113) [] [] hown hta hH hN hex rfl (fun _ h => absurd h List.not_mem_nil) (by decide) ⟨by decide, by decide⟩ (by decide) wd_35_1 hc9 hv9 hcl9 ?_
    refine lv_astore_n (lv' := [(2, Value.ref q9), (0, Value.ref (a 0)), (1, Value.ref o)]) hx hb dL_usedShare_11 rfl hl (by decide) rfl (fun ls hl => ?_)
    refine lv_iconst (v := (1 : Int32)) hx hb dL_usedShare_12 (by decide) ?_
    exact z_iret hG hx hb hr hlocks hP hD hS (Nat.le_of_ble_eq_true rfl) (Nat.le_of_ble_eq_true rfl) dL_usedShare_13 (zOd_x hE (by decide) (by decide))
  obtain ⟨hq, rfl, rfl⟩ := hq
  refine lv_f2d hx hb dL_usedShare_6 (us_nn hb6 hq) ?_
  refine z_dst hx hb hK hP hD hS dL_usedShare_7 (fun H locs hP hD hS => ?_)
  refine lv_goto (tgt := 14) hx hb dL_usedShare_8 (by decide) ?_
  refine lv_iconst (v := (0 : Int32)) hx hb dL_usedShare_14 (by decide) ?_
  exact z_iret hG hx hb hr hlocks hP hD hS (Nat.le_of_ble_eq_true rfl) (Nat.le_of_ble_eq_true rfl) dL_usedShare_15 (zOd_0 hq)
theorem zw_usedShare : (Cond.static yL_usedShare ∈ WA ∧ Cond.initialized RL ∈ WA ∧ Cond.codeWith yL_usedShare cL_usedShare 3 (some .int) [(0, 8, 11, 113)] ∈ WA) ∧ RL ≠ "java/lang/invoke/MethodHandle" ∧ RL ≠ "java/lang/invoke/VarHandle" ∧ (parseMethodDescriptor yL_usedShare.desc).map (fun d => d.parameters.length) = some 2 := ⟨⟨wd_34_23, wd_5_16, wd_35_0⟩, by decide +kernel, by decide +kernel, by decide +kernel⟩
set_option maxHeartbeats 800000 in
set_option maxRecDepth 100000 in
theorem c_L_meanDraught (l : Launch) (hlt : l.stackTraces = false) (D : va_G) (y : Nat → ClassId) (a : Nat → Nat) (cap clr : Int32) (t : Nat) (hom mov : Int32) (wm : Int64) (tb tf ts : Int32) (nw : Nat) (wf wt : Nat → Int32) (nb : Nat) (bw bl bi bb : Nat → Int32) (no : Nat) (od ow ol ork ob olf oco : Nat → Int32) (pn pb pm : Int32) (pcd pw pli : Nat → Int32)  (hb8 : no ≤ 8) (o : Nat) (v0 : Nat → UInt64) : zWr l D y yL_meanDraught cL_meanDraught 3 [(0, 7, 10, 113)] 8 1 6 116 [Value.ref (a 0), Value.ref o] (wB a y cap clr (nI t) hom mov wm tb tf ts (nI nw) wf wt (nI nb) bw bl bi bb (nI no) od ow ol ork ob olf oco pn pb pm pcd pw pli ++ oD y o v0) (fun o9 w9 => zOd (usC (cntW ob no)) ((mdF (sumW ob od no) (cntW ob no))) y o v0 (wB a y cap clr (nI t) hom mov wm tb tf ts (nI nw) wf wt (nI nb) bw bl bi bb (nI no) od ow ol ork ob olf oco pn pb pm pcd pw pli) (wB a y cap clr (nI t) hom mov wm tb tf ts (nI nw) wf wt (nI nb) bw bl bi bb (nI no) od ow ol ork ob olf oco pn pb pm pcd pw pli) o9 w9) := by
  refine zWr.of (by decide +kernel) (Nat.le_of_ble_eq_true rfl) ?_
  intro p e s m args below meth c A ls hx hb hr hta hown hlocks hml hex hH hN hK hP hD hS hA hl
  refine z_gen (fun G hG => ?_)
  have hl : lv_has ls 3 [(0, Value.ref (a 0)), (1, Value.ref o)] := hl
  refine lv_aload_n hx hb dL_meanDraught_0 rfl (lv_at hl 1 rfl) ?_
  refine lv_iconst (v := (0 : Int32)) hx hb dL_meanDraught_1 (by decide) ?_
  refine lv_aload_n hx hb dL_meanDraught_2 rfl (lv_at hl 0 rfl) ?_
  refine z_xcallVF (wa := []) (w1 := wB a y cap clr (nI t) hom mov wm tb tf ts (nI nw) wf wt (nI nb) bw bl bi bb (nI no) od ow ol ork ob olf oco pn pb pm pcd pw pli) (wb := oD y o v0) (As := []) (rest := [Value.int 0, Value.ref o]) hx hb hml hown hta zm_X5_meanDraught wd_35_16 (c_X5_meanDraught l hlt D y a cap clr t hom mov wm tb tf ts nw wf wt nb bw bl bi bb no od ow ol ork ob olf oco pn pb pm pcd pw pli hb8) hN hK hP hD hS hA 0 rfl rfl rfl hl rfl (Nat.le_of_ble_eq_true rfl) ⟨Nat.le_of_ble_eq_true rfl, Nat.le_of_ble_eq_true rfl⟩ ⟨Nat.le_of_ble_eq_true rfl, Nat.le_of_ble_eq_true rfl⟩ dL_meanDraught_3 (fun E ce q9 w' H locs hE hP hD hS hc9 hv9 hcl9 => ?_) (fun v w' H locs hq hP hD hS => ?_)
  · obtain ⟨hE, rfl⟩ := hE
    obtain ⟨rfl, hE⟩ := hE
    refine z_catch (a1 := 0) (b1 := 7) (h1 := 10) (k1 := 113) [] [] hown hta hH hN hex rfl (fun _ h => absurd h List.not_mem_nil) (by decide) ⟨by decide, by decide⟩ (by decide) wd_35_1 hc9 hv9 hcl9 ?_
    refine lv_astore_n (lv' := [(2, Value.ref q9), (0, Value.ref (a 0)), (1, Value.ref o)]) hx hb dL_meanDraught_10 rfl hl (by decide) rfl (fun ls hl => ?_)
    refine lv_iconst (v := (1 : Int32)) hx hb dL_meanDraught_11 (by decide) ?_
    exact z_iret hG hx hb hr hlocks hP hD hS (Nat.le_of_ble_eq_true rfl) (Nat.le_of_ble_eq_true rfl) dL_meanDraught_12 (zOd_x hE (by decide) (by decide))
  obtain ⟨hq, rfl, rfl⟩ := hq
  refine z_dst hx hb hK hP hD hS dL_meanDraught_6 (fun H locs hP hD hS => ?_)
  refine lv_goto (tgt := 13) hx hb dL_meanDraught_7 (by decide) ?_
  refine lv_iconst (v := (0 : Int32)) hx hb dL_meanDraught_13 (by decide) ?_
  exact z_iret hG hx hb hr hlocks hP hD hS (Nat.le_of_ble_eq_true rfl) (Nat.le_of_ble_eq_true rfl) dL_meanDraught_14 (zOd_0 hq)
theorem zw_meanDraught : (Cond.static yL_meanDraught ∈ WA ∧ Cond.initialized RL ∈ WA ∧ Cond.codeWith yL_meanDraught cL_meanDraught 3 (some .int) [(0, 7, 10, 113)] ∈ WA) ∧ RL ≠ "java/lang/invoke/MethodHandle" ∧ RL ≠ "java/lang/invoke/VarHandle" ∧ (parseMethodDescriptor yL_meanDraught.desc).map (fun d => d.parameters.length) = some 2 := ⟨⟨wd_35_14, wd_5_16, wd_35_15⟩, by decide +kernel, by decide +kernel, by decide +kernel⟩
