set_option maxHeartbeats 800000 in
set_option maxRecDepth 100000 in
theorem c_L_addBerth (l : Launch) (hlt : l.stackTraces = false) (D : va_G) (y : Nat → ClassId) (a : Nat → Nat) (cap clr : Int32) (t : Nat) (hom mov : Int32) (wm : Int64) (tb tf ts : Int32) (nw : Nat) (wf wt : Nat → Int32) (nb : Nat) (bw bl bi bb : Nat → Int32) (no : Nat) (od ow ol ork ob olf oco : Nat → Int32) (pn pb pm : Int32) (pcd pw pli : Nat → Int32) (f : Int32) (g : Int32) (h : Int32) (hb6 : nb ≤ 6) (o : Nat) (v0 : Nat → Int64) : zWr l D y yL_addBerth cL_addBerth 6 [(0, 12, 15, 13), (0, 12, 19, 15), (0, 12, 23, 17)] 8 1 6 118 [Value.ref (a 0), Value.int f, Value.int g, Value.int h, Value.ref o] (wB a y cap clr (nI t) hom mov wm tb tf ts (nI nw) wf wt (nI nb) bw bl bi bb (nI no) od ow ol ork ob olf oco pn pb pm pcd pw pli ++ oL y o v0) (fun o9 w9 => zOk (abC nb f g h) (Int32.toInt64 (nI nb)) y o v0 (wB a y cap clr (nI t) hom mov wm tb tf ts (nI nw) wf wt (nI (nb + 1)) (upd bw nb g) (upd bl nb h) (upd bi nb (biF bi nb f)) (upd bb nb (-1 : Int32)) (nI no) od ow ol ork ob olf oco pn pb pm pcd pw pli) (wB a y cap clr (nI t) hom mov wm tb tf ts (nI nw) wf wt (nI nb) bw bl bi bb (nI no) od ow ol ork ob olf oco pn pb pm pcd pw pli) o9 w9) := by
  refine zWr.of (by decide +kernel) (Nat.le_of_ble_eq_true rfl) ?_
  intro p e s m args below meth c A ls hx hb hr hta hown hlocks hml hex hH hN hK hP hD hS hA hl
  refine z_gen (fun G hG => ?_)
  have hl : lv_has ls 6 [(0, Value.ref (a 0)), (1, Value.int f), (2, Value.int g), (3, Value.int h), (4, Value.ref o)] := hl
  refine lv_aload hx hb dL_addBerth_0 (lv_at hl 4 rfl) ?_
  refine lv_iconst (v := (0 : Int32)) hx hb dL_addBerth_2 (by decide) ?_
  refine lv_aload_n hx hb dL_addBerth_3 rfl (lv_at hl 0 rfl) ?_
  refine lv_iload_n hx hb dL_addBerth_4 rfl (lv_at hl 1 rfl) ?_
  refine lv_iload_n hx hb dL_addBerth_5 rfl (lv_at hl 2 rfl) ?_
  refine lv_iload_n hx hb dL_addBerth_6 rfl (lv_at hl 3 rfl) ?_
  refine z_xcallVF (wa := []) (w1 := wB a y cap clr (nI t) hom mov wm tb tf ts (nI nw) wf wt (nI nb) bw bl bi bb (nI no) od ow ol ork ob olf oco pn pb pm pcd pw pli) (wb := oL y o v0) (As := [Value.int f, Value.int g, Value.int h]) (rest := [Value.int 0, Value.ref o]) hx hb hml hown hta zm_X5_addBerth wd_5_21 (c_X5_addBerth l hlt D y a cap clr t hom mov wm tb tf ts nw wf wt nb bw bl bi bb no od ow ol ork ob olf oco pn pb pm pcd pw pli f g h hb6) hN hK hP hD hS hA 0 rfl rfl rfl hl rfl (Nat.le_of_ble_eq_true rfl) ⟨Nat.le_of_ble_eq_true rfl, Nat.le_of_ble_eq_true rfl⟩ ⟨Nat.le_of_ble_eq_true rfl, Nat.le_of_ble_eq_true rfl⟩ dL_addBerth_7 (fun E ce q9 w' H locs hE hP hD hS hc9 hv9 hcl9 => ?_) (fun v w' H locs hq hP hD hS => ?_)
  · obtain ⟨hE, rfl⟩ := hE
    rcases hE with ⟨rfl, hE⟩ | ⟨rfl, hE⟩ | ⟨rfl, hE⟩
    · refine z_catch (a1 := 0) (b1 := 12) (h1 := 15) (k1 := 13) [] [(0, 12, 19, 15), (0, 12, 23, 17)] hown hta hH hN hex rfl (fun _ h => absurd h List.not_mem_nil) (by decide) ⟨by decide, by decide⟩ (by decide) wd_5_18 hc9 hv9 hcl9 ?_
      refine lv_astore (lv' := [(5, Value.ref q9), (0, Value.ref (a 0)), (1, Value.int f), (2, Value.int g), (3, Value.int h), (4, Value.ref o)]) hx hb dL_addBerth_15 hl (by decide) rfl (fun ls hl => ?_)
      refine lv_iconst (v := (1 : Int32)) hx hb dL_addBerth_17 (by decide) ?_
      exact z_iret hG hx hb hr hlocks hP hD hS (Nat.le_of_ble_eq_true rfl) (Nat.le_of_ble_eq_true rfl) dL_addBerth_18 (zOk_x hE (by decide) (by decide))
    · refine z_catch (a1 := 0) (b1 := 12) (h1 := 19) (k1 := 15) [(0, 12, 15, 13)] [(0, 12, 23, 17)] hown hta hH hN hex rfl (List.forall_mem_cons.mpr ⟨⟨by decide, "java/lang/IndexOutOfBoundsException", by decide, by decide, wd_5_18⟩, fun _ h => absurd h List.not_mem_nil⟩) (by decide) ⟨by decide, by decide⟩ (by decide) wd_5_19 hc9 hv9 hcl9 ?_
      refine lv_astore (lv' := [(5, Value.ref q9), (0, Value.ref (a 0)), (1, Value.int f), (2, Value.int g), (3, Value.int h), (4, Value.ref o)]) hx hb dL_addBerth_19 hl (by decide) rfl (fun ls hl => ?_)
      refine lv_iconst (v := (2 : Int32)) hx hb dL_addBerth_21 (by decide) ?_
      exact z_iret hG hx hb hr hlocks hP hD hS (Nat.le_of_ble_eq_true rfl) (Nat.le_of_ble_eq_true rfl) dL_addBerth_22 (zOk_x hE (by decide) (by decide))
    · refine z_catch (a1 := 0) (b1 := 12) (h1 := 23) (k1 := 17) [(0, 12, 15, 13), (0, 12, 19, 15)] [] hown hta hH hN hex rfl (List.forall_mem_cons.mpr ⟨⟨by decide, "java/lang/IndexOutOfBoundsException", by decide, by decide, wd_5_18⟩, List.forall_mem_cons.mpr ⟨⟨by decide, "java/lang/IllegalArgumentException", by decide, by decide, wd_5_19⟩, fun _ h => absurd h List.not_mem_nil⟩⟩) (by decide) ⟨by decide, by decide⟩ (by decide) wd_5_20 hc9 hv9 hcl9 ?_
      refine lv_astore (lv' := [(5, Value.ref q9), (0, Value.ref (a 0)), (1, Value.int f), (2, Value.int g), (3, Value.int h), (4, Value.ref o)]) hx hb dL_addBerth_23 hl (by decide) rfl (fun ls hl => ?_)
      refine lv_iconst (v := (3 : Int32)) hx hb dL_addBerth_25 (by decide) ?_
      exact z_iret hG hx hb hr hlocks hP hD hS (Nat.le_of_ble_eq_true rfl) (Nat.le_of_ble_eq_true rfl) dL_addBerth_26 (zOk_x hE (by decide) (by decide))
  obtain ⟨hq, rfl, rfl⟩ := hq
  refine lv_i2l (v := Int32.toInt64 (nI nb)) hx hb dL_addBerth_10 rfl ?_
  refine z_lst hx hb hK hP hD hS dL_addBerth_11 (fun H locs hP hD hS => ?_)
  refine lv_goto (tgt := 27) hx hb dL_addBerth_12 (by decide) ?_
  refine lv_iconst (v := (0 : Int32)) hx hb dL_addBerth_27 (by decide) ?_
  exact z_iret hG hx hb hr hlocks hP hD hS (Nat.le_of_ble_eq_true rfl) (Nat.le_of_ble_eq_true rfl) dL_addBerth_28 (zOk_0 hq)
theorem zw_addBerth : (Cond.static yL_addBerth ∈ WA ∧ Cond.initialized RL ∈ WA ∧ Cond.codeWith yL_addBerth cL_addBerth 6 (some .int) [(0, 12, 15, 13), (0, 12, 19, 15), (0, 12, 23, 17)] ∈ WA) ∧ RL ≠ "java/lang/invoke/MethodHandle" ∧ RL ≠ "java/lang/invoke/VarHandle" ∧ (parseMethodDescriptor yL_addBerth.desc).map (fun d => d.parameters.length) = some 5 := ⟨⟨wd_5_15, wd_5_16, wd_5_17⟩, by decide +kernel, by decide +kernel, by decide +kernel⟩
set_option maxHeartbeats 800000 in
set_option maxRecDepth 100000 in
theorem c_L_addBoat (l : Launch) (hlt : l.stackTraces = false) (D : va_G) (y : Nat → ClassId) (a : Nat → Nat) (cap clr : Int32) (t : Nat) (hom mov : Int32) (wm : Int64) (tb tf ts : Int32) (nw : Nat) (wf wt : Nat → Int32) (nb : Nat) (bw bl bi bb : Nat → Int32) (no : Nat) (od ow ol ork ob olf oco : Nat → Int32) (pn pb pm : Int32) (pcd pw pli : Nat → Int32) (f : Int32) (g : Int32) (h : Int32) (r : Int32) (hb8 : no ≤ 8) (o : Nat) (v0 : Nat → Int64) : zWr l D y yL_addBoat cL_addBoat 7 [(0, 14, 17, 15), (0, 14, 21, 17)] 8 1 6 119 [Value.ref (a 0), Value.int f, Value.int g, Value.int h, Value.int r, Value.ref o] (wB a y cap clr (nI t) hom mov wm tb tf ts (nI nw) wf wt (nI nb) bw bl bi bb (nI no) od ow ol ork ob olf oco pn pb pm pcd pw pli ++ oL y o v0) (fun o9 w9 => zOk (aoC no f g h r) (Int32.toInt64 (nI no)) y o v0 (wB a y cap clr (nI t) hom mov wm tb tf ts (nI nw) wf wt (nI nb) bw bl bi bb (nI (no + 1)) (upd od no f) (upd ow no g) (upd ol no h) (upd ork no r) (upd ob no (-1 : Int32)) olf oco pn pb pm pcd pw pli) (wB a y cap clr (nI t) hom mov wm tb tf ts (nI nw) wf wt (nI nb) bw bl bi bb (nI no) od ow ol ork ob olf oco pn pb pm pcd pw pli) o9 w9) := by
  refine zWr.of (by decide +kernel) (Nat.le_of_ble_eq_true rfl) ?_
  intro p e s m args below meth c A ls hx hb hr hta hown hlocks hml hex hH hN hK hP hD hS hA hl
  refine z_gen (fun G hG => ?_)
  have hl : lv_has ls 7 [(0, Value.ref (a 0)), (1, Value.int f), (2, Value.int g), (3, Value.int h), (4, Value.int r), (5, Value.ref o)] := hl
  refine lv_aload hx hb dL_addBoat_0 (lv_at hl 5 rfl) ?_
  refine lv_iconst (v := (0 : Int32)) hx hb dL_addBoat_2 (by decide) ?_
  refine lv_aload_n hx hb dL_addBoat_3 rfl (lv_at hl 0 rfl) ?_
  refine lv_iload_n hx hb dL_addBoat_4 rfl (lv_at hl 1 rfl) ?_
  refine lv_iload_n hx hb dL_addBoat_5 rfl (lv_at hl 2 rfl) ?_
  refine lv_iload_n hx hb dL_addBoat_6 rfl (lv_at hl 3 rfl) ?_
  refine lv_iload hx hb dL_addBoat_7 (lv_at hl 4 rfl) ?_
  refine z_xcallVF (wa := []) (w1 := wB a y cap clr (nI t) hom mov wm tb tf ts (nI nw) wf wt (nI nb) bw bl bi bb (nI no) od ow ol ork ob olf oco pn pb pm pcd pw pli) (wb := oL y o v0) (As := [Value.int f, Value.int g, Value.int h, Value.int r]) (rest := [Value.int 0, Value.ref o]) hx hb hml hown hta zm_X5_addBoat wd_8_0 (c_X5_addBoat l hlt D y a cap clr t hom mov wm tb tf ts nw wf wt nb bw bl bi bb no od ow ol ork ob olf oco pn pb pm pcd pw pli f g h r hb8) hN hK hP hD hS hA 0 rfl rfl rfl hl rfl (Nat.le_of_ble_eq_true rfl) ⟨Nat.le_of_ble_eq_true rfl, Nat.le_of_ble_eq_true rfl⟩ ⟨Nat.le_of_ble_eq_true rfl, Nat.le_of_ble_eq_true rfl⟩ dL_addBoat_9 (fun E ce q9 w' H locs hE hP hD hS hc9 hv9 hcl9 => ?_) (fun v w' H locs hq hP hD hS => ?_)
  · obtain ⟨hE, rfl⟩ := hE
    rcases hE with ⟨rfl, hE⟩ | ⟨rfl, hE⟩
    · refine z_catch (a1 := 0) (b1 := 14) (h1 := 17) (k1 := 15) [] [(0, 14, 21, 17)] hown hta hH hN hex rfl (fun _ h => absurd h List.not_mem_nil) (by decide) ⟨by decide, by decide⟩ (by decide) wd_5_19 hc9 hv9 hcl9 ?_
      refine lv_astore (lv' := [(6, Value.ref q9), (0, Value.ref (a 0)), (1, Value.int f), (2, Value.int g), (3, Value.int h), (4, Value.int r), (5, Value.ref o)]) hx hb dL_addBoat_17 hl (by decide) rfl (fun ls hl => ?_)
      refine lv_iconst (v := (1 : Int32)) hx hb dL_addBoat_19 (by decide) ?_
      exact z_iret hG hx hb hr hlocks hP hD hS (Nat.le_of_ble_eq_true rfl) (Nat.le_of_ble_eq_true rfl) dL_addBoat_20 (zOk_x hE (by decide) (by decide))
    · refine z_catch (a1 := 0) (b1 := 14) (h1 := 21) (k1 := 17) [(0, 14, 17, 15)] [] hown hta hH hN hex rfl (List.forall_mem_cons.mpr ⟨⟨by decide, "java/lang/IllegalArgumentException", by decide, by decide, wd_5_19⟩, fun _ h => absurd h List.not_mem_nil⟩) (by decide) ⟨by decide, by decide⟩ (by decide) wd_5_20 hc9 hv9 hcl9 ?_
      refine lv_astore (lv' := [(6, Value.ref q9), (0, Value.ref (a 0)), (1, Value.int f), (2, Value.int g), (3, Value.int h), (4, Value.int r), (5, Value.ref o)]) hx hb dL_addBoat_21 hl (by decide) rfl (fun ls hl => ?_)
      refine lv_iconst (v := (2 : Int32)) hx hb dL_addBoat_23 (by decide) ?_
      exact z_iret hG hx hb hr hlocks hP hD hS (Nat.le_of_ble_eq_true rfl) (Nat.le_of_ble_eq_true rfl) dL_addBoat_24 (zOk_x hE (by decide) (by decide))
  obtain ⟨hq, rfl, rfl⟩ := hq
  refine lv_i2l (v := Int32.toInt64 (nI no)) hx hb dL_addBoat_12 rfl ?_
  refine z_lst hx hb hK hP hD hS dL_addBoat_13 (fun H locs hP hD hS => ?_)
  refine lv_goto (tgt := 25) hx hb dL_addBoat_14 (by decide) ?_
  refine lv_iconst (v := (0 : Int32)) hx hb dL_addBoat_25 (by decide) ?_
  exact z_iret hG hx hb hr hlocks hP hD hS (Nat.le_of_ble_eq_true rfl) (Nat.le_of_ble_eq_true rfl) dL_addBoat_26 (zOk_0 hq)
theorem zw_addBoat : (Cond.static yL_addBoat ∈ WA ∧ Cond.initialized RL ∈ WA ∧ Cond.codeWith yL_addBoat cL_addBoat 7 (some .int) [(0, 14, 17, 15), (0, 14, 21, 17)] ∈ WA) ∧ RL ≠ "java/lang/invoke/MethodHandle" ∧ RL ≠ "java/lang/invoke/VarHandle" ∧ (parseMethodDescriptor yL_addBoat.desc).map (fun d => d.parameters.length) = some 6 := ⟨⟨wd_7_22, wd_5_16, wd_7_23⟩, by decide +kernel, by decide +kernel, by decide +kernel⟩
set_option maxHeartbeats 800000 in
set_option maxRecDepth 100000 in
theorem c_L_setTide (l : Launch) (hlt : l.stackTraces = false) (D : va_G) (y : Nat → ClassId) (a : Nat → Nat) (cap clr : Int32) (t : Nat) (hom mov : Int32) (wm : Int64) (tb tf ts : Int32) (nw : Nat) (wf wt : Nat → Int32) (nb : Nat) (bw bl bi bb : Nat → Int32) (no : Nat) (od ow ol ork ob olf oco : Nat → Int32) (pn pb pm : Int32) (pcd pw pli : Nat → Int32) (f : Int32) (g : Int32) (h : Int32)  (o : Nat) (v0 : Nat → Int64) : zWr l D y yL_setTide cL_setTide 6 [(0, 12, 15, 15)] 8 1 6 118 [Value.ref (a 0), Value.int f, Value.int g, Value.int h, Value.ref o] (wB a y cap clr (nI t) hom mov wm tb tf ts (nI nw) wf wt (nI nb) bw bl bi bb (nI no) od ow ol ork ob olf oco pn pb pm pcd pw pli ++ oL y o v0) (fun o9 w9 => zOk (stC f g h) (Int32.toInt64 (lev f g h (nI t))) y o v0 (wB a y cap clr (nI t) hom mov wm f g h (nI nw) wf wt (nI nb) bw bl bi bb (nI no) od ow ol ork ob olf oco pn pb pm pcd pw pli) (wB a y cap clr (nI t) hom mov wm tb tf ts (nI nw) wf wt (nI nb) bw bl bi bb (nI no) od ow ol ork ob olf oco pn pb pm pcd pw pli) o9 w9) := by
  refine zWr.of (by decide +kernel) (Nat.le_of_ble_eq_true rfl) ?_
  intro p e s m args below meth c A ls hx hb hr hta hown hlocks hml hex hH hN hK hP hD hS hA hl
  refine z_gen (fun G hG => ?_)
  have hl : lv_has ls 6 [(0, Value.ref (a 0)), (1, Value.int f), (2, Value.int g), (3, Value.int h), (4, Value.ref o)] := hl
  refine lv_aload hx hb dL_setTide_0 (lv_at hl 4 rfl) ?_
  refine lv_iconst (v := (0 : Int32)) hx hb dL_setTide_2 (by decide) ?_
  refine lv_aload_n hx hb dL_setTide_3 rfl (lv_at hl 0 rfl) ?_
  refine lv_iload_n hx hb dL_setTide_4 rfl (lv_at hl 1 rfl) ?_
  refine lv_iload_n hx hb dL_setTide_5 rfl (lv_at hl 2 rfl) ?_
  refine lv_iload_n hx hb dL_setTide_6 rfl (lv_at hl 3 rfl) ?_
  refine z_xcallVF (wa := []) (w1 := wB a y cap clr (nI t) hom mov wm tb tf ts (nI nw) wf wt (nI nb) bw bl bi bb (nI no) od ow ol ork ob olf oco pn pb pm pcd pw pli) (wb := oL y o v0) (As := [Value.int f, Value.int g, Value.int h]) (rest := [Value.int 0, Value.ref o]) hx hb hml hown hta zm_X5_setTide wd_8_17 (c_X5_setTide l hlt D y a cap clr t hom mov wm tb tf ts nw wf wt nb bw bl bi bb no od ow ol ork ob olf oco pn pb pm pcd pw pli f g h) hN hK hP hD hS hA 0 rfl rfl rfl hl rfl (Nat.le_of_ble_eq_true rfl) ⟨Nat.le_of_ble_eq_true rfl, Nat.le_of_ble_eq_true rfl⟩ ⟨Nat.le_of_ble_eq_true rfl, Nat.le_of_ble_eq_true rfl⟩ dL_setTide_7 (fun E ce q9 w' H locs hE hP hD hS hc9 hv9 hcl9 => ?_) (fun v w' H locs hq hP hD hS => ?_)
  · obtain ⟨hE, rfl⟩ := hE
    obtain ⟨rfl, hE⟩ := hE
    refine z_catch (a1 := 0) (b1 := 12) (h1 := 15) (k1 := 15) [] [] hown hta hH hN hex rfl (fun _ h => absurd h List.not_mem_nil) (by decide) ⟨by decide, by decide⟩ (by decide) wd_5_19 hc9 hv9 hcl9 ?_
    refine lv_astore (lv' := [(5, Value.ref q9), (0, Value.ref (a 0)), (1, Value.int f), (2, Value.int g), (3, Value.int h), (4, Value.ref o)]) hx hb dL_setTide_15 hl (by decide) rfl (fun ls hl => ?_)
    refine lv_iconst (v := (1 : Int32)) hx hb dL_setTide_17 (by decide) ?_
    exact z_iret hG hx hb hr hlocks hP hD hS (Nat.le_of_ble_eq_true rfl) (Nat.le_of_ble_eq_true rfl) dL_setTide_18 (zOk_x hE (by decide) (by decide))
  obtain ⟨hq, rfl, rfl⟩ := hq
  refine lv_i2l (v := Int32.toInt64 (lev f g h (nI t))) hx hb dL_setTide_10 rfl ?_
  refine z_lst hx hb hK hP hD hS dL_setTide_11 (fun H locs hP hD hS => ?_)
  refine lv_goto (tgt := 19) hx hb dL_setTide_12 (by decide) ?_
  refine lv_iconst (v := (0 : Int32)) hx hb dL_setTide_19 (by decide) ?_
  exact z_iret hG hx hb hr hlocks hP hD hS (Nat.le_of_ble_eq_true rfl) (Nat.le_of_ble_eq_true rfl) dL_setTide_20 (zOk_0 hq)
theorem zw_setTide : (Cond.static yL_setTide ∈ WA ∧ Cond.initialized RL ∈ WA ∧ Cond.codeWith yL_setTide cL_setTide 6 (some .int) [(0, 12, 15, 15)] ∈ WA) ∧ RL ≠ "java/lang/invoke/MethodHandle" ∧ RL ≠ "java/lang/invoke/VarHandle" ∧ (parseMethodDescriptor yL_setTide.desc).map (fun d => d.parameters.length) = some 5 := ⟨⟨wd_8_15, wd_5_16, wd_8_16⟩, by decide +kernel, by decide +kernel, by decide +kernel⟩
set_option maxHeartbeats 800000 in
set_option maxRecDepth 100000 in
theorem c_L_setCradle (l : Launch) (hlt : l.stackTraces = false) (D : va_G) (y : Nat → ClassId) (a : Nat → Nat) (cap clr : Int32) (t : Nat) (hom mov : Int32) (wm : Int64) (tb tf ts : Int32) (nw : Nat) (wf wt : Nat → Int32) (nb : Nat) (bw bl bi bb : Nat → Int32) (no : Nat) (od ow ol ork ob olf oco : Nat → Int32) (pn pb pm : Int32) (pcd pw pli : Nat → Int32) (f : Int32) (g : Int32)  (o : Nat) (v0 : Nat → Int64) : zWr l D y yL_setCradle cL_setCradle 5 [(0, 10, 13, 15)] 8 1 6 118 [Value.ref (a 0), Value.int f, Value.int g, Value.ref o] (wB a y cap clr (nI t) hom mov wm tb tf ts (nI nw) wf wt (nI nb) bw bl bi bb (nI no) od ow ol ork ob olf oco pn pb pm pcd pw pli ++ oL y o v0) (fun o9 w9 => zOk (scC f g) (Int32.toInt64 cap) y o v0 (wB a y f g (nI t) hom mov wm tb tf ts (nI nw) wf wt (nI nb) bw bl bi bb (nI no) od ow ol ork ob olf oco pn pb pm pcd pw pli) (wB a y cap clr (nI t) hom mov wm tb tf ts (nI nw) wf wt (nI nb) bw bl bi bb (nI no) od ow ol ork ob olf oco pn pb pm pcd pw pli) o9 w9) := by
  refine zWr.of (by decide +kernel) (Nat.le_of_ble_eq_true rfl) ?_
  intro p e s m args below meth c A ls hx hb hr hta hown hlocks hml hex hH hN hK hP hD hS hA hl
  refine z_gen (fun G hG => ?_)
  have hl : lv_has ls 5 [(0, Value.ref (a 0)), (1, Value.int f), (2, Value.int g), (3, Value.ref o)] := hl
  refine lv_aload_n hx hb dL_setCradle_0 rfl (lv_at hl 3 rfl) ?_
  refine lv_iconst (v := (0 : Int32)) hx hb dL_setCradle_1 (by decide) ?_
  refine lv_aload_n hx hb dL_setCradle_2 rfl (lv_at hl 0 rfl) ?_
  refine lv_iload_n hx hb dL_setCradle_3 rfl (lv_at hl 1 rfl) ?_
  refine lv_iload_n hx hb dL_setCradle_4 rfl (lv_at hl 2 rfl) ?_
  refine z_xcallVF (wa := []) (w1 := wB a y cap clr (nI t) hom mov wm tb tf ts (nI nw) wf wt (nI nb) bw bl bi bb (nI no) od ow ol ork ob olf oco pn pb pm pcd pw pli) (wb := oL y o v0) (As := [Value.int f, Value.int g]) (rest := [Value.int 0, Value.ref o]) hx hb hml hown hta zm_X5_setCradle wd_9_23 (c_X5_setCradle l hlt D y a cap clr t hom mov wm tb tf ts nw wf wt nb bw bl bi bb no od ow ol ork ob olf oco pn pb pm pcd pw pli f g) hN hK hP hD hS hA 0 rfl rfl rfl hl rfl (Nat.le_of_ble_eq_true rfl) ⟨Nat.le_of_ble_eq_true rfl, Nat.le_of_ble_eq_true rfl⟩ ⟨Nat.le_of_ble_eq_true rfl, Nat.le_of_ble_eq_true rfl⟩ dL_setCradle_5 (fun E ce q9 w' H locs hE hP hD hS hc9 hv9 hcl9 => ?_) (fun v w' H locs hq hP hD hS => ?_)
  · obtain ⟨hE, rfl⟩ := hE
    obtain ⟨rfl, hE⟩ := hE
    refine z_catch (a1 := 0) (b1 := 10) (h1 := 13) (k1 := 15) [] [] hown hta hH hN hex rfl (fun _ h => absurd h List.not_mem_nil) (by decide) ⟨by decide, by decide⟩ (by decide) wd_5_19 hc9 hv9 hcl9 ?_
    refine lv_astore (lv' := [(4, Value.ref q9), (0, Value.ref (a 0)), (1, Value.int f), (2, Value.int g), (3, Value.ref o)]) hx hb dL_setCradle_13 hl (by decide) rfl (fun ls hl => ?_)
    refine lv_iconst (v := (1 : Int32)) hx hb dL_setCradle_15 (by decide) ?_
    exact z_iret hG hx hb hr hlocks hP hD hS (Nat.le_of_ble_eq_true rfl) (Nat.le_of_ble_eq_true rfl) dL_setCradle_16 (zOk_x hE (by decide) (by decide))
  obtain ⟨hq, rfl, rfl⟩ := hq
  refine lv_i2l (v := Int32.toInt64 cap) hx hb dL_setCradle_8 rfl ?_
  refine z_lst hx hb hK hP hD hS dL_setCradle_9 (fun H locs hP hD hS => ?_)
  refine lv_goto (tgt := 17) hx hb dL_setCradle_10 (by decide) ?_
  refine lv_iconst (v := (0 : Int32)) hx hb dL_setCradle_17 (by decide) ?_
  exact z_iret hG hx hb hr hlocks hP hD hS (Nat.le_of_ble_eq_true rfl) (Nat.le_of_ble_eq_true rfl) dL_setCradle_18 (zOk_0 hq)
theorem zw_setCradle : (Cond.static yL_setCradle ∈ WA ∧ Cond.initialized RL ∈ WA ∧ Cond.codeWith yL_setCradle cL_setCradle 5 (some .int) [(0, 10, 13, 15)] ∈ WA) ∧ RL ≠ "java/lang/invoke/MethodHandle" ∧ RL ≠ "java/lang/invoke/VarHandle" ∧ (parseMethodDescriptor yL_setCradle.desc).map (fun d => d.parameters.length) = some 4 := ⟨⟨wd_9_21, wd_5_16, wd_9_22⟩, by decide +kernel, by decide +kernel, by decide +kernel⟩
set_option maxHeartbeats 800000 in
set_option maxRecDepth 100000 in
theorem c_L_tellWeather (l : Launch) (hlt : l.stackTraces = false) (D : va_G) (y : Nat → ClassId) (a : Nat → Nat) (cap clr : Int32) (t : Nat) (hom mov : Int32) (wm : Int64) (tb tf ts : Int32) (nw : Nat) (wf wt : Nat → Int32) (nb : Nat) (bw bl bi bb : Nat → Int32) (no : Nat) (od ow ol ork ob olf oco : Nat → Int32) (pn pb pm : Int32) (pcd pw pli : Nat → Int32) (f : Int32) (g : Int32) (hw : nw ≤ 6) (o : Nat) (v0 : Nat → Int64) : zWr l D y yL_tellWeather cL_tellWeather 5 [(0, 10, 13, 15), (0, 10, 17, 17)] 8 1 6 117 [Value.ref (a 0), Value.int f, Value.int g, Value.ref o] (wB a y cap clr (nI t) hom mov wm tb tf ts (nI nw) wf wt (nI nb) bw bl bi bb (nI no) od ow ol ork ob olf oco pn pb pm pcd pw pli ++ oL y o v0) (fun o9 w9 => zOk (twC t nw f g) (Int32.toInt64 (nI (nw + 1))) y o v0 (wB a y cap clr (nI t) hom mov wm tb tf ts (nI (nw + 1)) (upd wf nw f) (upd wt nw g) (nI nb) bw bl bi bb (nI no) od ow ol ork ob olf oco pn pb pm pcd pw pli) (wB a y cap clr (nI t) hom mov wm tb tf ts (nI nw) wf wt (nI nb) bw bl bi bb (nI no) od ow ol ork ob olf oco pn pb pm pcd pw pli) o9 w9) := by
  refine zWr.of (by decide +kernel) (Nat.le_of_ble_eq_true rfl) ?_
  intro p e s m args below meth c A ls hx hb hr hta hown hlocks hml hex hH hN hK hP hD hS hA hl
  refine z_gen (fun G hG => ?_)
  have hl : lv_has ls 5 [(0, Value.ref (a 0)), (1, Value.int f), (2, Value.int g), (3, Value.ref o)] := hl
  refine lv_aload_n hx hb dL_tellWeather_0 rfl (lv_at hl 3 rfl) ?_
  refine lv_iconst (v := (0 : Int32)) hx hb dL_tellWeather_1 (by decide) ?_
  refine lv_aload_n hx hb dL_tellWeather_2 rfl (lv_at hl 0 rfl) ?_
  refine lv_iload_n hx hb dL_tellWeather_3 rfl (lv_at hl 1 rfl) ?_
  refine lv_iload_n hx hb dL_tellWeather_4 rfl (lv_at hl 2 rfl) ?_
  refine z_xcallVF (wa := []) (w1 := wB a y cap clr (nI t) hom mov wm tb tf ts (nI nw) wf wt (nI nb) bw bl bi bb (nI no) od ow ol ork ob olf oco pn pb pm pcd pw pli) (wb := oL y o v0) (As := [Value.int f, Value.int g]) (rest := [Value.int 0, Value.ref o]) hx hb hml hown hta zm_X5_tellWeather wd_10_10 (c_X5_tellWeather l hlt D y a cap clr t hom mov wm tb tf ts nw wf wt nb bw bl bi bb no od ow ol ork ob olf oco pn pb pm pcd pw pli f g hw) hN hK hP hD hS hA 0 rfl rfl rfl hl rfl (Nat.le_of_ble_eq_true rfl) ⟨Nat.le_of_ble_eq_true rfl, Nat.le_of_ble_eq_true rfl⟩ ⟨Nat.le_of_ble_eq_true rfl, Nat.le_of_ble_eq_true rfl⟩ dL_tellWeather_5 (fun E ce q9 w' H locs hE hP hD hS hc9 hv9 hcl9 => ?_) (fun v w' H locs hq hP hD hS => ?_)
  · obtain ⟨hE, rfl⟩ := hE
    rcases hE with ⟨rfl, hE⟩ | ⟨rfl, hE⟩
    · refine z_catch (a1 := 0) (b1 := 10) (h1 := 13) (k1 := 15) [] [(0, 10, 17, 17)] hown hta hH hN hex rfl (fun _ h => absurd h List.not_mem_nil) (by decide) ⟨by decide, by decide⟩ (by decide) wd_5_19 hc9 hv9 hcl9 ?_
      refine lv_astore (lv' := [(4, Value.ref q9), (0, Value.ref (a 0)), (1, Value.int f), (2, Value.int g), (3, Value.ref o)]) hx hb dL_tellWeather_13 hl (by decide) rfl (fun ls hl => ?_)
      refine lv_iconst (v := (1 : Int32)) hx hb dL_tellWeather_15 (by decide) ?_
      exact z_iret hG hx hb hr hlocks hP hD hS (Nat.le_of_ble_eq_true rfl) (Nat.le_of_ble_eq_true rfl) dL_tellWeather_16 (zOk_x hE (by decide) (by decide))
    · refine z_catch (a1 := 0) (b1 := 10) (h1 := 17) (k1 := 17) [(0, 10, 13, 15)] [] hown hta hH hN hex rfl (List.forall_mem_cons.mpr ⟨⟨by decide, "java/lang/IllegalArgumentException", by decide, by decide, wd_5_19⟩, fun _ h => absurd h List.not_mem_nil⟩) (by decide) ⟨by decide, by decide⟩ (by decide) wd_5_20 hc9 hv9 hcl9 ?_
      refine lv_astore (lv' := [(4, Value.ref q9), (0, Value.ref (a 0)), (1, Value.int f), (2, Value.int g), (3, Value.ref o)]) hx hb dL_tellWeather_17 hl (by decide) rfl (fun ls hl => ?_)
      refine lv_iconst (v := (2 : Int32)) hx hb dL_tellWeather_19 (by decide) ?_
      exact z_iret hG hx hb hr hlocks hP hD hS (Nat.le_of_ble_eq_true rfl) (Nat.le_of_ble_eq_true rfl) dL_tellWeather_20 (zOk_x hE (by decide) (by decide))
  obtain ⟨hq, rfl, rfl⟩ := hq
  refine lv_i2l (v := Int32.toInt64 (nI (nw + 1))) hx hb dL_tellWeather_8 rfl ?_
  refine z_lst hx hb hK hP hD hS dL_tellWeather_9 (fun H locs hP hD hS => ?_)
  refine lv_goto (tgt := 21) hx hb dL_tellWeather_10 (by decide) ?_
  refine lv_iconst (v := (0 : Int32)) hx hb dL_tellWeather_21 (by decide) ?_
  exact z_iret hG hx hb hr hlocks hP hD hS (Nat.le_of_ble_eq_true rfl) (Nat.le_of_ble_eq_true rfl) dL_tellWeather_22 (zOk_0 hq)
theorem zw_tellWeather : (Cond.static yL_tellWeather ∈ WA ∧ Cond.initialized RL ∈ WA ∧ Cond.codeWith yL_tellWeather cL_tellWeather 5 (some .int) [(0, 10, 13, 15), (0, 10, 17, 17)] ∈ WA) ∧ RL ≠ "java/lang/invoke/MethodHandle" ∧ RL ≠ "java/lang/invoke/VarHandle" ∧ (parseMethodDescriptor yL_tellWeather.desc).map (fun d => d.parameters.length) = some 4 := ⟨⟨wd_10_8, wd_5_16, wd_10_9⟩, by decide +kernel, by decide +kernel, by decide +kernel⟩
set_option maxHeartbeats 800000 in
set_option maxRecDepth 100000 in
theorem c_L_level (l : Launch) (hlt : l.stackTraces = false) (D : va_G) (y : Nat → ClassId) (a : Nat → Nat) (cap clr : Int32) (t : Nat) (hom mov : Int32) (wm : Int64) (tb tf ts : Int32) (nw : Nat) (wf wt : Nat → Int32) (nb : Nat) (bw bl bi bb : Nat → Int32) (no : Nat) (od ow ol ork ob olf oco : Nat → Int32) (pn pb pm : Int32) (pcd pw pli : Nat → Int32) (h : Int32)  (o : Nat) (v0 : Nat → Int64) : zWr l D y yL_level cL_level 4 [(0, 9, 12, 15)] 9 1 6 137 [Value.ref (a 0), Value.int h, Value.ref o] (wB a y cap clr (nI t) hom mov wm tb tf ts (nI nw) wf wt (nI nb) bw bl bi bb (nI no) od ow ol ork ob olf oco pn pb pm pcd pw pli ++ oL y o v0) (fun o9 w9 => zOk (hoC h) (Int32.toInt64 (lev tb tf ts h)) y o v0 (wB a y cap clr (nI t) hom mov wm tb tf ts (nI nw) wf wt (nI nb) bw bl bi bb (nI no) od ow ol ork ob olf oco pn pb pm pcd pw pli) (wB a y cap clr (nI t) hom mov wm tb tf ts (nI nw) wf wt (nI nb) bw bl bi bb (nI no) od ow ol ork ob olf oco pn pb pm pcd pw pli) o9 w9) := by
  refine zWr.of (by decide +kernel) (Nat.le_of_ble_eq_true rfl) ?_
  intro p e s m args below meth c A ls hx hb hr hta hown hlocks hml hex hH hN hK hP hD hS hA hl
  refine z_gen (fun G hG => ?_)
  have hl : lv_has ls 4 [(0, Value.ref (a 0)), (1, Value.int h), (2, Value.ref o)] := hl
  refine lv_aload_n hx hb dL_level_0 rfl (lv_at hl 2 rfl) ?_
  refine lv_iconst (v := (0 : Int32)) hx hb dL_level_1 (by decide) ?_
  refine lv_aload_n hx hb dL_level_2 rfl (lv_at hl 0 rfl) ?_
  refine lv_iload_n hx hb dL_level_3 rfl (lv_at hl 1 rfl) ?_
  refine z_xcallVF (wa := []) (w1 := wB a y cap clr (nI t) hom mov wm tb tf ts (nI nw) wf wt (nI nb) bw bl bi bb (nI no) od ow ol ork ob olf oco pn pb pm pcd pw pli) (wb := oL y o v0) (As := [Value.int h]) (rest := [Value.int 0, Value.ref o]) hx hb hml hown hta zm_X5_level wd_11_15 (c_X5_level l hlt D y a cap clr t hom mov wm tb tf ts nw wf wt nb bw bl bi bb no od ow ol ork ob olf oco pn pb pm pcd pw pli h) hN hK hP hD hS hA 0 rfl rfl rfl hl rfl (Nat.le_of_ble_eq_true rfl) ⟨Nat.le_of_ble_eq_true rfl, Nat.le_of_ble_eq_true rfl⟩ ⟨Nat.le_of_ble_eq_true rfl, Nat.le_of_ble_eq_true rfl⟩ dL_level_4 (fun E ce q9 w' H locs hE hP hD hS hc9 hv9 hcl9 => ?_) (fun v w' H locs hq hP hD hS => ?_)
  · obtain ⟨hE, rfl⟩ := hE
    obtain ⟨rfl, hE⟩ := hE
    refine z_catch (a1 := 0) (b1 := 9) (h1 := 12) (k1 := 15) [] [] hown hta hH hN hex rfl (fun _ h => absurd h List.not_mem_nil) (by decide) ⟨by decide, by decide⟩ (by decide) wd_5_19 hc9 hv9 hcl9 ?_
    refine lv_astore_n (lv' := [(3, Value.ref q9), (0, Value.ref (a 0)), (1, Value.int h), (2, Value.ref o)]) hx hb dL_level_12 rfl hl (by decide) rfl (fun ls hl => ?_)
    refine lv_iconst (v := (1 : Int32)) hx hb dL_level_13 (by decide) ?_
    exact z_iret hG hx hb hr hlocks hP hD hS (Nat.le_of_ble_eq_true rfl) (Nat.le_of_ble_eq_true rfl) dL_level_14 (zOk_x hE (by decide) (by decide))
  obtain ⟨hq, rfl, rfl⟩ := hq
  refine lv_i2l (v := Int32.toInt64 (lev tb tf ts h)) hx hb dL_level_7 rfl ?_
  refine z_lst hx hb hK hP hD hS dL_level_8 (fun H locs hP hD hS => ?_)
  refine lv_goto (tgt := 15) hx hb dL_level_9 (by decide) ?_
  refine lv_iconst (v := (0 : Int32)) hx hb dL_level_15 (by decide) ?_
  exact z_iret hG hx hb hr hlocks hP hD hS (Nat.le_of_ble_eq_true rfl) (Nat.le_of_ble_eq_true rfl) dL_level_16 (zOk_0 hq)
theorem zw_level : (Cond.static yL_level ∈ WA ∧ Cond.initialized RL ∈ WA ∧ Cond.codeWith yL_level cL_level 4 (some .int) [(0, 9, 12, 15)] ∈ WA) ∧ RL ≠ "java/lang/invoke/MethodHandle" ∧ RL ≠ "java/lang/invoke/VarHandle" ∧ (parseMethodDescriptor yL_level.desc).map (fun d => d.parameters.length) = some 3 := ⟨⟨wd_11_13, wd_5_16, wd_11_14⟩, by decide +kernel, by decide +kernel, by decide +kernel⟩
set_option maxHeartbeats 800000 in
set_option maxRecDepth 100000 in
theorem c_L_isBad (l : Launch) (hlt : l.stackTraces = false) (D : va_G) (y : Nat → ClassId) (a : Nat → Nat) (cap clr : Int32) (t : Nat) (hom mov : Int32) (wm : Int64) (tb tf ts : Int32) (nw : Nat) (wf wt : Nat → Int32) (nb : Nat) (bw bl bi bb : Nat → Int32) (no : Nat) (od ow ol ork ob olf oco : Nat → Int32) (pn pb pm : Int32) (pcd pw pli : Nat → Int32) (h : Int32) (hw : nw ≤ 6) (o : Nat) (v0 : Nat → Int64) : zWr l D y yL_isBad cL_isBad 4 [(0, 16, 19, 15)] 9 1 6 137 [Value.ref (a 0), Value.int h, Value.ref o] (wB a y cap clr (nI t) hom mov wm tb tf ts (nI nw) wf wt (nI nb) bw bl bi bb (nI no) od ow ol ork ob olf oco pn pb pm pcd pw pli ++ oL y o v0) (fun o9 w9 => zOk (hoC h) (Int32.toInt64 (bI (badF wf wt nw h))) y o v0 (wB a y cap clr (nI t) hom mov wm tb tf ts (nI nw) wf wt (nI nb) bw bl bi bb (nI no) od ow ol ork ob olf oco pn pb pm pcd pw pli) (wB a y cap clr (nI t) hom mov wm tb tf ts (nI nw) wf wt (nI nb) bw bl bi bb (nI no) od ow ol ork ob olf oco pn pb pm pcd pw pli) o9 w9) := by
  refine zWr.of (by decide +kernel) (Nat.le_of_ble_eq_true rfl) ?_
  intro p e s m args below meth c A ls hx hb hr hta hown hlocks hml hex hH hN hK hP hD hS hA hl
  refine z_gen (fun G hG => ?_)
  have hl : lv_has ls 4 [(0, Value.ref (a 0)), (1, Value.int h), (2, Value.ref o)] := hl
  refine lv_aload_n hx hb dL_isBad_0 rfl (lv_at hl 2 rfl) ?_
  refine lv_iconst (v := (0 : Int32)) hx hb dL_isBad_1 (by decide) ?_
  refine lv_aload_n hx hb dL_isBad_2 rfl (lv_at hl 0 rfl) ?_
  refine lv_iload_n hx hb dL_isBad_3 rfl (lv_at hl 1 rfl) ?_
  refine z_xcallVF (wa := []) (w1 := wB a y cap clr (nI t) hom mov wm tb tf ts (nI nw) wf wt (nI nb) bw bl bi bb (nI no) od ow ol ork ob olf oco pn pb pm pcd pw pli) (wb := oL y o v0) (As := [Value.int h]) (rest := [Value.int 0, Value.ref o]) hx hb hml hown hta zm_X5_isBad wd_12_6 (c_X5_isBad l hlt D y a cap clr t hom mov wm tb tf ts nw wf wt nb bw bl bi bb no od ow ol ork ob olf oco pn pb pm pcd pw pli h hw) hN hK hP hD hS hA 0 rfl rfl rfl hl rfl (Nat.le_of_ble_eq_true rfl) ⟨Nat.le_of_ble_eq_true rfl, Nat.le_of_ble_eq_true rfl⟩ ⟨Nat.le_of_ble_eq_true rfl, Nat.le_of_ble_eq_true rfl⟩ dL_isBad_4 (fun E ce q9 w' H locs hE hP hD hS hc9 hv9 hcl9 => ?_) (fun v w' H locs hq hP hD hS => ?_)
  · obtain ⟨hE, rfl⟩ := hE
    obtain ⟨rfl, hE⟩ := hE
    refine z_catch (a1 := 0) (b1 := 16) (h1 := 19) (k1 := 15) [] [] hown hta hH hN hex rfl (fun _ h => absurd h List.not_mem_nil) (by decide) ⟨by decide, by decide⟩ (by decide) wd_5_19 hc9 hv9 hcl9 ?_
    refine lv_astore_n (lv' := [(3, Value.ref q9), (0, Value.ref (a 0)), (1, Value.int h), (2, Value.ref o)]) hx hb dL_isBad_19 rfl hl (by decide) rfl (fun ls hl => ?_)
    refine lv_iconst (v := (1 : Int32)) hx hb dL_isBad_20 (by decide) ?_
    exact z_iret hG hx hb hr hlocks hP hD hS (Nat.le_of_ble_eq_true rfl) (Nat.le_of_ble_eq_true rfl) dL_isBad_21 (zOk_x hE (by decide) (by decide))
  obtain ⟨hq, rfl, rfl⟩ := hq
  refine lv_if_eq (tgt := 14) hx hb dL_isBad_7 (by decide) (fun c9 => ?_) (fun c9 => ?_)
  · refine lv_lconst (v := (0 : Int64)) hx hb dL_isBad_14 (by decide) ?_
    have ex : (0 : Int64) = Int32.toInt64 (bI (badF wf wt nw h)) := by
      have c9 := bI_0 c9
      rw [c9]; decide
    rw [ex]
    refine z_lst hx hb hK hP hD hS dL_isBad_15 (fun H locs hP hD hS => ?_)
    refine lv_goto (tgt := 22) hx hb dL_isBad_16 (by decide) ?_
    refine lv_iconst (v := (0 : Int32)) hx hb dL_isBad_22 (by decide) ?_
    exact z_iret hG hx hb hr hlocks hP hD hS (Nat.le_of_ble_eq_true rfl) (Nat.le_of_ble_eq_true rfl) dL_isBad_23 (zOk_0 hq)
  · refine lv_lconst (v := (1 : Int64)) hx hb dL_isBad_10 (by decide) ?_
    refine lv_goto (tgt := 15) hx hb dL_isBad_11 (by decide) ?_
    have ex : (1 : Int64) = Int32.toInt64 (bI (badF wf wt nw h)) := by
      have c9 := bI_1 c9
      rw [c9]; decide
    rw [ex]
    refine z_lst hx hb hK hP hD hS dL_isBad_15 (fun H locs hP hD hS => ?_)
    refine lv_goto (tgt := 22) hx hb dL_isBad_16 (by decide) ?_
    refine lv_iconst (v := (0 : Int32)) hx hb dL_isBad_22 (by decide) ?_
    exact z_iret hG hx hb hr hlocks hP hD hS (Nat.le_of_ble_eq_true rfl) (Nat.le_of_ble_eq_true rfl) dL_isBad_23 (zOk_0 hq)
theorem zw_isBad : (Cond.static yL_isBad ∈ WA ∧ Cond.initialized RL ∈ WA ∧ Cond.codeWith yL_isBad cL_isBad 4 (some .int) [(0, 16, 19, 15)] ∈ WA) ∧ RL ≠ "java/lang/invoke/MethodHandle" ∧ RL ≠ "java/lang/invoke/VarHandle" ∧ (parseMethodDescriptor yL_isBad.desc).map (fun d => d.parameters.length) = some 3 := ⟨⟨wd_12_4, wd_5_16, wd_12_5⟩, by decide +kernel, by decide +kernel, by decide +kernel⟩
set_option maxHeartbeats 800000 in
set_option maxRecDepth 100000 in
theorem c_L_floodHours (l : Launch) (hlt : l.stackTraces = false) (D : va_G) (y : Nat → ClassId) (a : Nat → Nat) (cap clr : Int32) (t : Nat) (hom mov : Int32) (wm : Int64) (tb tf ts : Int32) (nw : Nat) (wf wt : Nat → Int32) (nb : Nat) (bw bl bi bb : Nat → Int32) (no : Nat) (od ow ol ork ob olf oco : Nat → Int32) (pn pb pm : Int32) (pcd pw pli : Nat → Int32) (b : Int32) (h : Int32) (hb8 : no ≤ 8) (ht : t ≤ 9999) (o : Nat) (v0 : Nat → Int64) : zWr l D y yL_floodHours cL_floodHours 5 [(0, 10, 13, 13), (0, 10, 17, 15)] 10 2 12 162 [Value.ref (a 0), Value.int b, Value.int h, Value.ref o] (wB a y cap clr (nI t) hom mov wm tb tf ts (nI nw) wf wt (nI nb) bw bl bi bb (nI no) od ow ol ork ob olf oco pn pb pm pcd pw pli ++ oL y o v0) (fun o9 w9 => zOk (fhC no b h) (Int32.toInt64 (nI (fb_ct (fun k => enW tb tf ts clr od (nN b) (nI (t + k))) (nN h)))) y o v0 (wB a y cap clr (nI t) hom mov wm tb tf ts (nI nw) wf wt (nI nb) bw bl bi bb (nI no) od ow ol ork ob olf oco pn pb pm pcd pw pli) (wB a y cap clr (nI t) hom mov wm tb tf ts (nI nw) wf wt (nI nb) bw bl bi bb (nI no) od ow ol ork ob olf oco pn pb pm pcd pw pli) o9 w9) := by
  refine zWr.of (by decide +kernel) (Nat.le_of_ble_eq_true rfl) ?_
  intro p e s m args below meth c A ls hx hb hr hta hown hlocks hml hex hH hN hK hP hD hS hA hl
  refine z_gen (fun G hG => ?_)
  have hl : lv_has ls 5 [(0, Value.ref (a 0)), (1, Value.int b), (2, Value.int h), (3, Value.ref o)] := hl
  refine lv_aload_n hx hb dL_floodHours_0 rfl (lv_at hl 3 rfl) ?_
  refine lv_iconst (v := (0 : Int32)) hx hb dL_floodHours_1 (by decide) ?_
  refine lv_aload_n hx hb dL_floodHours_2 rfl (lv_at hl 0 rfl) ?_
  refine lv_iload_n hx hb dL_floodHours_3 rfl (lv_at hl 1 rfl) ?_
  refine lv_iload_n hx hb dL_floodHours_4 rfl (lv_at hl 2 rfl) ?_
  refine z_xcallVF (wa := []) (w1 := wB a y cap clr (nI t) hom mov wm tb tf ts (nI nw) wf wt (nI nb) bw bl bi bb (nI no) od ow ol ork ob olf oco pn pb pm pcd pw pli) (wb := oL y o v0) (As := [Value.int b, Value.int h]) (rest := [Value.int 0, Value.ref o]) hx hb hml hown hta zm_X5_floodHours wd_13_1 (c_X5_floodHours l hlt D y a cap clr t hom mov wm tb tf ts nw wf wt nb bw bl bi bb no od ow ol ork ob olf oco pn pb pm pcd pw pli b h hb8 ht) hN hK hP hD hS hA 0 rfl rfl rfl hl rfl (Nat.le_of_ble_eq_true rfl) ⟨Nat.le_of_ble_eq_true rfl, Nat.le_of_ble_eq_true rfl⟩ ⟨Nat.le_of_ble_eq_true rfl, Nat.le_of_ble_eq_true rfl⟩ dL_floodHours_5 (fun E ce q9 w' H locs hE hP hD hS hc9 hv9 hcl9 => ?_) (fun v w' H locs hq hP hD hS => ?_)
  · obtain ⟨hE, rfl⟩ := hE
    rcases hE with ⟨rfl, hE⟩ | ⟨rfl, hE⟩
    · refine z_catch (a1 := 0) (b1 := 10) (h1 := 13) (k1 := 13) [] [(0, 10, 17, 15)] hown hta hH hN hex rfl (fun _ h => absurd h List.not_mem_nil) (by decide) ⟨by decide, by decide⟩ (by decide) wd_5_18 hc9 hv9 hcl9 ?_
      refine lv_astore (lv' := [(4, Value.ref q9), (0, Value.ref (a 0)), (1, Value.int b), (2, Value.int h), (3, Value.ref o)]) hx hb dL_floodHours_13 hl (by decide) rfl (fun ls hl => ?_)
      refine lv_iconst (v := (1 : Int32)) hx hb dL_floodHours_15 (by decide) ?_
      exact z_iret hG hx hb hr hlocks hP hD hS (Nat.le_of_ble_eq_true rfl) (Nat.le_of_ble_eq_true rfl) dL_floodHours_16 (zOk_x hE (by decide) (by decide))
    · refine z_catch (a1 := 0) (b1 := 10) (h1 := 17) (k1 := 15) [(0, 10, 13, 13)] [] hown hta hH hN hex rfl (List.forall_mem_cons.mpr ⟨⟨by decide, "java/lang/IndexOutOfBoundsException", by decide, by decide, wd_5_18⟩, fun _ h => absurd h List.not_mem_nil⟩) (by decide) ⟨by decide, by decide⟩ (by decide) wd_5_19 hc9 hv9 hcl9 ?_
      refine lv_astore (lv' := [(4, Value.ref q9), (0, Value.ref (a 0)), (1, Value.int b), (2, Value.int h), (3, Value.ref o)]) hx hb dL_floodHours_17 hl (by decide) rfl (fun ls hl => ?_)
      refine lv_iconst (v := (2 : Int32)) hx hb dL_floodHours_19 (by decide) ?_
      exact z_iret hG hx hb hr hlocks hP hD hS (Nat.le_of_ble_eq_true rfl) (Nat.le_of_ble_eq_true rfl) dL_floodHours_20 (zOk_x hE (by decide) (by decide))
  obtain ⟨hq, rfl, rfl⟩ := hq
  refine lv_i2l (v := Int32.toInt64 (nI (fb_ct (fun k => enW tb tf ts clr od (nN b) (nI (t + k))) (nN h)))) hx hb dL_floodHours_8 rfl ?_
  refine z_lst hx hb hK hP hD hS dL_floodHours_9 (fun H locs hP hD hS => ?_)
  refine lv_goto (tgt := 21) hx hb dL_floodHours_10 (by decide) ?_
  refine lv_iconst (v := (0 : Int32)) hx hb dL_floodHours_21 (by decide) ?_
  exact z_iret hG hx hb hr hlocks hP hD hS (Nat.le_of_ble_eq_true rfl) (Nat.le_of_ble_eq_true rfl) dL_floodHours_22 (zOk_0 hq)
theorem zw_floodHours : (Cond.static yL_floodHours ∈ WA ∧ Cond.initialized RL ∈ WA ∧ Cond.codeWith yL_floodHours cL_floodHours 5 (some .int) [(0, 10, 13, 13), (0, 10, 17, 15)] ∈ WA) ∧ RL ≠ "java/lang/invoke/MethodHandle" ∧ RL ≠ "java/lang/invoke/VarHandle" ∧ (parseMethodDescriptor yL_floodHours.desc).map (fun d => d.parameters.length) = some 4 := ⟨⟨wd_12_23, wd_5_16, wd_13_0⟩, by decide +kernel, by decide +kernel, by decide +kernel⟩
set_option maxHeartbeats 800000 in
set_option maxRecDepth 100000 in
theorem c_L_floodByHours (l : Launch) (hlt : l.stackTraces = false) (D : va_G) (y : Nat → ClassId) (a : Nat → Nat) (cap clr : Int32) (t : Nat) (hom mov : Int32) (wm : Int64) (tb tf ts : Int32) (nw : Nat) (wf wt : Nat → Int32) (nb : Nat) (bw bl bi bb : Nat → Int32) (no : Nat) (od ow ol ork ob olf oco : Nat → Int32) (pn pb pm : Int32) (pcd pw pli : Nat → Int32) (b : Int32) (h : Int32) (hb8 : no ≤ 8) (ht : t ≤ 9999) (o : Nat) (v0 : Nat → Int64) : zWr l D y yL_floodByHours cL_floodByHours 5 [(0, 10, 13, 13), (0, 10, 17, 15)] 10 2 12 160 [Value.ref (a 0), Value.int b, Value.int h, Value.ref o] (wB a y cap clr (nI t) hom mov wm tb tf ts (nI nw) wf wt (nI nb) bw bl bi bb (nI no) od ow ol ork ob olf oco pn pb pm pcd pw pli ++ oL y o v0) (fun o9 w9 => zOk (fhC no b h) (Int32.toInt64 (nI (fb_ct (fun k => enW tb tf ts clr od (nN b) (nI (t + k))) (nN h)))) y o v0 (wB a y cap clr (nI t) hom mov wm tb tf ts (nI nw) wf wt (nI nb) bw bl bi bb (nI no) od ow ol ork ob olf oco pn pb pm pcd pw pli) (wB a y cap clr (nI t) hom mov wm tb tf ts (nI nw) wf wt (nI nb) bw bl bi bb (nI no) od ow ol ork ob olf oco pn pb pm pcd pw pli) o9 w9) := by
  refine zWr.of (by decide +kernel) (Nat.le_of_ble_eq_true rfl) ?_
  intro p e s m args below meth c A ls hx hb hr hta hown hlocks hml hex hH hN hK hP hD hS hA hl
  refine z_gen (fun G hG => ?_)
  have hl : lv_has ls 5 [(0, Value.ref (a 0)), (1, Value.int b), (2, Value.int h), (3, Value.ref o)] := hl
  refine lv_aload_n hx hb dL_floodByHours_0 rfl (lv_at hl 3 rfl) ?_
  refine lv_iconst (v := (0 : Int32)) hx hb dL_floodByHours_1 (by decide) ?_
  refine lv_aload_n hx hb dL_floodByHours_2 rfl (lv_at hl 0 rfl) ?_
  refine lv_iload_n hx hb dL_floodByHours_3 rfl (lv_at hl 1 rfl) ?_
  refine lv_iload_n hx hb dL_floodByHours_4 rfl (lv_at hl 2 rfl) ?_
  refine z_xcallVF (wa := []) (w1 := wB a y cap clr (nI t) hom mov wm tb tf ts (nI nw) wf wt (nI nb) bw bl bi bb (nI no) od ow ol ork ob olf oco pn pb pm pcd pw pli) (wb := oL y o v0) (As := [Value.int b, Value.int h]) (rest := [Value.int 0, Value.ref o]) hx hb hml hown hta zm_X5_floodByHours wd_14_21 (c_X5_floodByHours l hlt D y a cap clr t hom mov wm tb tf ts nw wf wt nb bw bl bi bb no od ow ol ork ob olf oco pn pb pm pcd pw pli b h hb8 ht) hN hK hP hD hS hA 0 rfl rfl rfl hl rfl (Nat.le_of_ble_eq_true rfl) ⟨Nat.le_of_ble_eq_true rfl, Nat.le_of_ble_eq_true rfl⟩ ⟨Nat.le_of_ble_eq_true rfl, Nat.le_of_ble_eq_true rfl⟩ dL_floodByHours_5 (fun E ce q9 w' H locs hE hP hD hS hc9 hv9 hcl9 => ?_) (fun v w' H locs hq hP hD hS => ?_)
  · obtain ⟨hE, rfl⟩ := hE
    rcases hE with ⟨rfl, hE⟩ | ⟨rfl, hE⟩
    · refine z_catch (a1 := 0) (b1 := 10) (h1 := 13) (k1 := 13) [] [(0, 10, 17, 15)] hown hta hH hN hex rfl (fun _ h => absurd h List.not_mem_nil) (by decide) ⟨by decide, by decide⟩ (by decide) wd_5_18 hc9 hv9 hcl9 ?_
      refine lv_astore (lv' := [(4, Value.ref q9), (0, Value.ref (a 0)), (1, Value.int b), (2, Value.int h), (3, Value.ref o)]) hx hb dL_floodByHours_13 hl (by decide) rfl (fun ls hl => ?_)
      refine lv_iconst (v := (1 : Int32)) hx hb dL_floodByHours_15 (by decide) ?_
      exact z_iret hG hx hb hr hlocks hP hD hS (Nat.le_of_ble_eq_true rfl) (Nat.le_of_ble_eq_true rfl) dL_floodByHours_16 (zOk_x hE (by decide) (by decide))
    · refine z_catch (a1 := 0) (b1 := 10) (h1 := 17) (k1 := 15) [(0, 10, 13, 13)] [] hown hta hH hN hex rfl (List.forall_mem_cons.mpr ⟨⟨by decide, "java/lang/IndexOutOfBoundsException", by decide, by decide, wd_5_18⟩, fun _ h => absurd h List.not_mem_nil⟩) (by decide) ⟨by decide, by decide⟩ (by decide) wd_5_19 hc9 hv9 hcl9 ?_
      refine lv_astore (lv' := [(4, Value.ref q9), (0, Value.ref (a 0)), (1, Value.int b), (2, Value.int h), (3, Value.ref o)]) hx hb dL_floodByHours_17 hl (by decide) rfl (fun ls hl => ?_)
      refine lv_iconst (v := (2 : Int32)) hx hb dL_floodByHours_19 (by decide) ?_
      exact z_iret hG hx hb hr hlocks hP hD hS (Nat.le_of_ble_eq_true rfl) (Nat.le_of_ble_eq_true rfl) dL_floodByHours_20 (zOk_x hE (by decide) (by decide))
  obtain ⟨hq, rfl, rfl⟩ := hq
  refine lv_i2l (v := Int32.toInt64 (nI (fb_ct (fun k => enW tb tf ts clr od (nN b) (nI (t + k))) (nN h)))) hx hb dL_floodByHours_8 rfl ?_
  refine z_lst hx hb hK hP hD hS dL_floodByHours_9 (fun H locs hP hD hS => ?_)
  refine lv_goto (tgt := 21) hx hb dL_floodByHours_10 (by decide) ?_
  refine lv_iconst (v := (0 : Int32)) hx hb dL_floodByHours_21 (by decide) ?_
  exact z_iret hG hx hb hr hlocks hP hD hS (Nat.le_of_ble_eq_true rfl) (Nat.le_of_ble_eq_true rfl) dL_floodByHours_22 (zOk_0 hq)
theorem zw_floodByHours : (Cond.static yL_floodByHours ∈ WA ∧ Cond.initialized RL ∈ WA ∧ Cond.codeWith yL_floodByHours cL_floodByHours 5 (some .int) [(0, 10, 13, 13), (0, 10, 17, 15)] ∈ WA) ∧ RL ≠ "java/lang/invoke/MethodHandle" ∧ RL ≠ "java/lang/invoke/VarHandle" ∧ (parseMethodDescriptor yL_floodByHours.desc).map (fun d => d.parameters.length) = some 4 := ⟨⟨wd_14_19, wd_5_16, wd_14_20⟩, by decide +kernel, by decide +kernel, by decide +kernel⟩
set_option maxHeartbeats 800000 in
set_option maxRecDepth 100000 in
theorem c_L_nextFlood (l : Launch) (hlt : l.stackTraces = false) (D : va_G) (y : Nat → ClassId) (a : Nat → Nat) (cap clr : Int32) (t : Nat) (hom mov : Int32) (wm : Int64) (tb tf ts : Int32) (nw : Nat) (wf wt : Nat → Int32) (nb : Nat) (bw bl bi bb : Nat → Int32) (no : Nat) (od ow ol ork ob olf oco : Nat → Int32) (pn pb pm : Int32) (pcd pw pli : Nat → Int32) (b : Int32) (hb8 : no ≤ 8) (hw : nw ≤ 6) (ht : t ≤ 9999) (o : Nat) (v0 : Nat → Int64) : zWr l D y yL_nextFlood cL_nextFlood 4 [(0, 9, 12, 13), (0, 9, 15, 50)] 9 2 12 139 [Value.ref (a 0), Value.int b, Value.ref o] (wB a y cap clr (nI t) hom mov wm tb tf ts (nI nw) wf wt (nI nb) bw bl bi bb (nI no) od ow ol ork ob olf oco pn pb pm pcd pw pli ++ oL y o v0) (fun o9 w9 => zOk (nfC tb tf ts clr wf wt nw od no t b) (Int32.toInt64 (nI (t + nfK tb tf ts clr wf wt nw od (nN b) t))) y o v0 (wB a y cap clr (nI t) hom mov wm tb tf ts (nI nw) wf wt (nI nb) bw bl bi bb (nI no) od ow ol ork ob olf oco pn pb pm pcd pw pli) (wB a y cap clr (nI t) hom mov wm tb tf ts (nI nw) wf wt (nI nb) bw bl bi bb (nI no) od ow ol ork ob olf oco pn pb pm pcd pw pli) o9 w9) := by
  refine zWr.of (by decide +kernel) (Nat.le_of_ble_eq_true rfl) ?_
  intro p e s m args below meth c A ls hx hb hr hta hown hlocks hml hex hH hN hK hP hD hS hA hl
  refine z_gen (fun G hG => ?_)
  have hl : lv_has ls 4 [(0, Value.ref (a 0)), (1, Value.int b), (2, Value.ref o)] := hl
  refine lv_aload_n hx hb dL_nextFlood_0 rfl (lv_at hl 2 rfl) ?_
  refine lv_iconst (v := (0 : Int32)) hx hb dL_nextFlood_1 (by decide) ?_
  refine lv_aload_n hx hb dL_nextFlood_2 rfl (lv_at hl 0 rfl) ?_
  refine lv_iload_n hx hb dL_nextFlood_3 rfl (lv_at hl 1 rfl) ?_
  refine z_xcallVF (wa := []) (w1 := wB a y cap clr (nI t) hom mov wm tb tf ts (nI nw) wf wt (nI nb) bw bl bi bb (nI no) od ow ol ork ob olf oco pn pb pm pcd pw pli) (wb := oL y o v0) (As := [Value.int b]) (rest := [Value.int 0, Value.ref o]) hx hb hml hown hta zm_X5_nextFlood wd_15_9 (c_X5_nextFlood l hlt D y a cap clr t hom mov wm tb tf ts nw wf wt nb bw bl bi bb no od ow ol ork ob olf oco pn pb pm pcd pw pli b hb8 hw ht) hN hK hP hD hS hA 0 rfl rfl rfl hl rfl (Nat.le_of_ble_eq_true rfl) ⟨Nat.le_of_ble_eq_true rfl, Nat.le_of_ble_eq_true rfl⟩ ⟨Nat.le_of_ble_eq_true rfl, Nat.le_of_ble_eq_true rfl⟩ dL_nextFlood_4 (fun E ce q9 w' H locs hE hP hD hS hc9 hv9 hcl9 => ?_) (fun v w' H locs hq hP hD hS => ?_)
  · obtain ⟨hE, rfl⟩ := hE
    rcases hE with ⟨rfl, hE⟩ | ⟨rfl, hE⟩
    · refine z_catch (a1 := 0) (b1 := 9) (h1 := 12) (k1 := 13) [] [(0, 9, 15, 50)] hown hta hH hN hex rfl (fun _ h => absurd h List.not_mem_nil) (by decide) ⟨by decide, by decide⟩ (by decide) wd_5_18 hc9 hv9 hcl9 ?_
      refine lv_astore_n (lv' := [(3, Value.ref q9), (0, Value.ref (a 0)), (1, Value.int b), (2, Value.ref o)]) hx hb dL_nextFlood_12 rfl hl (by decide) rfl (fun ls hl => ?_)
      refine lv_iconst (v := (1 : Int32)) hx hb dL_nextFlood_13 (by decide) ?_
      exact z_iret hG hx hb hr hlocks hP hD hS (Nat.le_of_ble_eq_true rfl) (Nat.le_of_ble_eq_true rfl) dL_nextFlood_14 (zOk_x hE (by decide) (by decide))
    · refine z_catch (a1 := 0) (b1 := 9) (h1 := 15) (k1 := 50) [(0, 9, 12, 13)] [] hown hta hH hN hex rfl (List.forall_mem_cons.mpr ⟨⟨by decide, "java/lang/IndexOutOfBoundsException", by decide, by decide, wd_5_18⟩, fun _ h => absurd h List.not_mem_nil⟩) (by decide) ⟨by decide, by decide⟩ (by decide) wd_15_8 hc9 hv9 hcl9 ?_
      refine lv_astore_n (lv' := [(3, Value.ref q9), (0, Value.ref (a 0)), (1, Value.int b), (2, Value.ref o)]) hx hb dL_nextFlood_15 rfl hl (by decide) rfl (fun ls hl => ?_)
      refine lv_iconst (v := (2 : Int32)) hx hb dL_nextFlood_16 (by decide) ?_
      exact z_iret hG hx hb hr hlocks hP hD hS (Nat.le_of_ble_eq_true rfl) (Nat.le_of_ble_eq_true rfl) dL_nextFlood_17 (zOk_x hE (by decide) (by decide))
  obtain ⟨hq, rfl, rfl⟩ := hq
  refine lv_i2l (v := Int32.toInt64 (nI (t + nfK tb tf ts clr wf wt nw od (nN b) t))) hx hb dL_nextFlood_7 rfl ?_
  refine z_lst hx hb hK hP hD hS dL_nextFlood_8 (fun H locs hP hD hS => ?_)
  refine lv_goto (tgt := 18) hx hb dL_nextFlood_9 (by decide) ?_
  refine lv_iconst (v := (0 : Int32)) hx hb dL_nextFlood_18 (by decide) ?_
  exact z_iret hG hx hb hr hlocks hP hD hS (Nat.le_of_ble_eq_true rfl) (Nat.le_of_ble_eq_true rfl) dL_nextFlood_19 (zOk_0 hq)
theorem zw_nextFlood : (Cond.static yL_nextFlood ∈ WA ∧ Cond.initialized RL ∈ WA ∧ Cond.codeWith yL_nextFlood cL_nextFlood 4 (some .int) [(0, 9, 12, 13), (0, 9, 15, 50)] ∈ WA) ∧ RL ≠ "java/lang/invoke/MethodHandle" ∧ RL ≠ "java/lang/invoke/VarHandle" ∧ (parseMethodDescriptor yL_nextFlood.desc).map (fun d => d.parameters.length) = some 3 := ⟨⟨wd_15_6, wd_5_16, wd_15_7⟩, by decide +kernel, by decide +kernel, by decide +kernel⟩
