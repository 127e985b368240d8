set_option maxHeartbeats 800000 in
set_option maxRecDepth 100000 in
theorem c_L_addBerth (l : Launch) (hlt : l.stackTraces = false) (D : va_G) (y : Nat → ClassId) (a : Nat → Nat) (cap clr : Int32) (t : Nat) (hom mov : Int32) (wm : Int64) (tb tf ts : Int32) (nw : Nat) (wf wt : Nat → Int32) (nb : Nat) (bw bl bi bb : Nat → Int32) (no : Nat) (od ow ol ork ob olf oco : Nat → Int32) (pn pb pm : Int32) (pcd pw pli : Nat → Int32) (f : Int32) (g : Int32) (h : Int32) (hb6 : nb ≤ 6) (hcd : abC nb f g h = 0) (qb : Nat) : zWr l D y yL_addBerth cL_addBerth 5 [(0, 7, 8, 20), (0, 7, 14, 22), (0, 7, 20, 24)] 8 1 6 118 qb [Value.ref (a 0), Value.int f, Value.int g, Value.int h] (wB a y cap clr (nI t) hom mov wm tb tf ts (nI nw) wf wt (nI nb) bw bl bi bb (nI no) od ow ol ork ob olf oco pn pb pm pcd pw pli) (fun o9 w9 => o9 = some (Value.int (nI nb)) ∧ w9 = wB a y cap clr (nI t) hom mov wm tb tf ts (nI nw) wf wt (nI (nb + 1)) (upd bw nb g) (upd bl nb h) (upd bi nb (biF bi nb f)) (upd bb nb (-1 : Int32)) (nI no) od ow ol ork ob olf oco pn pb pm pcd pw pli) 0 := by
  refine zWr.of (by decide +kernel) (Nat.le_of_ble_eq_true rfl) ?_
  intro p e s m args below meth c A ls hx hb hr hta hown hlocks hml hex hH hN hK hP hD hS hA hl
  refine z_gen (fun G hG => ?_)
  have hl : lv_has ls 5 [(0, Value.ref (a 0)), (1, Value.int f), (2, Value.int g), (3, Value.int h)] := hl
  refine lv_aload_n hx hb dL_addBerth_0 rfl (lv_at hl 0 rfl) ?_
  refine lv_iload_n hx hb dL_addBerth_1 rfl (lv_at hl 1 rfl) ?_
  refine lv_iload_n hx hb dL_addBerth_2 rfl (lv_at hl 2 rfl) ?_
  refine lv_iload_n hx hb dL_addBerth_3 rfl (lv_at hl 3 rfl) ?_
  refine z_xcallV (As := [Value.int f, Value.int g, Value.int h]) (rest := []) hx hb hml hown hta zm_X5_addBerth wd_4_21 (c_X5_addBerth l hlt D y a cap clr t hom mov wm tb tf ts nw wf wt nb bw bl bi bb no od ow ol ork ob olf oco pn pb pm pcd pw pli f g h hb6) hN hK hP hD hS hA 0 rfl rfl rfl hl rfl (Nat.le_of_ble_eq_true rfl) ⟨Nat.le_of_ble_eq_true rfl, Nat.le_of_ble_eq_true rfl⟩ ⟨Nat.le_of_ble_eq_true rfl, Nat.le_of_ble_eq_true rfl⟩ dL_addBerth_4 (fun E ce q9 H locs hE hP hS hc9 hv9 hcl9 => ?_) (fun v w' H locs hq hP hD hS => ?_)
  · rcases hE with ⟨rfl, hE⟩ | ⟨rfl, hE⟩ | ⟨rfl, hE⟩
    · rw [hcd] at hE; exact absurd hE (by decide)
    · rw [hcd] at hE; exact absurd hE (by decide)
    · rw [hcd] at hE; exact absurd hE (by decide)
  obtain ⟨hq, rfl, rfl⟩ := hq
  exact z_iretG hG hx hb hr hlocks hP hD hS (Nat.le_of_ble_eq_true rfl) (Nat.le_of_ble_eq_true rfl) dL_addBerth_7 ⟨rfl, rfl⟩ hS.1
theorem zw_addBerth : (Cond.static yL_addBerth ∈ WA ∧ Cond.initialized RL ∈ WA ∧ Cond.codeWith yL_addBerth cL_addBerth 5 (some .int) [(0, 7, 8, 20), (0, 7, 14, 22), (0, 7, 20, 24)] ∈ WA) ∧ RL ≠ "java/lang/invoke/MethodHandle" ∧ RL ≠ "java/lang/invoke/VarHandle" ∧ (parseMethodDescriptor yL_addBerth.desc).map (fun d => d.parameters.length) = some 4 := ⟨⟨wd_4_16, wd_4_6, wd_4_17⟩, by decide +kernel, by decide +kernel, by decide +kernel⟩
set_option maxHeartbeats 800000 in
set_option maxRecDepth 100000 in
theorem c_L_addBoat (l : Launch) (hlt : l.stackTraces = false) (D : va_G) (y : Nat → ClassId) (a : Nat → Nat) (cap clr : Int32) (t : Nat) (hom mov : Int32) (wm : Int64) (tb tf ts : Int32) (nw : Nat) (wf wt : Nat → Int32) (nb : Nat) (bw bl bi bb : Nat → Int32) (no : Nat) (od ow ol ork ob olf oco : Nat → Int32) (pn pb pm : Int32) (pcd pw pli : Nat → Int32) (f : Int32) (g : Int32) (h : Int32) (r : Int32) (hb8 : no ≤ 8) (hcd : aoC no f g h r = 0) (qb : Nat) : zWr l D y yL_addBoat cL_addBoat 6 [(0, 9, 10, 22), (0, 9, 16, 24)] 8 1 6 119 qb [Value.ref (a 0), Value.int f, Value.int g, Value.int h, Value.int r] (wB a y cap clr (nI t) hom mov wm tb tf ts (nI nw) wf wt (nI nb) bw bl bi bb (nI no) od ow ol ork ob olf oco pn pb pm pcd pw pli) (fun o9 w9 => o9 = some (Value.int (nI no)) ∧ w9 = wB a y cap clr (nI t) hom mov wm tb tf ts (nI nw) wf wt (nI nb) bw bl bi bb (nI (no + 1)) (upd od no f) (upd ow no g) (upd ol no h) (upd ork no r) (upd ob no (-1 : Int32)) olf oco pn pb pm pcd pw pli) 0 := by
  refine zWr.of (by decide +kernel) (Nat.le_of_ble_eq_true rfl) ?_
  intro p e s m args below meth c A ls hx hb hr hta hown hlocks hml hex hH hN hK hP hD hS hA hl
  refine z_gen (fun G hG => ?_)
  have hl : lv_has ls 6 [(0, Value.ref (a 0)), (1, Value.int f), (2, Value.int g), (3, Value.int h), (4, Value.int r)] := hl
  refine lv_aload_n hx hb dL_addBoat_0 rfl (lv_at hl 0 rfl) ?_
  refine lv_iload_n hx hb dL_addBoat_1 rfl (lv_at hl 1 rfl) ?_
  refine lv_iload_n hx hb dL_addBoat_2 rfl (lv_at hl 2 rfl) ?_
  refine lv_iload_n hx hb dL_addBoat_3 rfl (lv_at hl 3 rfl) ?_
  refine lv_iload hx hb dL_addBoat_4 (lv_at hl 4 rfl) ?_
  refine z_xcallV (As := [Value.int f, Value.int g, Value.int h, Value.int r]) (rest := []) hx hb hml hown hta zm_X5_addBoat wd_5_23 (c_X5_addBoat l hlt D y a cap clr t hom mov wm tb tf ts nw wf wt nb bw bl bi bb no od ow ol ork ob olf oco pn pb pm pcd pw pli f g h r hb8) hN hK hP hD hS hA 0 rfl rfl rfl hl rfl (Nat.le_of_ble_eq_true rfl) ⟨Nat.le_of_ble_eq_true rfl, Nat.le_of_ble_eq_true rfl⟩ ⟨Nat.le_of_ble_eq_true rfl, Nat.le_of_ble_eq_true rfl⟩ dL_addBoat_6 (fun E ce q9 H locs hE hP hS hc9 hv9 hcl9 => ?_) (fun v w' H locs hq hP hD hS => ?_)
  · rcases hE with ⟨rfl, hE⟩ | ⟨rfl, hE⟩
    · rw [hcd] at hE; exact absurd hE (by decide)
    · rw [hcd] at hE; exact absurd hE (by decide)
  obtain ⟨hq, rfl, rfl⟩ := hq
  exact z_iretG hG hx hb hr hlocks hP hD hS (Nat.le_of_ble_eq_true rfl) (Nat.le_of_ble_eq_true rfl) dL_addBoat_9 ⟨rfl, rfl⟩ hS.1
theorem zw_addBoat : (Cond.static yL_addBoat ∈ WA ∧ Cond.initialized RL ∈ WA ∧ Cond.codeWith yL_addBoat cL_addBoat 6 (some .int) [(0, 9, 10, 22), (0, 9, 16, 24)] ∈ WA) ∧ RL ≠ "java/lang/invoke/MethodHandle" ∧ RL ≠ "java/lang/invoke/VarHandle" ∧ (parseMethodDescriptor yL_addBoat.desc).map (fun d => d.parameters.length) = some 5 := ⟨⟨wd_5_21, wd_4_6, wd_5_22⟩, by decide +kernel, by decide +kernel, by decide +kernel⟩
set_option maxHeartbeats 800000 in
set_option maxRecDepth 100000 in
theorem c_L_setTide (l : Launch) (hlt : l.stackTraces = false) (D : va_G) (y : Nat → ClassId) (a : Nat → Nat) (cap clr : Int32) (t : Nat) (hom mov : Int32) (wm : Int64) (tb tf ts : Int32) (nw : Nat) (wf wt : Nat → Int32) (nb : Nat) (bw bl bi bb : Nat → Int32) (no : Nat) (od ow ol ork ob olf oco : Nat → Int32) (pn pb pm : Int32) (pcd pw pli : Nat → Int32) (f : Int32) (g : Int32) (h : Int32)  (hcd : stC f g h = 0) (qb : Nat) : zWr l D y yL_setTide cL_setTide 5 [(0, 7, 8, 22)] 8 1 6 118 qb [Value.ref (a 0), Value.int f, Value.int g, Value.int h] (wB a y cap clr (nI t) hom mov wm tb tf ts (nI nw) wf wt (nI nb) bw bl bi bb (nI no) od ow ol ork ob olf oco pn pb pm pcd pw pli) (fun o9 w9 => o9 = some (Value.int (lev f g h (nI t))) ∧ w9 = wB a y cap clr (nI t) hom mov wm f g h (nI nw) wf wt (nI nb) bw bl bi bb (nI no) od ow ol ork ob olf oco pn pb pm pcd pw pli) 0 := by
  refine zWr.of (by decide +kernel) (Nat.le_of_ble_eq_true rfl) ?_
  intro p e s m args below meth c A ls hx hb hr hta hown hlocks hml hex hH hN hK hP hD hS hA hl
  refine z_gen (fun G hG => ?_)
  have hl : lv_has ls 5 [(0, Value.ref (a 0)), (1, Value.int f), (2, Value.int g), (3, Value.int h)] := hl
  refine lv_aload_n hx hb dL_setTide_0 rfl (lv_at hl 0 rfl) ?_
  refine lv_iload_n hx hb dL_setTide_1 rfl (lv_at hl 1 rfl) ?_
  refine lv_iload_n hx hb dL_setTide_2 rfl (lv_at hl 2 rfl) ?_
  refine lv_iload_n hx hb dL_setTide_3 rfl (lv_at hl 3 rfl) ?_
  refine z_xcallV (As := [Value.int f, Value.int g, Value.int h]) (rest := []) hx hb hml hown hta zm_X5_setTide wd_6_11 (c_X5_setTide l hlt D y a cap clr t hom mov wm tb tf ts nw wf wt nb bw bl bi bb no od ow ol ork ob olf oco pn pb pm pcd pw pli f g h) hN hK hP hD hS hA 0 rfl rfl rfl hl rfl (Nat.le_of_ble_eq_true rfl) ⟨Nat.le_of_ble_eq_true rfl, Nat.le_of_ble_eq_true rfl⟩ ⟨Nat.le_of_ble_eq_true rfl, Nat.le_of_ble_eq_true rfl⟩ dL_setTide_4 (fun E ce q9 H locs hE hP hS hc9 hv9 hcl9 => ?_) (fun v w' H locs hq hP hD hS => ?_)
  · obtain ⟨rfl, hE⟩ := hE
    rw [hcd] at hE; exact absurd hE (by decide)
  obtain ⟨hq, rfl, rfl⟩ := hq
  exact z_iretG hG hx hb hr hlocks hP hD hS (Nat.le_of_ble_eq_true rfl) (Nat.le_of_ble_eq_true rfl) dL_setTide_7 ⟨rfl, rfl⟩ hS.1
theorem zw_setTide : (Cond.static yL_setTide ∈ WA ∧ Cond.initialized RL ∈ WA ∧ Cond.codeWith yL_setTide cL_setTide 5 (some .int) [(0, 7, 8, 22)] ∈ WA) ∧ RL ≠ "java/lang/invoke/MethodHandle" ∧ RL ≠ "java/lang/invoke/VarHandle" ∧ (parseMethodDescriptor yL_setTide.desc).map (fun d => d.parameters.length) = some 4 := ⟨⟨wd_6_9, wd_4_6, wd_6_10⟩, by decide +kernel, by decide +kernel, by decide +kernel⟩
set_option maxHeartbeats 800000 in
set_option maxRecDepth 100000 in
theorem c_L_setCradle (l : Launch) (hlt : l.stackTraces = false) (D : va_G) (y : Nat → ClassId) (a : Nat → Nat) (cap clr : Int32) (t : Nat) (hom mov : Int32) (wm : Int64) (tb tf ts : Int32) (nw : Nat) (wf wt : Nat → Int32) (nb : Nat) (bw bl bi bb : Nat → Int32) (no : Nat) (od ow ol ork ob olf oco : Nat → Int32) (pn pb pm : Int32) (pcd pw pli : Nat → Int32) (f : Int32) (g : Int32)  (hcd : scC f g = 0) (qb : Nat) : zWr l D y yL_setCradle cL_setCradle 4 [(0, 6, 7, 22)] 8 1 6 118 qb [Value.ref (a 0), Value.int f, Value.int g] (wB a y cap clr (nI t) hom mov wm tb tf ts (nI nw) wf wt (nI nb) bw bl bi bb (nI no) od ow ol ork ob olf oco pn pb pm pcd pw pli) (fun o9 w9 => o9 = some (Value.int cap) ∧ w9 = wB a y f g (nI t) hom mov wm tb tf ts (nI nw) wf wt (nI nb) bw bl bi bb (nI no) od ow ol ork ob olf oco pn pb pm pcd pw pli) 0 := by
  refine zWr.of (by decide +kernel) (Nat.le_of_ble_eq_true rfl) ?_
  intro p e s m args below meth c A ls hx hb hr hta hown hlocks hml hex hH hN hK hP hD hS hA hl
  refine z_gen (fun G hG => ?_)
  have hl : lv_has ls 4 [(0, Value.ref (a 0)), (1, Value.int f), (2, Value.int g)] := hl
  refine lv_aload_n hx hb dL_setCradle_0 rfl (lv_at hl 0 rfl) ?_
  refine lv_iload_n hx hb dL_setCradle_1 rfl (lv_at hl 1 rfl) ?_
  refine lv_iload_n hx hb dL_setCradle_2 rfl (lv_at hl 2 rfl) ?_
  refine z_xcallV (As := [Value.int f, Value.int g]) (rest := []) hx hb hml hown hta zm_X5_setCradle wd_7_16 (c_X5_setCradle l hlt D y a cap clr t hom mov wm tb tf ts nw wf wt nb bw bl bi bb no od ow ol ork ob olf oco pn pb pm pcd pw pli f g) hN hK hP hD hS hA 0 rfl rfl rfl hl rfl (Nat.le_of_ble_eq_true rfl) ⟨Nat.le_of_ble_eq_true rfl, Nat.le_of_ble_eq_true rfl⟩ ⟨Nat.le_of_ble_eq_true rfl, Nat.le_of_ble_eq_true rfl⟩ dL_setCradle_3 (fun E ce q9 H locs hE hP hS hc9 hv9 hcl9 => ?_) (fun v w' H locs hq hP hD hS => ?_)
  · obtain ⟨rfl, hE⟩ := hE
    rw [hcd] at hE; exact absurd hE (by decide)
  obtain ⟨hq, rfl, rfl⟩ := hq
  exact z_iretG hG hx hb hr hlocks hP hD hS (Nat.le_of_ble_eq_true rfl) (Nat.le_of_ble_eq_true rfl) dL_setCradle_6 ⟨rfl, rfl⟩ hS.1
theorem zw_setCradle : (Cond.static yL_setCradle ∈ WA ∧ Cond.initialized RL ∈ WA ∧ Cond.codeWith yL_setCradle cL_setCradle 4 (some .int) [(0, 6, 7, 22)] ∈ WA) ∧ RL ≠ "java/lang/invoke/MethodHandle" ∧ RL ≠ "java/lang/invoke/VarHandle" ∧ (parseMethodDescriptor yL_setCradle.desc).map (fun d => d.parameters.length) = some 3 := ⟨⟨wd_7_14, wd_4_6, wd_7_15⟩, by decide +kernel, by decide +kernel, by decide +kernel⟩
set_option maxHeartbeats 800000 in
set_option maxRecDepth 100000 in
theorem c_L_level (l : Launch) (hlt : l.stackTraces = false) (D : va_G) (y : Nat → ClassId) (a : Nat → Nat) (cap clr : Int32) (t : Nat) (hom mov : Int32) (wm : Int64) (tb tf ts : Int32) (nw : Nat) (wf wt : Nat → Int32) (nb : Nat) (bw bl bi bb : Nat → Int32) (no : Nat) (od ow ol ork ob olf oco : Nat → Int32) (pn pb pm : Int32) (pcd pw pli : Nat → Int32) (h : Int32)  (hcd : hoC h = 0) (qb : Nat) : zWr l D y yL_level cL_level 3 [(0, 5, 6, 22)] 9 1 6 137 qb [Value.ref (a 0), Value.int h] (wB a y cap clr (nI t) hom mov wm tb tf ts (nI nw) wf wt (nI nb) bw bl bi bb (nI no) od ow ol ork ob olf oco pn pb pm pcd pw pli) (fun o9 w9 => o9 = some (Value.int (lev tb tf ts h)) ∧ w9 = wB a y cap clr (nI t) hom mov wm tb tf ts (nI nw) wf wt (nI nb) bw bl bi bb (nI no) od ow ol ork ob olf oco pn pb pm pcd pw pli) 0 := by
  refine zWr.of (by decide +kernel) (Nat.le_of_ble_eq_true rfl) ?_
  intro p e s m args below meth c A ls hx hb hr hta hown hlocks hml hex hH hN hK hP hD hS hA hl
  refine z_gen (fun G hG => ?_)
  have hl : lv_has ls 3 [(0, Value.ref (a 0)), (1, Value.int h)] := hl
  refine lv_aload_n hx hb dL_level_0 rfl (lv_at hl 0 rfl) ?_
  refine lv_iload_n hx hb dL_level_1 rfl (lv_at hl 1 rfl) ?_
  refine z_xcallV (As := [Value.int h]) (rest := []) hx hb hml hown hta zm_X5_level wd_7_5 (c_X5_level l hlt D y a cap clr t hom mov wm tb tf ts nw wf wt nb bw bl bi bb no od ow ol ork ob olf oco pn pb pm pcd pw pli h) hN hK hP hD hS hA 0 rfl rfl rfl hl rfl (Nat.le_of_ble_eq_true rfl) ⟨Nat.le_of_ble_eq_true rfl, Nat.le_of_ble_eq_true rfl⟩ ⟨Nat.le_of_ble_eq_true rfl, Nat.le_of_ble_eq_true rfl⟩ dL_level_2 (fun E ce q9 H locs hE hP hS hc9 hv9 hcl9 => ?_) (fun v w' H locs hq hP hD hS => ?_)
  · obtain ⟨rfl, hE⟩ := hE
    rw [hcd] at hE; exact absurd hE (by decide)
  obtain ⟨hq, rfl, rfl⟩ := hq
  exact z_iretG hG hx hb hr hlocks hP hD hS (Nat.le_of_ble_eq_true rfl) (Nat.le_of_ble_eq_true rfl) dL_level_5 ⟨rfl, rfl⟩ hS.1
theorem zw_level : (Cond.static yL_level ∈ WA ∧ Cond.initialized RL ∈ WA ∧ Cond.codeWith yL_level cL_level 3 (some .int) [(0, 5, 6, 22)] ∈ WA) ∧ RL ≠ "java/lang/invoke/MethodHandle" ∧ RL ≠ "java/lang/invoke/VarHandle" ∧ (parseMethodDescriptor yL_level.desc).map (fun d => d.parameters.length) = some 2 := ⟨⟨wd_7_3, wd_4_6, wd_7_4⟩, by decide +kernel, by decide +kernel, by decide +kernel⟩
set_option maxHeartbeats 800000 in
set_option maxRecDepth 100000 in
theorem c_L_state (l : Launch) (hlt : l.stackTraces = false) (D : va_G) (y : Nat → ClassId) (a : Nat → Nat) (cap clr : Int32) (t : Nat) (hom mov : Int32) (wm : Int64) (tb tf ts : Int32) (nw : Nat) (wf wt : Nat → Int32) (nb : Nat) (bw bl bi bb : Nat → Int32) (no : Nat) (od ow ol ork ob olf oco : Nat → Int32) (pn pb pm : Int32) (pcd pw pli : Nat → Int32) (b : Int32) (hb8 : no ≤ 8) (hcd : boC no b = 0) (qb : Nat) : zWr l D y yL_state cL_state 3 [(0, 5, 6, 20)] 9 1 6 137 qb [Value.ref (a 0), Value.int b] (wB a y cap clr (nI t) hom mov wm tb tf ts (nI nw) wf wt (nI nb) bw bl bi bb (nI no) od ow ol ork ob olf oco pn pb pm pcd pw pli) (fun o9 w9 => o9 = some (Value.int (stF ob (nN b))) ∧ w9 = wB a y cap clr (nI t) hom mov wm tb tf ts (nI nw) wf wt (nI nb) bw bl bi bb (nI no) od ow ol ork ob olf oco pn pb pm pcd pw pli) 0 := by
  refine zWr.of (by decide +kernel) (Nat.le_of_ble_eq_true rfl) ?_
  intro p e s m args below meth c A ls hx hb hr hta hown hlocks hml hex hH hN hK hP hD hS hA hl
  refine z_gen (fun G hG => ?_)
  have hl : lv_has ls 3 [(0, Value.ref (a 0)), (1, Value.int b)] := hl
  refine lv_aload_n hx hb dL_state_0 rfl (lv_at hl 0 rfl) ?_
  refine lv_iload_n hx hb dL_state_1 rfl (lv_at hl 1 rfl) ?_
  refine z_xcallV (As := [Value.int b]) (rest := []) hx hb hml hown hta zm_X5_state wd_10_11 (c_X5_state l hlt D y a cap clr t hom mov wm tb tf ts nw wf wt nb bw bl bi bb no od ow ol ork ob olf oco pn pb pm pcd pw pli b hb8) hN hK hP hD hS hA 0 rfl rfl rfl hl rfl (Nat.le_of_ble_eq_true rfl) ⟨Nat.le_of_ble_eq_true rfl, Nat.le_of_ble_eq_true rfl⟩ ⟨Nat.le_of_ble_eq_true rfl, Nat.le_of_ble_eq_true rfl⟩ dL_state_2 (fun E ce q9 H locs hE hP hS hc9 hv9 hcl9 => ?_) (fun v w' H locs hq hP hD hS => ?_)
  · obtain ⟨rfl, hE⟩ := hE
    rw [hcd] at hE; exact absurd hE (by decide)
  obtain ⟨hq, rfl, rfl⟩ := hq
  exact z_iretG hG hx hb hr hlocks hP hD hS (Nat.le_of_ble_eq_true rfl) (Nat.le_of_ble_eq_true rfl) dL_state_5 ⟨rfl, rfl⟩ hS.1
theorem zw_state : (Cond.static yL_state ∈ WA ∧ Cond.initialized RL ∈ WA ∧ Cond.codeWith yL_state cL_state 3 (some .int) [(0, 5, 6, 20)] ∈ WA) ∧ RL ≠ "java/lang/invoke/MethodHandle" ∧ RL ≠ "java/lang/invoke/VarHandle" ∧ (parseMethodDescriptor yL_state.desc).map (fun d => d.parameters.length) = some 2 := ⟨⟨wd_10_9, wd_4_6, wd_10_10⟩, by decide +kernel, by decide +kernel, by decide +kernel⟩
set_option maxHeartbeats 800000 in
set_option maxRecDepth 100000 in
theorem c_L_dryLeft (l : Launch) (hlt : l.stackTraces = false) (D : va_G) (y : Nat → ClassId) (a : Nat → Nat) (cap clr : Int32) (t : Nat) (hom mov : Int32) (wm : Int64) (tb tf ts : Int32) (nw : Nat) (wf wt : Nat → Int32) (nb : Nat) (bw bl bi bb : Nat → Int32) (no : Nat) (od ow ol ork ob olf oco : Nat → Int32) (pn pb pm : Int32) (pcd pw pli : Nat → Int32) (b : Int32) (hb8 : no ≤ 8) (hcd : boC no b = 0) (qb : Nat) : zWr l D y yL_dryLeft cL_dryLeft 3 [(0, 5, 6, 20)] 9 1 6 137 qb [Value.ref (a 0), Value.int b] (wB a y cap clr (nI t) hom mov wm tb tf ts (nI nw) wf wt (nI nb) bw bl bi bb (nI no) od ow ol ork ob olf oco pn pb pm pcd pw pli) (fun o9 w9 => o9 = some (Value.int (olf (nN b))) ∧ w9 = wB a y cap clr (nI t) hom mov wm tb tf ts (nI nw) wf wt (nI nb) bw bl bi bb (nI no) od ow ol ork ob olf oco pn pb pm pcd pw pli) 0 := by
  refine zWr.of (by decide +kernel) (Nat.le_of_ble_eq_true rfl) ?_
  intro p e s m args below meth c A ls hx hb hr hta hown hlocks hml hex hH hN hK hP hD hS hA hl
  refine z_gen (fun G hG => ?_)
  have hl : lv_has ls 3 [(0, Value.ref (a 0)), (1, Value.int b)] := hl
  refine lv_aload_n hx hb dL_dryLeft_0 rfl (lv_at hl 0 rfl) ?_
  refine lv_iload_n hx hb dL_dryLeft_1 rfl (lv_at hl 1 rfl) ?_
  refine z_xcallV (As := [Value.int b]) (rest := []) hx hb hml hown hta zm_X5_dryLeft wd_11_23 (c_X5_dryLeft l hlt D y a cap clr t hom mov wm tb tf ts nw wf wt nb bw bl bi bb no od ow ol ork ob olf oco pn pb pm pcd pw pli b hb8) hN hK hP hD hS hA 0 rfl rfl rfl hl rfl (Nat.le_of_ble_eq_true rfl) ⟨Nat.le_of_ble_eq_true rfl, Nat.le_of_ble_eq_true rfl⟩ ⟨Nat.le_of_ble_eq_true rfl, Nat.le_of_ble_eq_true rfl⟩ dL_dryLeft_2 (fun E ce q9 H locs hE hP hS hc9 hv9 hcl9 => ?_) (fun v w' H locs hq hP hD hS => ?_)
  · obtain ⟨rfl, hE⟩ := hE
    rw [hcd] at hE; exact absurd hE (by decide)
  obtain ⟨hq, rfl, rfl⟩ := hq
  exact z_iretG hG hx hb hr hlocks hP hD hS (Nat.le_of_ble_eq_true rfl) (Nat.le_of_ble_eq_true rfl) dL_dryLeft_5 ⟨rfl, rfl⟩ hS.1
theorem zw_dryLeft : (Cond.static yL_dryLeft ∈ WA ∧ Cond.initialized RL ∈ WA ∧ Cond.codeWith yL_dryLeft cL_dryLeft 3 (some .int) [(0, 5, 6, 20)] ∈ WA) ∧ RL ≠ "java/lang/invoke/MethodHandle" ∧ RL ≠ "java/lang/invoke/VarHandle" ∧ (parseMethodDescriptor yL_dryLeft.desc).map (fun d => d.parameters.length) = some 2 := ⟨⟨wd_11_21, wd_4_6, wd_11_22⟩, by decide +kernel, by decide +kernel, by decide +kernel⟩
set_option maxHeartbeats 800000 in
set_option maxRecDepth 100000 in
theorem c_L_dryAt (l : Launch) (hlt : l.stackTraces = false) (D : va_G) (y : Nat → ClassId) (a : Nat → Nat) (cap clr : Int32) (t : Nat) (hom mov : Int32) (wm : Int64) (tb tf ts : Int32) (nw : Nat) (wf wt : Nat → Int32) (nb : Nat) (bw bl bi bb : Nat → Int32) (no : Nat) (od ow ol ork ob olf oco : Nat → Int32) (pn pb pm : Int32) (pcd pw pli : Nat → Int32) (b : Int32) (hb8 : no ≤ 8) (hd : olf (nN b) = 0) (hcd : boC no b = 0) (qb : Nat) : zWr l D y yL_dryAt cL_dryAt 3 [(0, 5, 6, 20)] 9 1 6 137 qb [Value.ref (a 0), Value.int b] (wB a y cap clr (nI t) hom mov wm tb tf ts (nI nw) wf wt (nI nb) bw bl bi bb (nI no) od ow ol ork ob olf oco pn pb pm pcd pw pli) (fun o9 w9 => o9 = some (Value.int (nI t)) ∧ w9 = wB a y cap clr (nI t) hom mov wm tb tf ts (nI nw) wf wt (nI nb) bw bl bi bb (nI no) od ow ol ork ob olf oco pn pb pm pcd pw pli) 0 := by
  refine zWr.of (by decide +kernel) (Nat.le_of_ble_eq_true rfl) ?_
  intro p e s m args below meth c A ls hx hb hr hta hown hlocks hml hex hH hN hK hP hD hS hA hl
  refine z_gen (fun G hG => ?_)
  have hl : lv_has ls 3 [(0, Value.ref (a 0)), (1, Value.int b)] := hl
  refine lv_aload_n hx hb dL_dryAt_0 rfl (lv_at hl 0 rfl) ?_
  refine lv_iload_n hx hb dL_dryAt_1 rfl (lv_at hl 1 rfl) ?_
  refine z_xcallV (As := [Value.int b]) (rest := []) hx hb hml hown hta zm_X5_dryAt wd_21_19 (c_X5_dryAt l hlt D y a cap clr t hom mov wm tb tf ts nw wf wt nb bw bl bi bb no od ow ol ork ob olf oco pn pb pm pcd pw pli b hb8 hd) hN hK hP hD hS hA 0 rfl rfl rfl hl rfl (Nat.le_of_ble_eq_true rfl) ⟨Nat.le_of_ble_eq_true rfl, Nat.le_of_ble_eq_true rfl⟩ ⟨Nat.le_of_ble_eq_true rfl, Nat.le_of_ble_eq_true rfl⟩ dL_dryAt_2 (fun E ce q9 H locs hE hP hS hc9 hv9 hcl9 => ?_) (fun v w' H locs hq hP hD hS => ?_)
  · obtain ⟨rfl, hE⟩ := hE
    rw [hcd] at hE; exact absurd hE (by decide)
  obtain ⟨hq, rfl, rfl⟩ := hq
  exact z_iretG hG hx hb hr hlocks hP hD hS (Nat.le_of_ble_eq_true rfl) (Nat.le_of_ble_eq_true rfl) dL_dryAt_5 ⟨rfl, rfl⟩ hS.1
theorem zw_dryAt : (Cond.static yL_dryAt ∈ WA ∧ Cond.initialized RL ∈ WA ∧ Cond.codeWith yL_dryAt cL_dryAt 3 (some .int) [(0, 5, 6, 20)] ∈ WA) ∧ RL ≠ "java/lang/invoke/MethodHandle" ∧ RL ≠ "java/lang/invoke/VarHandle" ∧ (parseMethodDescriptor yL_dryAt.desc).map (fun d => d.parameters.length) = some 2 := ⟨⟨wd_21_17, wd_4_6, wd_21_18⟩, by decide +kernel, by decide +kernel, by decide +kernel⟩
set_option maxHeartbeats 800000 in
set_option maxRecDepth 100000 in
theorem c_L_dryByHours (l : Launch) (hlt : l.stackTraces = false) (D : va_G) (y : Nat → ClassId) (a : Nat → Nat) (cap clr : Int32) (t : Nat) (hom mov : Int32) (wm : Int64) (tb tf ts : Int32) (nw : Nat) (wf wt : Nat → Int32) (nb : Nat) (bw bl bi bb : Nat → Int32) (no : Nat) (od ow ol ork ob olf oco : Nat → Int32) (pn pb pm : Int32) (pcd pw pli : Nat → Int32) (b : Int32) (hb8 : no ≤ 8) (hd : olf (nN b) = 0) (hcd : boC no b = 0) (qb : Nat) : zWr l D y yL_dryByHours cL_dryByHours 3 [(0, 5, 6, 20)] 9 1 6 137 qb [Value.ref (a 0), Value.int b] (wB a y cap clr (nI t) hom mov wm tb tf ts (nI nw) wf wt (nI nb) bw bl bi bb (nI no) od ow ol ork ob olf oco pn pb pm pcd pw pli) (fun o9 w9 => o9 = some (Value.int (nI t)) ∧ w9 = wB a y cap clr (nI t) hom mov wm tb tf ts (nI nw) wf wt (nI nb) bw bl bi bb (nI no) od ow ol ork ob olf oco pn pb pm pcd pw pli) 0 := by
  refine zWr.of (by decide +kernel) (Nat.le_of_ble_eq_true rfl) ?_
  intro p e s m args below meth c A ls hx hb hr hta hown hlocks hml hex hH hN hK hP hD hS hA hl
  refine z_gen (fun G hG => ?_)
  have hl : lv_has ls 3 [(0, Value.ref (a 0)), (1, Value.int b)] := hl
  refine lv_aload_n hx hb dL_dryByHours_0 rfl (lv_at hl 0 rfl) ?_
  refine lv_iload_n hx hb dL_dryByHours_1 rfl (lv_at hl 1 rfl) ?_
  refine z_xcallV (As := [Value.int b]) (rest := []) hx hb hml hown hta zm_X5_dryByHours wd_22_18 (c_X5_dryByHours l hlt D y a cap clr t hom mov wm tb tf ts nw wf wt nb bw bl bi bb no od ow ol ork ob olf oco pn pb pm pcd pw pli b hb8 hd) hN hK hP hD hS hA 0 rfl rfl rfl hl rfl (Nat.le_of_ble_eq_true rfl) ⟨Nat.le_of_ble_eq_true rfl, Nat.le_of_ble_eq_true rfl⟩ ⟨Nat.le_of_ble_eq_true rfl, Nat.le_of_ble_eq_true rfl⟩ dL_dryByHours_2 (fun E ce q9 H locs hE hP hS hc9 hv9 hcl9 => ?_) (fun v w' H locs hq hP hD hS => ?_)
  · obtain ⟨rfl, hE⟩ := hE
    rw [hcd] at hE; exact absurd hE (by decide)
  obtain ⟨hq, rfl, rfl⟩ := hq
  exact z_iretG hG hx hb hr hlocks hP hD hS (Nat.le_of_ble_eq_true rfl) (Nat.le_of_ble_eq_true rfl) dL_dryByHours_5 ⟨rfl, rfl⟩ hS.1
theorem zw_dryByHours : (Cond.static yL_dryByHours ∈ WA ∧ Cond.initialized RL ∈ WA ∧ Cond.codeWith yL_dryByHours cL_dryByHours 3 (some .int) [(0, 5, 6, 20)] ∈ WA) ∧ RL ≠ "java/lang/invoke/MethodHandle" ∧ RL ≠ "java/lang/invoke/VarHandle" ∧ (parseMethodDescriptor yL_dryByHours.desc).map (fun d => d.parameters.length) = some 2 := ⟨⟨wd_22_16, wd_4_6, wd_22_17⟩, by decide +kernel, by decide +kernel, by decide +kernel⟩
set_option maxHeartbeats 800000 in
set_option maxRecDepth 100000 in
theorem c_L_pass (l : Launch) (hlt : l.stackTraces = false) (D : va_G) (y : Nat → ClassId) (a : Nat → Nat) (cap clr : Int32) (t : Nat) (hom mov : Int32) (wm : Int64) (tb tf ts : Int32) (nw : Nat) (wf wt : Nat → Int32) (nb : Nat) (bw bl bi bb : Nat → Int32) (no : Nat) (od ow ol ork ob olf oco : Nat → Int32) (pn pb pm : Int32) (pcd pw pli : Nat → Int32) (h : Int32) (hb8 : no ≤ 8) (hw : nw ≤ 6) (ht : t ≤ 9999) (hcd : psC t h = 0) (qb : Nat) : zWr l D y yL_pass cL_pass 3 [(0, 5, 6, 22)] 8 1 6 117 qb [Value.ref (a 0), Value.int h] (wB a y cap clr (nI t) hom mov wm tb tf ts (nI nw) wf wt (nI nb) bw bl bi bb (nI no) od ow ol ork ob olf oco pn pb pm pcd pw pli) (fun o9 w9 => o9 = some (Value.int (nI (t + nN h))) ∧ w9 = wB a y cap clr (nI (t + nN h)) hom mov wm tb tf ts (nI nw) wf wt (nI nb) bw bl bi bb (nI no) od ow ol ork ob (pdF wf wt nw no t olf (nN h)) oco pn pb pm pcd pw pli) 0 := by
  refine zWr.of (by decide +kernel) (Nat.le_of_ble_eq_true rfl) ?_
  intro p e s m args below meth c A ls hx hb hr hta hown hlocks hml hex hH hN hK hP hD hS hA hl
  refine z_gen (fun G hG => ?_)
  have hl : lv_has ls 3 [(0, Value.ref (a 0)), (1, Value.int h)] := hl
  refine lv_aload_n hx hb dL_pass_0 rfl (lv_at hl 0 rfl) ?_
  refine lv_iload_n hx hb dL_pass_1 rfl (lv_at hl 1 rfl) ?_
  refine z_xcallV (As := [Value.int h]) (rest := []) hx hb hml hown hta zm_X5_pass wd_16_14 (c_X5_pass l hlt D y a cap clr t hom mov wm tb tf ts nw wf wt nb bw bl bi bb no od ow ol ork ob olf oco pn pb pm pcd pw pli h hb8 hw ht) hN hK hP hD hS hA 0 rfl rfl rfl hl rfl (Nat.le_of_ble_eq_true rfl) ⟨Nat.le_of_ble_eq_true rfl, Nat.le_of_ble_eq_true rfl⟩ ⟨Nat.le_of_ble_eq_true rfl, Nat.le_of_ble_eq_true rfl⟩ dL_pass_2 (fun E ce q9 H locs hE hP hS hc9 hv9 hcl9 => ?_) (fun v w' H locs hq hP hD hS => ?_)
  · obtain ⟨rfl, hE⟩ := hE
    rw [hcd] at hE; exact absurd hE (by decide)
  obtain ⟨hq, rfl, rfl⟩ := hq
  exact z_iretG hG hx hb hr hlocks hP hD hS (Nat.le_of_ble_eq_true rfl) (Nat.le_of_ble_eq_true rfl) dL_pass_5 ⟨rfl, rfl⟩ hS.1
theorem zw_pass : (Cond.static yL_pass ∈ WA ∧ Cond.initialized RL ∈ WA ∧ Cond.codeWith yL_pass cL_pass 3 (some .int) [(0, 5, 6, 22)] ∈ WA) ∧ RL ≠ "java/lang/invoke/MethodHandle" ∧ RL ≠ "java/lang/invoke/VarHandle" ∧ (parseMethodDescriptor yL_pass.desc).map (fun d => d.parameters.length) = some 2 := ⟨⟨wd_16_12, wd_4_6, wd_16_13⟩, by decide +kernel, by decide +kernel, by decide +kernel⟩
set_option maxHeartbeats 800000 in
set_option maxRecDepth 100000 in
theorem c_L_berthOf (l : Launch) (hlt : l.stackTraces = false) (D : va_G) (y : Nat → ClassId) (a : Nat → Nat) (cap clr : Int32) (t : Nat) (hom mov : Int32) (wm : Int64) (tb tf ts : Int32) (nw : Nat) (wf wt : Nat → Int32) (nb : Nat) (bw bl bi bb : Nat → Int32) (no : Nat) (od ow ol ork ob olf oco : Nat → Int32) (pn pb pm : Int32) (pcd pw pli : Nat → Int32) (b : Int32) (hb8 : no ≤ 8) (hb6 : nb ≤ 6) (hcd : beC no nb ob b = 2) (qb : Nat) : zWr l D y yL_berthOf cL_berthOf 3 [(0, 5, 6, 20), (0, 5, 11, 57)] 9 2 12 137 qb [Value.ref (a 0), Value.int b] (wB a y cap clr (nI t) hom mov wm tb tf ts (nI nw) wf wt (nI nb) bw bl bi bb (nI no) od ow ol ork ob olf oco pn pb pm pcd pw pli) (fun o9 w9 => o9 = some (Value.int (-1002 : Int32)) ∧ w9 = wB a y cap clr (nI t) hom mov wm tb tf ts (nI nw) wf wt (nI nb) bw bl bi bb (nI no) od ow ol ork ob olf oco pn pb pm pcd pw pli) 1 := by
  refine zWr.of (by decide +kernel) (Nat.le_of_ble_eq_true rfl) ?_
  intro p e s m args below meth c A ls hx hb hr hta hown hlocks hml hex hH hN hK hP hD hS hA hl
  refine z_gen (fun G hG => ?_)
  have hl : lv_has ls 3 [(0, Value.ref (a 0)), (1, Value.int b)] := hl
  refine lv_aload_n hx hb dL_berthOf_0 rfl (lv_at hl 0 rfl) ?_
  refine lv_iload_n hx hb dL_berthOf_1 rfl (lv_at hl 1 rfl) ?_
  refine z_xcallV (As := [Value.int b]) (rest := []) hx hb hml hown hta zm_X5_berthOf wd_11_16 (c_X5_berthOf l hlt D y a cap clr t hom mov wm tb tf ts nw wf wt nb bw bl bi bb no od ow ol ork ob olf oco pn pb pm pcd pw pli b hb8 hb6) hN hK hP hD hS hA 0 rfl rfl rfl hl rfl (Nat.le_of_ble_eq_true rfl) ⟨Nat.le_of_ble_eq_true rfl, Nat.le_of_ble_eq_true rfl⟩ ⟨Nat.le_of_ble_eq_true rfl, Nat.le_of_ble_eq_true rfl⟩ dL_berthOf_2 (fun E ce q9 H locs hE hP hS hc9 hv9 hcl9 => ?_) (fun v w' H locs hq hP hD hS => ?_)
  · rcases hE with ⟨rfl, hE⟩ | ⟨rfl, hE⟩
    · rw [hcd] at hE; exact absurd hE (by decide)
    · refine z_catch (a1 := 0) (b1 := 5) (h1 := 11) (k1 := 57) [(0, 5, 6, 20)] [] hown hta hH hN hex rfl (List.forall_mem_cons.mpr ⟨⟨by decide, "java/lang/IndexOutOfBoundsException", by decide, by decide, wd_4_18⟩, fun _ h => absurd h List.not_mem_nil⟩) (by decide) ⟨by decide, by decide⟩ (by decide) wd_10_18 hc9 hv9 hcl9.1 ?_
      refine lv_astore_n (lv' := [(2, Value.ref q9), (0, Value.ref (a 0)), (1, Value.int b)]) hx hb dL_berthOf_11 rfl hl (by decide) rfl (fun ls hl => ?_)
      refine lv_sipush (v := (-1002 : Int32)) hx hb dL_berthOf_12 (by decide) ?_
      exact z_iretG hG hx hb hr hlocks hP hD hS (Nat.le_of_ble_eq_true rfl) (Nat.le_of_ble_eq_true rfl) dL_berthOf_15 ⟨rfl, rfl⟩ hcl9.2
  obtain ⟨hq, rfl, rfl⟩ := hq
  rw [hcd] at hq; exact absurd hq (by decide)
theorem zw_berthOf : (Cond.static yL_berthOf ∈ WA ∧ Cond.initialized RL ∈ WA ∧ Cond.codeWith yL_berthOf cL_berthOf 3 (some .int) [(0, 5, 6, 20), (0, 5, 11, 57)] ∈ WA) ∧ RL ≠ "java/lang/invoke/MethodHandle" ∧ RL ≠ "java/lang/invoke/VarHandle" ∧ (parseMethodDescriptor yL_berthOf.desc).map (fun d => d.parameters.length) = some 2 := ⟨⟨wd_11_14, wd_4_6, wd_11_15⟩, by decide +kernel, by decide +kernel, by decide +kernel⟩
set_option maxHeartbeats 800000 in
set_option maxRecDepth 100000 in
theorem c_L_boatIn (l : Launch) (hlt : l.stackTraces = false) (D : va_G) (y : Nat → ClassId) (a : Nat → Nat) (cap clr : Int32) (t : Nat) (hom mov : Int32) (wm : Int64) (tb tf ts : Int32) (nw : Nat) (wf wt : Nat → Int32) (nb : Nat) (bw bl bi bb : Nat → Int32) (no : Nat) (od ow ol ork ob olf oco : Nat → Int32) (pn pb pm : Int32) (pcd pw pli : Nat → Int32) (b : Int32) (hb6 : nb ≤ 6) (hcd : bnC nb bb b = 2) (qb : Nat) : zWr l D y yL_boatIn cL_boatIn 3 [(0, 5, 6, 20), (0, 5, 11, 57)] 9 2 12 137 qb [Value.ref (a 0), Value.int b] (wB a y cap clr (nI t) hom mov wm tb tf ts (nI nw) wf wt (nI nb) bw bl bi bb (nI no) od ow ol ork ob olf oco pn pb pm pcd pw pli) (fun o9 w9 => o9 = some (Value.int (-1002 : Int32)) ∧ w9 = wB a y cap clr (nI t) hom mov wm tb tf ts (nI nw) wf wt (nI nb) bw bl bi bb (nI no) od ow ol ork ob olf oco pn pb pm pcd pw pli) 1 := by
  refine zWr.of (by decide +kernel) (Nat.le_of_ble_eq_true rfl) ?_
  intro p e s m args below meth c A ls hx hb hr hta hown hlocks hml hex hH hN hK hP hD hS hA hl
  refine z_gen (fun G hG => ?_)
  have hl : lv_has ls 3 [(0, Value.ref (a 0)), (1, Value.int b)] := hl
  refine lv_aload_n hx hb dL_boatIn_0 rfl (lv_at hl 0 rfl) ?_
  refine lv_iload_n hx hb dL_boatIn_1 rfl (lv_at hl 1 rfl) ?_
  refine z_xcallV (As := [Value.int b]) (rest := []) hx hb hml hown hta zm_X5_boatIn wd_10_19 (c_X5_boatIn l hlt D y a cap clr t hom mov wm tb tf ts nw wf wt nb bw bl bi bb no od ow ol ork ob olf oco pn pb pm pcd pw pli b hb6) hN hK hP hD hS hA 0 rfl rfl rfl hl rfl (Nat.le_of_ble_eq_true rfl) ⟨Nat.le_of_ble_eq_true rfl, Nat.le_of_ble_eq_true rfl⟩ ⟨Nat.le_of_ble_eq_true rfl, Nat.le_of_ble_eq_true rfl⟩ dL_boatIn_2 (fun E ce q9 H locs hE hP hS hc9 hv9 hcl9 => ?_) (fun v w' H locs hq hP hD hS => ?_)
  · rcases hE with ⟨rfl, hE⟩ | ⟨rfl, hE⟩
    · rw [hcd] at hE; exact absurd hE (by decide)
    · refine z_catch (a1 := 0) (b1 := 5) (h1 := 11) (k1 := 57) [(0, 5, 6, 20)] [] hown hta hH hN hex rfl (List.forall_mem_cons.mpr ⟨⟨by decide, "java/lang/IndexOutOfBoundsException", by decide, by decide, wd_4_18⟩, fun _ h => absurd h List.not_mem_nil⟩) (by decide) ⟨by decide, by decide⟩ (by decide) wd_10_18 hc9 hv9 hcl9.1 ?_
      refine lv_astore_n (lv' := [(2, Value.ref q9), (0, Value.ref (a 0)), (1, Value.int b)]) hx hb dL_boatIn_11 rfl hl (by decide) rfl (fun ls hl => ?_)
      refine lv_sipush (v := (-1002 : Int32)) hx hb dL_boatIn_12 (by decide) ?_
      exact z_iretG hG hx hb hr hlocks hP hD hS (Nat.le_of_ble_eq_true rfl) (Nat.le_of_ble_eq_true rfl) dL_boatIn_15 ⟨rfl, rfl⟩ hcl9.2
  obtain ⟨hq, rfl, rfl⟩ := hq
  rw [hcd] at hq; exact absurd hq (by decide)
theorem zw_boatIn : (Cond.static yL_boatIn ∈ WA ∧ Cond.initialized RL ∈ WA ∧ Cond.codeWith yL_boatIn cL_boatIn 3 (some .int) [(0, 5, 6, 20), (0, 5, 11, 57)] ∈ WA) ∧ RL ≠ "java/lang/invoke/MethodHandle" ∧ RL ≠ "java/lang/invoke/VarHandle" ∧ (parseMethodDescriptor yL_boatIn.desc).map (fun d => d.parameters.length) = some 2 := ⟨⟨wd_10_16, wd_4_6, wd_10_17⟩, by decide +kernel, by decide +kernel, by decide +kernel⟩
set_option maxHeartbeats 800000 in
set_option maxRecDepth 100000 in
theorem c_L_leastShifted (l : Launch) (hlt : l.stackTraces = false) (D : va_G) (y : Nat → ClassId) (a : Nat → Nat) (cap clr : Int32) (t : Nat) (hom mov : Int32) (wm : Int64) (tb tf ts : Int32) (nw : Nat) (wf wt : Nat → Int32) (nb : Nat) (bw bl bi bb : Nat → Int32) (no : Nat) (od ow ol ork ob olf oco : Nat → Int32) (pn pb pm : Int32) (pcd pw pli : Nat → Int32) (b : Int32) (hb8 : no ≤ 8) (hb6 : nb ≤ 6) (hbi : inB b no = true) (hbj : ∀ j, j < no → b = nI j → inB (ob j) nb = false) (qb : Nat) : zWr l D y yL_leastShifted cL_leastShifted 3 [(0, 5, 6, 20), (0, 5, 11, 24), (0, 5, 16, 57)] 10 2 12 159 qb [Value.ref (a 0), Value.int b] (wB a y cap clr (nI t) hom mov wm tb tf ts (nI nw) wf wt (nI nb) bw bl bi bb (nI no) od ow ol ork ob olf oco pn pb pm pcd pw pli) (fun o9 w9 => o9 = some (Value.int (-1002 : Int32)) ∧ w9 = wB a y cap clr (nI t) hom mov wm tb tf ts (nI nw) wf wt (nI nb) bw bl bi bb (nI no) od ow ol ork ob olf oco pn pb pm pcd pw pli) 1 := by
  refine zWr.of (by decide +kernel) (Nat.le_of_ble_eq_true rfl) ?_
  intro p e s m args below meth c A ls hx hb hr hta hown hlocks hml hex hH hN hK hP hD hS hA hl
  refine z_gen (fun G hG => ?_)
  have hl : lv_has ls 3 [(0, Value.ref (a 0)), (1, Value.int b)] := hl
  refine lv_aload_n hx hb dL_leastShifted_0 rfl (lv_at hl 0 rfl) ?_
  refine lv_iload_n hx hb dL_leastShifted_1 rfl (lv_at hl 1 rfl) ?_
  refine z_xcallV (As := [Value.int b]) (rest := []) hx hb hml hown hta zm_X5_leastShifted wd_12_7 (c_X5_leastShifted l hlt D y a cap clr t hom mov wm tb tf ts nw wf wt nb bw bl bi bb no od ow ol ork ob olf oco pn pb pm pcd pw pli b hb8 hb6 hbi hbj) hN hK hP hD hS hA 0 rfl rfl rfl hl rfl (Nat.le_of_ble_eq_true rfl) ⟨Nat.le_of_ble_eq_true rfl, Nat.le_of_ble_eq_true rfl⟩ ⟨Nat.le_of_ble_eq_true rfl, Nat.le_of_ble_eq_true rfl⟩ dL_leastShifted_2 (fun E ce q9 H locs hE hP hS hc9 hv9 hcl9 => ?_) (fun v w' H locs hq hP hD hS => ?_)
  · obtain ⟨rfl, hE⟩ := hE
    refine z_catch (a1 := 0) (b1 := 5) (h1 := 11) (k1 := 24) [(0, 5, 6, 20)] [(0, 5, 16, 57)] hown hta hH hN hex rfl (List.forall_mem_cons.mpr ⟨⟨by decide, "java/lang/IndexOutOfBoundsException", by decide, by decide, wd_4_18⟩, fun _ h => absurd h List.not_mem_nil⟩) (by decide) ⟨by decide, by decide⟩ (by decide) wd_4_20 hc9 hv9 hcl9.1 ?_
    refine lv_astore_n (lv' := [(2, Value.ref q9), (0, Value.ref (a 0)), (1, Value.int b)]) hx hb dL_leastShifted_11 rfl hl (by decide) rfl (fun ls hl => ?_)
    refine lv_sipush (v := (-1002 : Int32)) hx hb dL_leastShifted_12 (by decide) ?_
    exact z_iretG hG hx hb hr hlocks hP hD hS (Nat.le_of_ble_eq_true rfl) (Nat.le_of_ble_eq_true rfl) dL_leastShifted_15 ⟨rfl, rfl⟩ hcl9.2
  exact absurd hq.1 (fun z => z)
theorem zw_leastShifted : (Cond.static yL_leastShifted ∈ WA ∧ Cond.initialized RL ∈ WA ∧ Cond.codeWith yL_leastShifted cL_leastShifted 3 (some .int) [(0, 5, 6, 20), (0, 5, 11, 24), (0, 5, 16, 57)] ∈ WA) ∧ RL ≠ "java/lang/invoke/MethodHandle" ∧ RL ≠ "java/lang/invoke/VarHandle" ∧ (parseMethodDescriptor yL_leastShifted.desc).map (fun d => d.parameters.length) = some 2 := ⟨⟨wd_12_5, wd_4_6, wd_12_6⟩, by decide +kernel, by decide +kernel, by decide +kernel⟩
set_option maxHeartbeats 800000 in
set_option maxRecDepth 100000 in
theorem c_L_leastByRounds (l : Launch) (hlt : l.stackTraces = false) (D : va_G) (y : Nat → ClassId) (a : Nat → Nat) (cap clr : Int32) (t : Nat) (hom mov : Int32) (wm : Int64) (tb tf ts : Int32) (nw : Nat) (wf wt : Nat → Int32) (nb : Nat) (bw bl bi bb : Nat → Int32) (no : Nat) (od ow ol ork ob olf oco : Nat → Int32) (pn pb pm : Int32) (pcd pw pli : Nat → Int32) (b : Int32) (hb8 : no ≤ 8) (hb6 : nb ≤ 6) (hbi : inB b no = true) (hbj : ∀ j, j < no → b = nI j → inB (ob j) nb = false) (qb : Nat) : zWr l D y yL_leastByRounds cL_leastByRounds 3 [(0, 5, 6, 20), (0, 5, 11, 24), (0, 5, 16, 57)] 10 2 12 159 qb [Value.ref (a 0), Value.int b] (wB a y cap clr (nI t) hom mov wm tb tf ts (nI nw) wf wt (nI nb) bw bl bi bb (nI no) od ow ol ork ob olf oco pn pb pm pcd pw pli) (fun o9 w9 => o9 = some (Value.int (-1002 : Int32)) ∧ w9 = wB a y cap clr (nI t) hom mov wm tb tf ts (nI nw) wf wt (nI nb) bw bl bi bb (nI no) od ow ol ork ob olf oco pn pb pm pcd pw pli) 1 := by
  refine zWr.of (by decide +kernel) (Nat.le_of_ble_eq_true rfl) ?_
  intro p e s m args below meth c A ls hx hb hr hta hown hlocks hml hex hH hN hK hP hD hS hA hl
  refine z_gen (fun G hG => ?_)
  have hl : lv_has ls 3 [(0, Value.ref (a 0)), (1, Value.int b)] := hl
  refine lv_aload_n hx hb dL_leastByRounds_0 rfl (lv_at hl 0 rfl) ?_
  refine lv_iload_n hx hb dL_leastByRounds_1 rfl (lv_at hl 1 rfl) ?_
  refine z_xcallV (As := [Value.int b]) (rest := []) hx hb hml hown hta zm_X5_leastByRounds wd_23_6 (c_X5_leastByRounds l hlt D y a cap clr t hom mov wm tb tf ts nw wf wt nb bw bl bi bb no od ow ol ork ob olf oco pn pb pm pcd pw pli b hb8 hb6 hbi hbj) hN hK hP hD hS hA 0 rfl rfl rfl hl rfl (Nat.le_of_ble_eq_true rfl) ⟨Nat.le_of_ble_eq_true rfl, Nat.le_of_ble_eq_true rfl⟩ ⟨Nat.le_of_ble_eq_true rfl, Nat.le_of_ble_eq_true rfl⟩ dL_leastByRounds_2 (fun E ce q9 H locs hE hP hS hc9 hv9 hcl9 => ?_) (fun v w' H locs hq hP hD hS => ?_)
  · obtain ⟨rfl, hE⟩ := hE
    refine z_catch (a1 := 0) (b1 := 5) (h1 := 11) (k1 := 24) [(0, 5, 6, 20)] [(0, 5, 16, 57)] hown hta hH hN hex rfl (List.forall_mem_cons.mpr ⟨⟨by decide, "java/lang/IndexOutOfBoundsException", by decide, by decide, wd_4_18⟩, fun _ h => absurd h List.not_mem_nil⟩) (by decide) ⟨by decide, by decide⟩ (by decide) wd_4_20 hc9 hv9 hcl9.1 ?_
    refine lv_astore_n (lv' := [(2, Value.ref q9), (0, Value.ref (a 0)), (1, Value.int b)]) hx hb dL_leastByRounds_11 rfl hl (by decide) rfl (fun ls hl => ?_)
    refine lv_sipush (v := (-1002 : Int32)) hx hb dL_leastByRounds_12 (by decide) ?_
    exact z_iretG hG hx hb hr hlocks hP hD hS (Nat.le_of_ble_eq_true rfl) (Nat.le_of_ble_eq_true rfl) dL_leastByRounds_15 ⟨rfl, rfl⟩ hcl9.2
  exact absurd hq.1 (fun z => z)
theorem zw_leastByRounds : (Cond.static yL_leastByRounds ∈ WA ∧ Cond.initialized RL ∈ WA ∧ Cond.codeWith yL_leastByRounds cL_leastByRounds 3 (some .int) [(0, 5, 6, 20), (0, 5, 11, 24), (0, 5, 16, 57)] ∈ WA) ∧ RL ≠ "java/lang/invoke/MethodHandle" ∧ RL ≠ "java/lang/invoke/VarHandle" ∧ (parseMethodDescriptor yL_leastByRounds.desc).map (fun d => d.parameters.length) = some 2 := ⟨⟨wd_23_4, wd_4_6, wd_23_5⟩, by decide +kernel, by decide +kernel, by decide +kernel⟩
