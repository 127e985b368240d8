set_option maxHeartbeats 800000 in
set_option maxRecDepth 100000 in
theorem c_X5_lift (l : Launch) (hlt : l.stackTraces = false) (D : va_G) (y : Nat → ClassId) (a : Nat → Nat) (cap clr : Int32) (t : Nat) (hom mov : Int32) (wm : Int64) (tb tf ts : Int32) (nw : Nat) (wf wt : Nat → Int32) (nb : Nat) (bw bl bi bb : Nat → Int32) (no : Nat) (od ow ol ork ob olf oco : Nat → Int32) (pn pb pm : Int32) (pcd pw pli : Nat → Int32) (b : Int32) (g : Int32) (hb8 : no ≤ 8) (hb6 : nb ≤ 6) (hw : nw ≤ 6) : zX l D y yX5_lift cX5_lift 3 (some .int) 9 3 18 138 [Value.ref (a 0), Value.int b, Value.int g] (wB a y cap clr (nI t) hom mov wm tb tf ts (nI nw) wf wt (nI nb) bw bl bi bb (nI no) od ow ol ork ob olf oco pn pb pm pcd pw pli) (fun o9 w9 => (mvC no nb b g (liF cap clr tb tf ts hom (nI t) (badF wf wt nw (nI t)) ob bb od ow ol bw bl bi nb (nN b) (nN g)) = 0) ∧ o9 = some (Value.int (mov + (1 : Int32))) ∧ w9 = wB a y cap clr (nI t) (nI t) (mov + (1 : Int32)) (wm + Int32.toInt64 (ow (nN b))) tb tf ts (nI nw) wf wt (nI nb) bw bl bi (upd bb (nN g) b) (nI no) od ow ol ork (upd ob (nN b) g) olf oco pn pb pm pcd pw pli) (fun E => (E = "java/lang/IndexOutOfBoundsException" ∧ (mvC no nb b g (liF cap clr tb tf ts hom (nI t) (badF wf wt nw (nI t)) ob bb od ow ol bw bl bi nb (nN b) (nN g)) = 1)) ∨ (E = "java/lang/IllegalStateException" ∧ (mvC no nb b g (liF cap clr tb tf ts hom (nI t) (badF wf wt nw (nI t)) ob bb od ow ol bw bl bi nb (nN b) (nN g)) = 2))) := by
  refine zX.of (by decide +kernel) (Nat.le_of_ble_eq_true rfl) ?_
  intro p e s m args below meth c A ls hx hb hr hta hown hlocks hml hex hN hK hP hD hS hA hl
  refine z_gen (fun G hG => ?_)
  have hl : lv_has ls 3 [(0, Value.ref (a 0)), (1, Value.int b), (2, Value.int g)] := hl
  refine lv_aload_n hx hb dX5_lift_0 rfl (lv_at hl 0 rfl) ?_
  refine lv_iload_n hx hb dX5_lift_1 rfl (lv_at hl 1 rfl) ?_
  refine lv_iload_n hx hb dX5_lift_2 rfl (lv_at hl 2 rfl) ?_
  refine z_xcallV (As := [Value.int b, Value.int g]) (rest := []) hx hb hml hown hta zm_X5_checkBoatAndBerth wd_16_4 (c_X5_checkBoatAndBerth l hlt D y a cap clr t hom mov wm tb tf ts nw wf wt nb bw bl bi bb no od ow ol ork ob olf oco pn pb pm pcd pw pli b g (by omega) (by omega)) hN hK hP hD hS hA 0 rfl rfl rfl hl rfl (Nat.le_of_ble_eq_true rfl) ⟨Nat.le_of_ble_eq_true rfl, Nat.le_of_ble_eq_true rfl⟩ ⟨Nat.le_of_ble_eq_true rfl, Nat.le_of_ble_eq_true rfl⟩ dX5_lift_3 (fun E ce q9 H locs hE hP hS hc9 hv9 hcl9 => ?_) (fun v w' H locs hq hP hD hS => ?_)
  · refine z_out hG hex hlocks ?_ hP hS hc9 hv9 hcl9 (Nat.le_of_ble_eq_true rfl) (Nat.le_of_ble_eq_true rfl)
    obtain ⟨rfl, hE⟩ := hE
    exact Or.inl ⟨rfl, by simp [mvC, hE]⟩
  obtain ⟨hq1, rfl, rfl⟩ := hq
  obtain ⟨j, hj, rfl⟩ := (inB_iff (by omega)).mp hq1.1
  have ej : nN (nI j) = j := nI_clamp (by omega)
  obtain ⟨k, hk, rfl⟩ := (inB_iff (by omega)).mp hq1.2
  have ek : nN (nI k) = k := nI_clamp (by omega)
  refine lv_aload_n hx hb dX5_lift_6 rfl (lv_at hl 0 rfl) ?_
  refine lv_iload_n hx hb dX5_lift_7 rfl (lv_at hl 1 rfl) ?_
  refine lv_iload_n hx hb dX5_lift_8 rfl (lv_at hl 2 rfl) ?_
  refine z_callV (As := [Value.int (nI j), Value.int (nI k)]) (rest := []) hx hb hml hown hta zm_X5_liftBar wd_16_12 (c_X5_liftBar l D y a cap clr t hom mov wm tb tf ts nw wf wt nb bw bl bi bb no od ow ol ork ob olf oco pn pb pm pcd pw pli j k (by omega) (by omega) (by omega) (by omega)) hN hK hP hD hS hA 0 rfl rfl rfl hl rfl (Nat.le_of_ble_eq_true rfl) ⟨Nat.le_of_ble_eq_true rfl, Nat.le_of_ble_eq_true rfl⟩ ⟨Nat.le_of_ble_eq_true rfl, Nat.le_of_ble_eq_true rfl⟩ dX5_lift_9 (fun v w' H locs hq hP hD hS => ?_)
  obtain ⟨rfl, rfl⟩ := hq
  refine lv_bipush (v := (110 : Int32)) hx hb dX5_lift_12 (by decide) ?_
  refine lv_icmp_eq (tgt := 27) hx hb dX5_lift_14 (by decide) (fun c14 => ?_) (fun c14 => ?_)
  · refine lv_aload_n hx hb dX5_lift_27 rfl (lv_at hl 0 rfl) ?_
    refine gB5_boats hx hb hta hown hK hP wd_2_5 dX5_lift_28 ?_
    refine gB1_berth hx hb hta hown hK hP wd_16_2 dX5_lift_31 ?_
    refine lv_iload_n hx hb dX5_lift_34 rfl (lv_at hl 1 rfl) ?_
    refine lv_iload_n hx hb dX5_lift_35 rfl (lv_at hl 2 rfl) ?_
    refine sB_ob hx hb hK hP hD hS j rfl (by omega) dX5_lift_36 (fun H locs hP hD hS => ?_)
    refine lv_aload_n hx hb dX5_lift_37 rfl (lv_at hl 0 rfl) ?_
    refine gB5_berths hx hb hta hown hK hP wd_2_1 dX5_lift_38 ?_
    refine gB0_boat hx hb hta hown hK hP wd_16_3 dX5_lift_41 ?_
    refine lv_iload_n hx hb dX5_lift_44 rfl (lv_at hl 2 rfl) ?_
    refine lv_iload_n hx hb dX5_lift_45 rfl (lv_at hl 1 rfl) ?_
    refine sB_bb hx hb hK hP hD hS k rfl (by omega) dX5_lift_46 (fun H locs hP hD hS => ?_)
    refine lv_aload_n hx hb dX5_lift_47 rfl (lv_at hl 0 rfl) ?_
    refine lv_iload_n hx hb dX5_lift_48 rfl (lv_at hl 1 rfl) ?_
    refine z_callV (As := [Value.int (nI j)]) (rest := []) hx hb hml hown hta zm_X5_countMove wd_17_12 (c_X5_countMove l D y a cap clr t hom mov wm tb tf ts nw wf wt nb bw bl bi (upd bb k (nI j)) no od ow ol ork (upd ob j (nI k)) olf oco pn pb pm pcd pw pli j (by omega)) hN hK hP hD hS hA 0 rfl rfl rfl hl rfl (Nat.le_of_ble_eq_true rfl) ⟨Nat.le_of_ble_eq_true rfl, Nat.le_of_ble_eq_true rfl⟩ ⟨Nat.le_of_ble_eq_true rfl, Nat.le_of_ble_eq_true rfl⟩ dX5_lift_49 (fun v w' H locs hq hP hD hS => ?_)
    obtain ⟨rfl, rfl⟩ := hq
    refine z_iretX hG hx hb hr hlocks hP hD hS (Nat.le_of_ble_eq_true rfl) (Nat.le_of_ble_eq_true rfl) dX5_lift_52 ?_
    refine ⟨?_, congrArg (fun z => some (Value.int z)) ?_, ?_⟩
    · simp [mvC, c14, hq1, ej, ek]
    · rfl
    · rw [ej, ek]
  · refine zt_IllegalStateException_161 (ik := 87) (ic := 91) hlt hG hx hb hown hta hN hP hS hl hml hex hlocks rfl rfl (Nat.le_of_ble_eq_true rfl) (Nat.le_of_ble_eq_true rfl) (Nat.le_of_ble_eq_true rfl) (Nat.le_of_ble_eq_true rfl) (Nat.le_of_ble_eq_true rfl) (Nat.le_of_ble_eq_true rfl) dX5_lift_17 dX5_lift_20 dX5_lift_21 dX5_lift_23 dX5_lift_26 ?_
    exact Or.inr ⟨rfl, by simp [mvC, c14, hq1, ej, ek]⟩
set_option maxHeartbeats 800000 in
set_option maxRecDepth 100000 in
theorem c_X5_liftReason (l : Launch) (hlt : l.stackTraces = false) (D : va_G) (y : Nat → ClassId) (a : Nat → Nat) (cap clr : Int32) (t : Nat) (hom mov : Int32) (wm : Int64) (tb tf ts : Int32) (nw : Nat) (wf wt : Nat → Int32) (nb : Nat) (bw bl bi bb : Nat → Int32) (no : Nat) (od ow ol ork ob olf oco : Nat → Int32) (pn pb pm : Int32) (pcd pw pli : Nat → Int32) (b : Int32) (g : Int32) (hb8 : no ≤ 8) (hb6 : nb ≤ 6) (hw : nw ≤ 6) : zX l D y yX5_liftReason cX5_liftReason 3 (some .char) 9 2 12 138 [Value.ref (a 0), Value.int b, Value.int g] (wB a y cap clr (nI t) hom mov wm tb tf ts (nI nw) wf wt (nI nb) bw bl bi bb (nI no) od ow ol ork ob olf oco pn pb pm pcd pw pli) (fun o9 w9 => (bbC no nb b g = 0) ∧ o9 = some (Value.int (liF cap clr tb tf ts hom (nI t) (badF wf wt nw (nI t)) ob bb od ow ol bw bl bi nb (nN b) (nN g))) ∧ w9 = wB a y cap clr (nI t) hom mov wm tb tf ts (nI nw) wf wt (nI nb) bw bl bi bb (nI no) od ow ol ork ob olf oco pn pb pm pcd pw pli) (fun E => (E = "java/lang/IndexOutOfBoundsException" ∧ (bbC no nb b g = 1))) := by
  refine zX.of (by decide +kernel) (Nat.le_of_ble_eq_true rfl) ?_
  intro p e s m args below meth c A ls hx hb hr hta hown hlocks hml hex hN hK hP hD hS hA hl
  refine z_gen (fun G hG => ?_)
  have hl : lv_has ls 3 [(0, Value.ref (a 0)), (1, Value.int b), (2, Value.int g)] := hl
  refine lv_aload_n hx hb dX5_liftReason_0 rfl (lv_at hl 0 rfl) ?_
  refine lv_iload_n hx hb dX5_liftReason_1 rfl (lv_at hl 1 rfl) ?_
  refine lv_iload_n hx hb dX5_liftReason_2 rfl (lv_at hl 2 rfl) ?_
  refine z_xcallV (As := [Value.int b, Value.int g]) (rest := []) hx hb hml hown hta zm_X5_checkBoatAndBerth wd_16_4 (c_X5_checkBoatAndBerth l hlt D y a cap clr t hom mov wm tb tf ts nw wf wt nb bw bl bi bb no od ow ol ork ob olf oco pn pb pm pcd pw pli b g (by omega) (by omega)) hN hK hP hD hS hA 0 rfl rfl rfl hl rfl (Nat.le_of_ble_eq_true rfl) ⟨Nat.le_of_ble_eq_true rfl, Nat.le_of_ble_eq_true rfl⟩ ⟨Nat.le_of_ble_eq_true rfl, Nat.le_of_ble_eq_true rfl⟩ dX5_liftReason_3 (fun E ce q9 H locs hE hP hS hc9 hv9 hcl9 => ?_) (fun v w' H locs hq hP hD hS => ?_)
  · refine z_out hG hex hlocks ?_ hP hS hc9 hv9 hcl9 (Nat.le_of_ble_eq_true rfl) (Nat.le_of_ble_eq_true rfl)
    obtain ⟨rfl, hE⟩ := hE
    exact ⟨rfl, by simp [bbC, hE]⟩
  obtain ⟨hq1, rfl, rfl⟩ := hq
  obtain ⟨j, hj, rfl⟩ := (inB_iff (by omega)).mp hq1.1
  have ej : nN (nI j) = j := nI_clamp (by omega)
  obtain ⟨k, hk, rfl⟩ := (inB_iff (by omega)).mp hq1.2
  have ek : nN (nI k) = k := nI_clamp (by omega)
  refine lv_aload_n hx hb dX5_liftReason_6 rfl (lv_at hl 0 rfl) ?_
  refine lv_iload_n hx hb dX5_liftReason_7 rfl (lv_at hl 1 rfl) ?_
  refine lv_iload_n hx hb dX5_liftReason_8 rfl (lv_at hl 2 rfl) ?_
  refine z_callV (As := [Value.int (nI j), Value.int (nI k)]) (rest := []) hx hb hml hown hta zm_X5_liftBar wd_16_12 (c_X5_liftBar l D y a cap clr t hom mov wm tb tf ts nw wf wt nb bw bl bi bb no od ow ol ork ob olf oco pn pb pm pcd pw pli j k (by omega) (by omega) (by omega) (by omega)) hN hK hP hD hS hA 0 rfl rfl rfl hl rfl (Nat.le_of_ble_eq_true rfl) ⟨Nat.le_of_ble_eq_true rfl, Nat.le_of_ble_eq_true rfl⟩ ⟨Nat.le_of_ble_eq_true rfl, Nat.le_of_ble_eq_true rfl⟩ dX5_liftReason_9 (fun v w' H locs hq hP hD hS => ?_)
  obtain ⟨rfl, rfl⟩ := hq
  refine z_zretX hG hx hb hr hlocks hP hD hS (Nat.le_of_ble_eq_true rfl) (Nat.le_of_ble_eq_true rfl) dX5_liftReason_12 ?_ ?_
  · exact li_ch ..
  · refine ⟨?_, congrArg (fun z => some (Value.int z)) ?_, ?_⟩
    · simp [bbC, hq1, ej, ek]
    · rw [ej, ek]
    · rfl
set_option maxHeartbeats 800000 in
set_option maxRecDepth 100000 in
theorem c_X5_launch (l : Launch) (hlt : l.stackTraces = false) (D : va_G) (y : Nat → ClassId) (a : Nat → Nat) (cap clr : Int32) (t : Nat) (hom mov : Int32) (wm : Int64) (tb tf ts : Int32) (nw : Nat) (wf wt : Nat → Int32) (nb : Nat) (bw bl bi bb : Nat → Int32) (no : Nat) (od ow ol ork ob olf oco : Nat → Int32) (pn pb pm : Int32) (pcd pw pli : Nat → Int32) (b : Int32) (hb8 : no ≤ 8) (hb6 : nb ≤ 6) (hw : nw ≤ 6) : zX l D y yX5_launch cX5_launch 3 (some .int) 8 3 18 116 [Value.ref (a 0), Value.int b] (wB a y cap clr (nI t) hom mov wm tb tf ts (nI nw) wf wt (nI nb) bw bl bi bb (nI no) od ow ol ork ob olf oco pn pb pm pcd pw pli) (fun o9 w9 => (mlC no b (laR cap clr tb tf ts hom (nI t) (badF wf wt nw (nI t)) ob olf bb od ow bi nb (nN b)) = 0) ∧ o9 = some (Value.int (mov + (1 : Int32))) ∧ w9 = wB a y cap clr (nI t) (nI t) (mov + (1 : Int32)) (wm + Int32.toInt64 (ow (nN b))) tb tf ts (nI nw) wf wt (nI nb) bw bl bi (upd bb (nN (ob (nN b))) (-1 : Int32)) (nI no) od ow ol ork (upd ob (nN b) (-2 : Int32)) olf oco pn pb pm pcd pw pli) (fun E => (E = "java/lang/IndexOutOfBoundsException" ∧ (mlC no b (laR cap clr tb tf ts hom (nI t) (badF wf wt nw (nI t)) ob olf bb od ow bi nb (nN b)) = 1)) ∨ (E = "java/lang/IllegalStateException" ∧ (mlC no b (laR cap clr tb tf ts hom (nI t) (badF wf wt nw (nI t)) ob olf bb od ow bi nb (nN b)) = 2))) := by
  refine zX.of (by decide +kernel) (Nat.le_of_ble_eq_true rfl) ?_
  intro p e s m args below meth c A ls hx hb hr hta hown hlocks hml hex hN hK hP hD hS hA hl
  refine z_gen (fun G hG => ?_)
  have hl : lv_has ls 3 [(0, Value.ref (a 0)), (1, Value.int b)] := hl
  refine lv_aload_n hx hb dX5_launch_0 rfl (lv_at hl 0 rfl) ?_
  refine lv_iload_n hx hb dX5_launch_1 rfl (lv_at hl 1 rfl) ?_
  refine z_xcallV (As := [Value.int b]) (rest := []) hx hb hml hown hta zm_X5_checkBoat wd_13_9 (c_X5_checkBoat l hlt D y a cap clr t hom mov wm tb tf ts nw wf wt nb bw bl bi bb no od ow ol ork ob olf oco pn pb pm pcd pw pli b (by omega)) hN hK hP hD hS hA 0 rfl rfl rfl hl rfl (Nat.le_of_ble_eq_true rfl) ⟨Nat.le_of_ble_eq_true rfl, Nat.le_of_ble_eq_true rfl⟩ ⟨Nat.le_of_ble_eq_true rfl, Nat.le_of_ble_eq_true rfl⟩ dX5_launch_2 (fun E ce q9 H locs hE hP hS hc9 hv9 hcl9 => ?_) (fun v w' H locs hq hP hD hS => ?_)
  · refine z_out hG hex hlocks ?_ hP hS hc9 hv9 hcl9 (Nat.le_of_ble_eq_true rfl) (Nat.le_of_ble_eq_true rfl)
    obtain ⟨rfl, hE⟩ := hE
    exact Or.inl ⟨rfl, by simp [mlC, laR, hE]⟩
  obtain ⟨hq1, rfl, rfl⟩ := hq
  obtain ⟨j, hj, rfl⟩ := (inB_iff (by omega)).mp hq1
  have ej : nN (nI j) = j := nI_clamp (by omega)
  refine lv_aload_n hx hb dX5_launch_5 rfl (lv_at hl 0 rfl) ?_
  refine gB5_boats hx hb hta hown hK hP wd_2_5 dX5_launch_6 ?_
  refine gB1_berth hx hb hta hown hK hP wd_16_2 dX5_launch_9 ?_
  refine lv_iload_n hx hb dX5_launch_12 rfl (lv_at hl 1 rfl) ?_
  refine aB_ob hx hb hK hP j rfl (by omega) dX5_launch_13 ?_
  refine lv_istore_n (lv' := [(2, Value.int (ob j)), (0, Value.ref (a 0)), (1, Value.int (nI j))]) hx hb dX5_launch_14 rfl hl (by decide) rfl (fun ls hl => ?_)
  refine lv_aload_n hx hb dX5_launch_15 rfl (lv_at hl 1 rfl) ?_
  refine gB5_berths hx hb hta hown hK hP wd_2_1 dX5_launch_16 ?_
  refine lv_iload_n hx hb dX5_launch_19 rfl (lv_at hl 0 rfl) ?_
  refine z_callV (As := [Value.int (ob j)]) (rest := []) hx hb hml hown hta zm_X0_has wd_6_8 (c_X0_has l D y a cap clr t hom mov wm tb tf ts nw wf wt nb bw bl bi bb no od ow ol ork ob olf oco pn pb pm pcd pw pli (ob j) (by omega)) hN hK hP hD hS hA 3 rfl rfl rfl hl rfl (Nat.le_of_ble_eq_true rfl) ⟨Nat.le_of_ble_eq_true rfl, Nat.le_of_ble_eq_true rfl⟩ ⟨Nat.le_of_ble_eq_true rfl, Nat.le_of_ble_eq_true rfl⟩ dX5_launch_20 (fun v w' H locs hq hP hD hS => ?_)
  obtain ⟨rfl, rfl⟩ := hq
  refine lv_if_eq (tgt := 37) hx hb dX5_launch_23 (by decide) (fun c23 => ?_) (fun c23 => ?_)
  · have c23 := bI_0 c23
    refine zt_IllegalStateException_176 (ik := 87) (ic := 91) hlt hG hx hb hown hta hN hP hS hl hml hex hlocks rfl rfl (Nat.le_of_ble_eq_true rfl) (Nat.le_of_ble_eq_true rfl) (Nat.le_of_ble_eq_true rfl) (Nat.le_of_ble_eq_true rfl) (Nat.le_of_ble_eq_true rfl) (Nat.le_of_ble_eq_true rfl) dX5_launch_37 dX5_launch_40 dX5_launch_41 dX5_launch_43 dX5_launch_46 ?_
    exact Or.inr ⟨rfl, by simp [mlC, c23, hq1, ej, laR]⟩
  · have c23 := bI_1 c23
    obtain ⟨f, hf, ef0⟩ := (inB_iff (by omega)).mp c23
    have ef : nN (nI f) = f := nI_clamp (by omega)
    have hl := lv_as hl (congrArg (fun z => [(2, Value.int z), (0, Value.ref (a 0)), (1, Value.int (nI j))]) ef0)
    have hif : inB (nI f) nb = true := by rw [← ef0]; exact c23
    refine lv_aload_n hx hb dX5_launch_26 rfl (lv_at hl 1 rfl) ?_
    refine lv_iload_n hx hb dX5_launch_27 rfl (lv_at hl 2 rfl) ?_
    refine lv_iload_n hx hb dX5_launch_28 rfl (lv_at hl 0 rfl) ?_
    refine z_callV (As := [Value.int (nI j), Value.int (nI f)]) (rest := []) hx hb hml hown hta zm_X5_launchBar wd_19_12 (c_X5_launchBar l D y a cap clr t hom mov wm tb tf ts nw wf wt nb bw bl bi bb no od ow ol ork ob olf oco pn pb pm pcd pw pli j f (by omega) (by omega) (by omega) (by omega)) hN hK hP hD hS hA 0 rfl rfl rfl hl rfl (Nat.le_of_ble_eq_true rfl) ⟨Nat.le_of_ble_eq_true rfl, Nat.le_of_ble_eq_true rfl⟩ ⟨Nat.le_of_ble_eq_true rfl, Nat.le_of_ble_eq_true rfl⟩ dX5_launch_29 (fun v w' H locs hq hP hD hS => ?_)
    obtain ⟨rfl, rfl⟩ := hq
    refine lv_bipush (v := (110 : Int32)) hx hb dX5_launch_32 (by decide) ?_
    refine lv_icmp_eq (tgt := 47) hx hb dX5_launch_34 (by decide) (fun c34 => ?_) (fun c34 => ?_)
    · refine lv_aload_n hx hb dX5_launch_47 rfl (lv_at hl 1 rfl) ?_
      refine gB5_berths hx hb hta hown hK hP wd_2_1 dX5_launch_48 ?_
      refine gB0_boat hx hb hta hown hK hP wd_16_3 dX5_launch_51 ?_
      refine lv_iload_n hx hb dX5_launch_54 rfl (lv_at hl 0 rfl) ?_
      refine lv_iconst (v := (-1 : Int32)) hx hb dX5_launch_55 (by decide) ?_
      refine sB_bb hx hb hK hP hD hS f rfl (by omega) dX5_launch_56 (fun H locs hP hD hS => ?_)
      refine lv_aload_n hx hb dX5_launch_57 rfl (lv_at hl 1 rfl) ?_
      refine gB5_boats hx hb hta hown hK hP wd_2_5 dX5_launch_58 ?_
      refine gB1_berth hx hb hta hown hK hP wd_16_2 dX5_launch_61 ?_
      refine lv_iload_n hx hb dX5_launch_64 rfl (lv_at hl 2 rfl) ?_
      refine lv_bipush (v := (-2 : Int32)) hx hb dX5_launch_65 (by decide) ?_
      refine sB_ob hx hb hK hP hD hS j rfl (by omega) dX5_launch_67 (fun H locs hP hD hS => ?_)
      refine lv_aload_n hx hb dX5_launch_68 rfl (lv_at hl 1 rfl) ?_
      refine lv_iload_n hx hb dX5_launch_69 rfl (lv_at hl 2 rfl) ?_
      refine z_callV (As := [Value.int (nI j)]) (rest := []) hx hb hml hown hta zm_X5_countMove wd_17_12 (c_X5_countMove l D y a cap clr t hom mov wm tb tf ts nw wf wt nb bw bl bi (upd bb f (-1 : Int32)) no od ow ol ork (upd ob j (-2 : Int32)) olf oco pn pb pm pcd pw pli j (by omega)) hN hK hP hD hS hA 0 rfl rfl rfl hl rfl (Nat.le_of_ble_eq_true rfl) ⟨Nat.le_of_ble_eq_true rfl, Nat.le_of_ble_eq_true rfl⟩ ⟨Nat.le_of_ble_eq_true rfl, Nat.le_of_ble_eq_true rfl⟩ dX5_launch_70 (fun v w' H locs hq hP hD hS => ?_)
      obtain ⟨rfl, rfl⟩ := hq
      refine z_iretX hG hx hb hr hlocks hP hD hS (Nat.le_of_ble_eq_true rfl) (Nat.le_of_ble_eq_true rfl) dX5_launch_73 ?_
      refine ⟨?_, congrArg (fun z => some (Value.int z)) ?_, ?_⟩
      · simp [mlC, c23, c34, hq1, ej, ef0, ef, hif, laR]
      · rfl
      · rw [ej, ef0, ef]
    · refine zt_IllegalStateException_176 (ik := 87) (ic := 91) hlt hG hx hb hown hta hN hP hS hl hml hex hlocks rfl rfl (Nat.le_of_ble_eq_true rfl) (Nat.le_of_ble_eq_true rfl) (Nat.le_of_ble_eq_true rfl) (Nat.le_of_ble_eq_true rfl) (Nat.le_of_ble_eq_true rfl) (Nat.le_of_ble_eq_true rfl) dX5_launch_37 dX5_launch_40 dX5_launch_41 dX5_launch_43 dX5_launch_46 ?_
      exact Or.inr ⟨rfl, by simp [mlC, c23, c34, hq1, ej, ef0, ef, hif, laR]⟩
set_option maxHeartbeats 800000 in
set_option maxRecDepth 100000 in
theorem c_X5_launchReason (l : Launch) (hlt : l.stackTraces = false) (D : va_G) (y : Nat → ClassId) (a : Nat → Nat) (cap clr : Int32) (t : Nat) (hom mov : Int32) (wm : Int64) (tb tf ts : Int32) (nw : Nat) (wf wt : Nat → Int32) (nb : Nat) (bw bl bi bb : Nat → Int32) (no : Nat) (od ow ol ork ob olf oco : Nat → Int32) (pn pb pm : Int32) (pcd pw pli : Nat → Int32) (b : Int32) (hb8 : no ≤ 8) (hb6 : nb ≤ 6) (hw : nw ≤ 6) : zX l D y yX5_launchReason cX5_launchReason 3 (some .char) 8 1 6 116 [Value.ref (a 0), Value.int b] (wB a y cap clr (nI t) hom mov wm tb tf ts (nI nw) wf wt (nI nb) bw bl bi bb (nI no) od ow ol ork ob olf oco pn pb pm pcd pw pli) (fun o9 w9 => (boC no b = 0) ∧ o9 = some (Value.int (laR cap clr tb tf ts hom (nI t) (badF wf wt nw (nI t)) ob olf bb od ow bi nb (nN b))) ∧ w9 = wB a y cap clr (nI t) hom mov wm tb tf ts (nI nw) wf wt (nI nb) bw bl bi bb (nI no) od ow ol ork ob olf oco pn pb pm pcd pw pli) (fun E => (E = "java/lang/IndexOutOfBoundsException" ∧ (boC no b = 1))) := by
  refine zX.of (by decide +kernel) (Nat.le_of_ble_eq_true rfl) ?_
  intro p e s m args below meth c A ls hx hb hr hta hown hlocks hml hex hN hK hP hD hS hA hl
  refine z_gen (fun G hG => ?_)
  have hl : lv_has ls 3 [(0, Value.ref (a 0)), (1, Value.int b)] := hl
  refine lv_aload_n hx hb dX5_launchReason_0 rfl (lv_at hl 0 rfl) ?_
  refine lv_iload_n hx hb dX5_launchReason_1 rfl (lv_at hl 1 rfl) ?_
  refine z_xcallV (As := [Value.int b]) (rest := []) hx hb hml hown hta zm_X5_checkBoat wd_13_9 (c_X5_checkBoat l hlt D y a cap clr t hom mov wm tb tf ts nw wf wt nb bw bl bi bb no od ow ol ork ob olf oco pn pb pm pcd pw pli b (by omega)) hN hK hP hD hS hA 0 rfl rfl rfl hl rfl (Nat.le_of_ble_eq_true rfl) ⟨Nat.le_of_ble_eq_true rfl, Nat.le_of_ble_eq_true rfl⟩ ⟨Nat.le_of_ble_eq_true rfl, Nat.le_of_ble_eq_true rfl⟩ dX5_launchReason_2 (fun E ce q9 H locs hE hP hS hc9 hv9 hcl9 => ?_) (fun v w' H locs hq hP hD hS => ?_)
  · refine z_out hG hex hlocks ?_ hP hS hc9 hv9 hcl9 (Nat.le_of_ble_eq_true rfl) (Nat.le_of_ble_eq_true rfl)
    obtain ⟨rfl, hE⟩ := hE
    exact ⟨rfl, by simp [boC, hE]⟩
  obtain ⟨hq1, rfl, rfl⟩ := hq
  obtain ⟨j, hj, rfl⟩ := (inB_iff (by omega)).mp hq1
  have ej : nN (nI j) = j := nI_clamp (by omega)
  refine lv_aload_n hx hb dX5_launchReason_5 rfl (lv_at hl 0 rfl) ?_
  refine gB5_boats hx hb hta hown hK hP wd_2_5 dX5_launchReason_6 ?_
  refine gB1_berth hx hb hta hown hK hP wd_16_2 dX5_launchReason_9 ?_
  refine lv_iload_n hx hb dX5_launchReason_12 rfl (lv_at hl 1 rfl) ?_
  refine aB_ob hx hb hK hP j rfl (by omega) dX5_launchReason_13 ?_
  refine lv_istore_n (lv' := [(2, Value.int (ob j)), (0, Value.ref (a 0)), (1, Value.int (nI j))]) hx hb dX5_launchReason_14 rfl hl (by decide) rfl (fun ls hl => ?_)
  refine lv_aload_n hx hb dX5_launchReason_15 rfl (lv_at hl 1 rfl) ?_
  refine gB5_berths hx hb hta hown hK hP wd_2_1 dX5_launchReason_16 ?_
  refine lv_iload_n hx hb dX5_launchReason_19 rfl (lv_at hl 0 rfl) ?_
  refine z_callV (As := [Value.int (ob j)]) (rest := []) hx hb hml hown hta zm_X0_has wd_6_8 (c_X0_has l D y a cap clr t hom mov wm tb tf ts nw wf wt nb bw bl bi bb no od ow ol ork ob olf oco pn pb pm pcd pw pli (ob j) (by omega)) hN hK hP hD hS hA 3 rfl rfl rfl hl rfl (Nat.le_of_ble_eq_true rfl) ⟨Nat.le_of_ble_eq_true rfl, Nat.le_of_ble_eq_true rfl⟩ ⟨Nat.le_of_ble_eq_true rfl, Nat.le_of_ble_eq_true rfl⟩ dX5_launchReason_20 (fun v w' H locs hq hP hD hS => ?_)
  obtain ⟨rfl, rfl⟩ := hq
  refine lv_if_eq (tgt := 35) hx hb dX5_launchReason_23 (by decide) (fun c23 => ?_) (fun c23 => ?_)
  · have c23 := bI_0 c23
    refine lv_bipush (v := (97 : Int32)) hx hb dX5_launchReason_35 (by decide) ?_
    refine z_zretX hG hx hb hr hlocks hP hD hS (Nat.le_of_ble_eq_true rfl) (Nat.le_of_ble_eq_true rfl) dX5_launchReason_37 ?_ ?_
    · rfl
    · refine ⟨?_, congrArg (fun z => some (Value.int z)) ?_, ?_⟩
      · simp [boC, c23, hq1, ej]
      · first
        | rw [ej, laR, if_pos c23, ef0, ef]
        | (rw [ej, laR, c23]; rfl)
      · rfl
  · have c23 := bI_1 c23
    obtain ⟨f, hf, ef0⟩ := (inB_iff (by omega)).mp c23
    have ef : nN (nI f) = f := nI_clamp (by omega)
    have hl := lv_as hl (congrArg (fun z => [(2, Value.int z), (0, Value.ref (a 0)), (1, Value.int (nI j))]) ef0)
    have hif : inB (nI f) nb = true := by rw [← ef0]; exact c23
    refine lv_aload_n hx hb dX5_launchReason_26 rfl (lv_at hl 1 rfl) ?_
    refine lv_iload_n hx hb dX5_launchReason_27 rfl (lv_at hl 2 rfl) ?_
    refine lv_iload_n hx hb dX5_launchReason_28 rfl (lv_at hl 0 rfl) ?_
    refine z_callV (As := [Value.int (nI j), Value.int (nI f)]) (rest := []) hx hb hml hown hta zm_X5_launchBar wd_19_12 (c_X5_launchBar l D y a cap clr t hom mov wm tb tf ts nw wf wt nb bw bl bi bb no od ow ol ork ob olf oco pn pb pm pcd pw pli j f (by omega) (by omega) (by omega) (by omega)) hN hK hP hD hS hA 0 rfl rfl rfl hl rfl (Nat.le_of_ble_eq_true rfl) ⟨Nat.le_of_ble_eq_true rfl, Nat.le_of_ble_eq_true rfl⟩ ⟨Nat.le_of_ble_eq_true rfl, Nat.le_of_ble_eq_true rfl⟩ dX5_launchReason_29 (fun v w' H locs hq hP hD hS => ?_)
    obtain ⟨rfl, rfl⟩ := hq
    refine lv_goto (tgt := 37) hx hb dX5_launchReason_32 (by decide) ?_
    refine z_zretX hG hx hb hr hlocks hP hD hS (Nat.le_of_ble_eq_true rfl) (Nat.le_of_ble_eq_true rfl) dX5_launchReason_37 ?_ ?_
    · exact la_ch ..
    · refine ⟨?_, congrArg (fun z => some (Value.int z)) ?_, ?_⟩
      · simp [boC, c23, hq1, ej, ef0, ef, hif]
      · first
        | rw [ej, laR, if_pos c23, ef0, ef]
        | (rw [ej, laR, c23]; rfl)
      · rfl
set_option maxHeartbeats 800000 in
set_option maxRecDepth 100000 in
theorem c_X5_shift (l : Launch) (hlt : l.stackTraces = false) (D : va_G) (y : Nat → ClassId) (a : Nat → Nat) (cap clr : Int32) (t : Nat) (hom mov : Int32) (wm : Int64) (tb tf ts : Int32) (nw : Nat) (wf wt : Nat → Int32) (nb : Nat) (bw bl bi bb : Nat → Int32) (no : Nat) (od ow ol ork ob olf oco : Nat → Int32) (pn pb pm : Int32) (pcd pw pli : Nat → Int32) (b : Int32) (g : Int32) (hb8 : no ≤ 8) (hb6 : nb ≤ 6) (hw : nw ≤ 6) : zX l D y yX5_shift cX5_shift 4 (some .int) 9 3 18 138 [Value.ref (a 0), Value.int b, Value.int g] (wB a y cap clr (nI t) hom mov wm tb tf ts (nI nw) wf wt (nI nb) bw bl bi bb (nI no) od ow ol ork ob olf oco pn pb pm pcd pw pli) (fun o9 w9 => (mvC no nb b g (shR cap hom (nI t) (badF wf wt nw (nI t)) ob olf ow ol bw bl bi bb nb (nN b) (nN g)) = 0) ∧ o9 = some (Value.int (mov + (1 : Int32))) ∧ w9 = wB a y cap clr (nI t) (nI t) (mov + (1 : Int32)) (wm + Int32.toInt64 (ow (nN b))) tb tf ts (nI nw) wf wt (nI nb) bw bl bi (upd (upd bb (nN (ob (nN b))) (-1 : Int32)) (nN g) b) (nI no) od ow ol ork (upd ob (nN b) g) olf oco pn pb pm pcd pw pli) (fun E => (E = "java/lang/IndexOutOfBoundsException" ∧ (mvC no nb b g (shR cap hom (nI t) (badF wf wt nw (nI t)) ob olf ow ol bw bl bi bb nb (nN b) (nN g)) = 1)) ∨ (E = "java/lang/IllegalStateException" ∧ (mvC no nb b g (shR cap hom (nI t) (badF wf wt nw (nI t)) ob olf ow ol bw bl bi bb nb (nN b) (nN g)) = 2))) := by
  refine zX.of (by decide +kernel) (Nat.le_of_ble_eq_true rfl) ?_
  intro p e s m args below meth c A ls hx hb hr hta hown hlocks hml hex hN hK hP hD hS hA hl
  refine z_gen (fun G hG => ?_)
  have hl : lv_has ls 4 [(0, Value.ref (a 0)), (1, Value.int b), (2, Value.int g)] := hl
  refine lv_aload_n hx hb dX5_shift_0 rfl (lv_at hl 0 rfl) ?_
  refine lv_iload_n hx hb dX5_shift_1 rfl (lv_at hl 1 rfl) ?_
  refine lv_iload_n hx hb dX5_shift_2 rfl (lv_at hl 2 rfl) ?_
  refine z_xcallV (As := [Value.int b, Value.int g]) (rest := []) hx hb hml hown hta zm_X5_checkBoatAndBerth wd_16_4 (c_X5_checkBoatAndBerth l hlt D y a cap clr t hom mov wm tb tf ts nw wf wt nb bw bl bi bb no od ow ol ork ob olf oco pn pb pm pcd pw pli b g (by omega) (by omega)) hN hK hP hD hS hA 0 rfl rfl rfl hl rfl (Nat.le_of_ble_eq_true rfl) ⟨Nat.le_of_ble_eq_true rfl, Nat.le_of_ble_eq_true rfl⟩ ⟨Nat.le_of_ble_eq_true rfl, Nat.le_of_ble_eq_true rfl⟩ dX5_shift_3 (fun E ce q9 H locs hE hP hS hc9 hv9 hcl9 => ?_) (fun v w' H locs hq hP hD hS => ?_)
  · refine z_out hG hex hlocks ?_ hP hS hc9 hv9 hcl9 (Nat.le_of_ble_eq_true rfl) (Nat.le_of_ble_eq_true rfl)
    obtain ⟨rfl, hE⟩ := hE
    exact Or.inl ⟨rfl, by simp [mvC, shR, hE]⟩
  obtain ⟨hq1, rfl, rfl⟩ := hq
  obtain ⟨j, hj, rfl⟩ := (inB_iff (by omega)).mp hq1.1
  have ej : nN (nI j) = j := nI_clamp (by omega)
  obtain ⟨k, hk, rfl⟩ := (inB_iff (by omega)).mp hq1.2
  have ek : nN (nI k) = k := nI_clamp (by omega)
  refine lv_aload_n hx hb dX5_shift_6 rfl (lv_at hl 0 rfl) ?_
  refine gB5_boats hx hb hta hown hK hP wd_2_5 dX5_shift_7 ?_
  refine gB1_berth hx hb hta hown hK hP wd_16_2 dX5_shift_10 ?_
  refine lv_iload_n hx hb dX5_shift_13 rfl (lv_at hl 1 rfl) ?_
  refine aB_ob hx hb hK hP j rfl (by omega) dX5_shift_14 ?_
  refine lv_istore_n (lv' := [(3, Value.int (ob j)), (0, Value.ref (a 0)), (1, Value.int (nI j)), (2, Value.int (nI k))]) hx hb dX5_shift_15 rfl hl (by decide) rfl (fun ls hl => ?_)
  refine lv_aload_n hx hb dX5_shift_16 rfl (lv_at hl 1 rfl) ?_
  refine gB5_berths hx hb hta hown hK hP wd_2_1 dX5_shift_17 ?_
  refine lv_iload_n hx hb dX5_shift_20 rfl (lv_at hl 0 rfl) ?_
  refine z_callV (As := [Value.int (ob j)]) (rest := []) hx hb hml hown hta zm_X0_has wd_6_8 (c_X0_has l D y a cap clr t hom mov wm tb tf ts nw wf wt nb bw bl bi bb no od ow ol ork ob olf oco pn pb pm pcd pw pli (ob j) (by omega)) hN hK hP hD hS hA 3 rfl rfl rfl hl rfl (Nat.le_of_ble_eq_true rfl) ⟨Nat.le_of_ble_eq_true rfl, Nat.le_of_ble_eq_true rfl⟩ ⟨Nat.le_of_ble_eq_true rfl, Nat.le_of_ble_eq_true rfl⟩ dX5_shift_21 (fun v w' H locs hq hP hD hS => ?_)
  obtain ⟨rfl, rfl⟩ := hq
  refine lv_if_eq (tgt := 39) hx hb dX5_shift_24 (by decide) (fun c24 => ?_) (fun c24 => ?_)
  · have c24 := bI_0 c24
    refine zt_IllegalStateException_182 (ik := 87) (ic := 91) hlt hG hx hb hown hta hN hP hS hl hml hex hlocks rfl rfl (Nat.le_of_ble_eq_true rfl) (Nat.le_of_ble_eq_true rfl) (Nat.le_of_ble_eq_true rfl) (Nat.le_of_ble_eq_true rfl) (Nat.le_of_ble_eq_true rfl) (Nat.le_of_ble_eq_true rfl) dX5_shift_39 dX5_shift_42 dX5_shift_43 dX5_shift_45 dX5_shift_48 ?_
    exact Or.inr ⟨rfl, by simp [mvC, c24, hq1, ej, ek, shR]⟩
  · have c24 := bI_1 c24
    obtain ⟨f, hf, ef0⟩ := (inB_iff (by omega)).mp c24
    have ef : nN (nI f) = f := nI_clamp (by omega)
    have hl := lv_as hl (congrArg (fun z => [(3, Value.int z), (0, Value.ref (a 0)), (1, Value.int (nI j)), (2, Value.int (nI k))]) ef0)
    have hif : inB (nI f) nb = true := by rw [← ef0]; exact c24
    refine lv_aload_n hx hb dX5_shift_27 rfl (lv_at hl 1 rfl) ?_
    refine lv_iload_n hx hb dX5_shift_28 rfl (lv_at hl 2 rfl) ?_
    refine lv_iload_n hx hb dX5_shift_29 rfl (lv_at hl 0 rfl) ?_
    refine lv_iload_n hx hb dX5_shift_30 rfl (lv_at hl 3 rfl) ?_
    refine z_callV (As := [Value.int (nI j), Value.int (nI f), Value.int (nI k)]) (rest := []) hx hb hml hown hta zm_X5_shiftBar wd_20_19 (c_X5_shiftBar l D y a cap clr t hom mov wm tb tf ts nw wf wt nb bw bl bi bb no od ow ol ork ob olf oco pn pb pm pcd pw pli j f k (by omega) (by omega) (by omega) (by omega) (by omega)) hN hK hP hD hS hA 0 rfl rfl rfl hl rfl (Nat.le_of_ble_eq_true rfl) ⟨Nat.le_of_ble_eq_true rfl, Nat.le_of_ble_eq_true rfl⟩ ⟨Nat.le_of_ble_eq_true rfl, Nat.le_of_ble_eq_true rfl⟩ dX5_shift_31 (fun v w' H locs hq hP hD hS => ?_)
    obtain ⟨rfl, rfl⟩ := hq
    refine lv_bipush (v := (110 : Int32)) hx hb dX5_shift_34 (by decide) ?_
    refine lv_icmp_eq (tgt := 49) hx hb dX5_shift_36 (by decide) (fun c36 => ?_) (fun c36 => ?_)
    · refine lv_aload_n hx hb dX5_shift_49 rfl (lv_at hl 1 rfl) ?_
      refine gB5_berths hx hb hta hown hK hP wd_2_1 dX5_shift_50 ?_
      refine gB0_boat hx hb hta hown hK hP wd_16_3 dX5_shift_53 ?_
      refine lv_iload_n hx hb dX5_shift_56 rfl (lv_at hl 0 rfl) ?_
      refine lv_iconst (v := (-1 : Int32)) hx hb dX5_shift_57 (by decide) ?_
      refine sB_bb hx hb hK hP hD hS f rfl (by omega) dX5_shift_58 (fun H locs hP hD hS => ?_)
      refine lv_aload_n hx hb dX5_shift_59 rfl (lv_at hl 1 rfl) ?_
      refine gB5_berths hx hb hta hown hK hP wd_2_1 dX5_shift_60 ?_
      refine gB0_boat hx hb hta hown hK hP wd_16_3 dX5_shift_63 ?_
      refine lv_iload_n hx hb dX5_shift_66 rfl (lv_at hl 3 rfl) ?_
      refine lv_iload_n hx hb dX5_shift_67 rfl (lv_at hl 2 rfl) ?_
      refine sB_bb hx hb hK hP hD hS k rfl (by omega) dX5_shift_68 (fun H locs hP hD hS => ?_)
      refine lv_aload_n hx hb dX5_shift_69 rfl (lv_at hl 1 rfl) ?_
      refine gB5_boats hx hb hta hown hK hP wd_2_5 dX5_shift_70 ?_
      refine gB1_berth hx hb hta hown hK hP wd_16_2 dX5_shift_73 ?_
      refine lv_iload_n hx hb dX5_shift_76 rfl (lv_at hl 2 rfl) ?_
      refine lv_iload_n hx hb dX5_shift_77 rfl (lv_at hl 3 rfl) ?_
      refine sB_ob hx hb hK hP hD hS j rfl (by omega) dX5_shift_78 (fun H locs hP hD hS => ?_)
      refine lv_aload_n hx hb dX5_shift_79 rfl (lv_at hl 1 rfl) ?_
      refine lv_iload_n hx hb dX5_shift_80 rfl (lv_at hl 2 rfl) ?_
      refine z_callV (As := [Value.int (nI j)]) (rest := []) hx hb hml hown hta zm_X5_countMove wd_17_12 (c_X5_countMove l D y a cap clr t hom mov wm tb tf ts nw wf wt nb bw bl bi (upd (upd bb f (-1 : Int32)) k (nI j)) no od ow ol ork (upd ob j (nI k)) olf oco pn pb pm pcd pw pli j (by omega)) hN hK hP hD hS hA 0 rfl rfl rfl hl rfl (Nat.le_of_ble_eq_true rfl) ⟨Nat.le_of_ble_eq_true rfl, Nat.le_of_ble_eq_true rfl⟩ ⟨Nat.le_of_ble_eq_true rfl, Nat.le_of_ble_eq_true rfl⟩ dX5_shift_81 (fun v w' H locs hq hP hD hS => ?_)
      obtain ⟨rfl, rfl⟩ := hq
      refine z_iretX hG hx hb hr hlocks hP hD hS (Nat.le_of_ble_eq_true rfl) (Nat.le_of_ble_eq_true rfl) dX5_shift_84 ?_
      refine ⟨?_, congrArg (fun z => some (Value.int z)) ?_, ?_⟩
      · simp [mvC, c24, c36, hq1, ej, ek, ef0, ef, hif, shR]
      · rfl
      · rw [ej, ek, ef0, ef]
    · refine zt_IllegalStateException_182 (ik := 87) (ic := 91) hlt hG hx hb hown hta hN hP hS hl hml hex hlocks rfl rfl (Nat.le_of_ble_eq_true rfl) (Nat.le_of_ble_eq_true rfl) (Nat.le_of_ble_eq_true rfl) (Nat.le_of_ble_eq_true rfl) (Nat.le_of_ble_eq_true rfl) (Nat.le_of_ble_eq_true rfl) dX5_shift_39 dX5_shift_42 dX5_shift_43 dX5_shift_45 dX5_shift_48 ?_
      exact Or.inr ⟨rfl, by simp [mvC, c24, c36, hq1, ej, ek, ef0, ef, hif, shR]⟩
set_option maxHeartbeats 800000 in
set_option maxRecDepth 100000 in
theorem c_X5_shiftReason (l : Launch) (hlt : l.stackTraces = false) (D : va_G) (y : Nat → ClassId) (a : Nat → Nat) (cap clr : Int32) (t : Nat) (hom mov : Int32) (wm : Int64) (tb tf ts : Int32) (nw : Nat) (wf wt : Nat → Int32) (nb : Nat) (bw bl bi bb : Nat → Int32) (no : Nat) (od ow ol ork ob olf oco : Nat → Int32) (pn pb pm : Int32) (pcd pw pli : Nat → Int32) (b : Int32) (g : Int32) (hb8 : no ≤ 8) (hb6 : nb ≤ 6) (hw : nw ≤ 6) : zX l D y yX5_shiftReason cX5_shiftReason 4 (some .char) 9 2 12 138 [Value.ref (a 0), Value.int b, Value.int g] (wB a y cap clr (nI t) hom mov wm tb tf ts (nI nw) wf wt (nI nb) bw bl bi bb (nI no) od ow ol ork ob olf oco pn pb pm pcd pw pli) (fun o9 w9 => (bbC no nb b g = 0) ∧ o9 = some (Value.int (shR cap hom (nI t) (badF wf wt nw (nI t)) ob olf ow ol bw bl bi bb nb (nN b) (nN g))) ∧ w9 = wB a y cap clr (nI t) hom mov wm tb tf ts (nI nw) wf wt (nI nb) bw bl bi bb (nI no) od ow ol ork ob olf oco pn pb pm pcd pw pli) (fun E => (E = "java/lang/IndexOutOfBoundsException" ∧ (bbC no nb b g = 1))) := by
  refine zX.of (by decide +kernel) (Nat.le_of_ble_eq_true rfl) ?_
  intro p e s m args below meth c A ls hx hb hr hta hown hlocks hml hex hN hK hP hD hS hA hl
  refine z_gen (fun G hG => ?_)
  have hl : lv_has ls 4 [(0, Value.ref (a 0)), (1, Value.int b), (2, Value.int g)] := hl
  refine lv_aload_n hx hb dX5_shiftReason_0 rfl (lv_at hl 0 rfl) ?_
  refine lv_iload_n hx hb dX5_shiftReason_1 rfl (lv_at hl 1 rfl) ?_
  refine lv_iload_n hx hb dX5_shiftReason_2 rfl (lv_at hl 2 rfl) ?_
  refine z_xcallV (As := [Value.int b, Value.int g]) (rest := []) hx hb hml hown hta zm_X5_checkBoatAndBerth wd_16_4 (c_X5_checkBoatAndBerth l hlt D y a cap clr t hom mov wm tb tf ts nw wf wt nb bw bl bi bb no od ow ol ork ob olf oco pn pb pm pcd pw pli b g (by omega) (by omega)) hN hK hP hD hS hA 0 rfl rfl rfl hl rfl (Nat.le_of_ble_eq_true rfl) ⟨Nat.le_of_ble_eq_true rfl, Nat.le_of_ble_eq_true rfl⟩ ⟨Nat.le_of_ble_eq_true rfl, Nat.le_of_ble_eq_true rfl⟩ dX5_shiftReason_3 (fun E ce q9 H locs hE hP hS hc9 hv9 hcl9 => ?_) (fun v w' H locs hq hP hD hS => ?_)
  · refine z_out hG hex hlocks ?_ hP hS hc9 hv9 hcl9 (Nat.le_of_ble_eq_true rfl) (Nat.le_of_ble_eq_true rfl)
    obtain ⟨rfl, hE⟩ := hE
    exact ⟨rfl, by simp [bbC, hE]⟩
  obtain ⟨hq1, rfl, rfl⟩ := hq
  obtain ⟨j, hj, rfl⟩ := (inB_iff (by omega)).mp hq1.1
  have ej : nN (nI j) = j := nI_clamp (by omega)
  obtain ⟨k, hk, rfl⟩ := (inB_iff (by omega)).mp hq1.2
  have ek : nN (nI k) = k := nI_clamp (by omega)
  refine lv_aload_n hx hb dX5_shiftReason_6 rfl (lv_at hl 0 rfl) ?_
  refine gB5_boats hx hb hta hown hK hP wd_2_5 dX5_shiftReason_7 ?_
  refine gB1_berth hx hb hta hown hK hP wd_16_2 dX5_shiftReason_10 ?_
  refine lv_iload_n hx hb dX5_shiftReason_13 rfl (lv_at hl 1 rfl) ?_
  refine aB_ob hx hb hK hP j rfl (by omega) dX5_shiftReason_14 ?_
  refine lv_istore_n (lv' := [(3, Value.int (ob j)), (0, Value.ref (a 0)), (1, Value.int (nI j)), (2, Value.int (nI k))]) hx hb dX5_shiftReason_15 rfl hl (by decide) rfl (fun ls hl => ?_)
  refine lv_aload_n hx hb dX5_shiftReason_16 rfl (lv_at hl 1 rfl) ?_
  refine gB5_berths hx hb hta hown hK hP wd_2_1 dX5_shiftReason_17 ?_
  refine lv_iload_n hx hb dX5_shiftReason_20 rfl (lv_at hl 0 rfl) ?_
  refine z_callV (As := [Value.int (ob j)]) (rest := []) hx hb hml hown hta zm_X0_has wd_6_8 (c_X0_has l D y a cap clr t hom mov wm tb tf ts nw wf wt nb bw bl bi bb no od ow ol ork ob olf oco pn pb pm pcd pw pli (ob j) (by omega)) hN hK hP hD hS hA 3 rfl rfl rfl hl rfl (Nat.le_of_ble_eq_true rfl) ⟨Nat.le_of_ble_eq_true rfl, Nat.le_of_ble_eq_true rfl⟩ ⟨Nat.le_of_ble_eq_true rfl, Nat.le_of_ble_eq_true rfl⟩ dX5_shiftReason_21 (fun v w' H locs hq hP hD hS => ?_)
  obtain ⟨rfl, rfl⟩ := hq
  refine lv_if_eq (tgt := 37) hx hb dX5_shiftReason_24 (by decide) (fun c24 => ?_) (fun c24 => ?_)
  · have c24 := bI_0 c24
    refine lv_bipush (v := (97 : Int32)) hx hb dX5_shiftReason_37 (by decide) ?_
    refine z_zretX hG hx hb hr hlocks hP hD hS (Nat.le_of_ble_eq_true rfl) (Nat.le_of_ble_eq_true rfl) dX5_shiftReason_39 ?_ ?_
    · rfl
    · refine ⟨?_, congrArg (fun z => some (Value.int z)) ?_, ?_⟩
      · simp [bbC, c24, hq1, ej, ek]
      · first
        | rw [ej, ek, shR, if_pos c24, ef0, ef]
        | (rw [ej, ek, shR, c24]; rfl)
      · rfl
  · have c24 := bI_1 c24
    obtain ⟨f, hf, ef0⟩ := (inB_iff (by omega)).mp c24
    have ef : nN (nI f) = f := nI_clamp (by omega)
    have hl := lv_as hl (congrArg (fun z => [(3, Value.int z), (0, Value.ref (a 0)), (1, Value.int (nI j)), (2, Value.int (nI k))]) ef0)
    have hif : inB (nI f) nb = true := by rw [← ef0]; exact c24
    refine lv_aload_n hx hb dX5_shiftReason_27 rfl (lv_at hl 1 rfl) ?_
    refine lv_iload_n hx hb dX5_shiftReason_28 rfl (lv_at hl 2 rfl) ?_
    refine lv_iload_n hx hb dX5_shiftReason_29 rfl (lv_at hl 0 rfl) ?_
    refine lv_iload_n hx hb dX5_shiftReason_30 rfl (lv_at hl 3 rfl) ?_
    refine z_callV (As := [Value.int (nI j), Value.int (nI f), Value.int (nI k)]) (rest := []) hx hb hml hown hta zm_X5_shiftBar wd_20_19 (c_X5_shiftBar l D y a cap clr t hom mov wm tb tf ts nw wf wt nb bw bl bi bb no od ow ol ork ob olf oco pn pb pm pcd pw pli j f k (by omega) (by omega) (by omega) (by omega) (by omega)) hN hK hP hD hS hA 0 rfl rfl rfl hl rfl (Nat.le_of_ble_eq_true rfl) ⟨Nat.le_of_ble_eq_true rfl, Nat.le_of_ble_eq_true rfl⟩ ⟨Nat.le_of_ble_eq_true rfl, Nat.le_of_ble_eq_true rfl⟩ dX5_shiftReason_31 (fun v w' H locs hq hP hD hS => ?_)
    obtain ⟨rfl, rfl⟩ := hq
    refine lv_goto (tgt := 39) hx hb dX5_shiftReason_34 (by decide) ?_
    refine z_zretX hG hx hb hr hlocks hP hD hS (Nat.le_of_ble_eq_true rfl) (Nat.le_of_ble_eq_true rfl) dX5_shiftReason_39 ?_ ?_
    · exact sb_ch ..
    · refine ⟨?_, congrArg (fun z => some (Value.int z)) ?_, ?_⟩
      · simp [bbC, c24, hq1, ej, ek, ef0, ef, hif]
      · first
        | rw [ej, ek, shR, if_pos c24, ef0, ef]
        | (rw [ej, ek, shR, c24]; rfl)
      · rfl
set_option maxHeartbeats 800000 in
set_option maxRecDepth 100000 in
theorem c_X5_comeBack (l : Launch) (hlt : l.stackTraces = false) (D : va_G) (y : Nat → ClassId) (a : Nat → Nat) (cap clr : Int32) (t : Nat) (hom mov : Int32) (wm : Int64) (tb tf ts : Int32) (nw : Nat) (wf wt : Nat → Int32) (nb : Nat) (bw bl bi bb : Nat → Int32) (no : Nat) (od ow ol ork ob olf oco : Nat → Int32) (pn pb pm : Int32) (pcd pw pli : Nat → Int32) (b : Int32) (hb8 : no ≤ 8) : zX l D y yX5_comeBack cX5_comeBack 2 (some .int) 8 2 12 116 [Value.ref (a 0), Value.int b] (wB a y cap clr (nI t) hom mov wm tb tf ts (nI nw) wf wt (nI nb) bw bl bi bb (nI no) od ow ol ork ob olf oco pn pb pm pcd pw pli) (fun o9 w9 => (cbC no ob b = 0) ∧ o9 = some (Value.int (nI (cntW (upd ob (nN b) (-1 : Int32)) no))) ∧ w9 = wB a y cap clr (nI t) hom mov wm tb tf ts (nI nw) wf wt (nI nb) bw bl bi bb (nI no) od ow ol ork (upd ob (nN b) (-1 : Int32)) olf oco pn pb pm pcd pw pli) (fun E => (E = "java/lang/IndexOutOfBoundsException" ∧ (cbC no ob b = 1)) ∨ (E = "java/lang/IllegalStateException" ∧ (cbC no ob b = 2))) := by
  refine zX.of (by decide +kernel) (Nat.le_of_ble_eq_true rfl) ?_
  intro p e s m args below meth c A ls hx hb hr hta hown hlocks hml hex hN hK hP hD hS hA hl
  refine z_gen (fun G hG => ?_)
  have hl : lv_has ls 2 [(0, Value.ref (a 0)), (1, Value.int b)] := hl
  refine lv_aload_n hx hb dX5_comeBack_0 rfl (lv_at hl 0 rfl) ?_
  refine lv_iload_n hx hb dX5_comeBack_1 rfl (lv_at hl 1 rfl) ?_
  refine z_xcallV (As := [Value.int b]) (rest := []) hx hb hml hown hta zm_X5_checkBoat wd_13_9 (c_X5_checkBoat l hlt D y a cap clr t hom mov wm tb tf ts nw wf wt nb bw bl bi bb no od ow ol ork ob olf oco pn pb pm pcd pw pli b (by omega)) hN hK hP hD hS hA 0 rfl rfl rfl hl rfl (Nat.le_of_ble_eq_true rfl) ⟨Nat.le_of_ble_eq_true rfl, Nat.le_of_ble_eq_true rfl⟩ ⟨Nat.le_of_ble_eq_true rfl, Nat.le_of_ble_eq_true rfl⟩ dX5_comeBack_2 (fun E ce q9 H locs hE hP hS hc9 hv9 hcl9 => ?_) (fun v w' H locs hq hP hD hS => ?_)
  · refine z_out hG hex hlocks ?_ hP hS hc9 hv9 hcl9 (Nat.le_of_ble_eq_true rfl) (Nat.le_of_ble_eq_true rfl)
    obtain ⟨rfl, hE⟩ := hE
    exact Or.inl ⟨rfl, by simp [cbC, hE]⟩
  obtain ⟨hq1, rfl, rfl⟩ := hq
  obtain ⟨j, hj, rfl⟩ := (inB_iff (by omega)).mp hq1
  have ej : nN (nI j) = j := nI_clamp (by omega)
  refine lv_aload_n hx hb dX5_comeBack_5 rfl (lv_at hl 0 rfl) ?_
  refine gB5_boats hx hb hta hown hK hP wd_2_5 dX5_comeBack_6 ?_
  refine gB1_berth hx hb hta hown hK hP wd_16_2 dX5_comeBack_9 ?_
  refine lv_iload_n hx hb dX5_comeBack_12 rfl (lv_at hl 1 rfl) ?_
  refine aB_ob hx hb hK hP j rfl (by omega) dX5_comeBack_13 ?_
  refine lv_bipush (v := (-2 : Int32)) hx hb dX5_comeBack_14 (by decide) ?_
  refine lv_icmp_eq (tgt := 29) hx hb dX5_comeBack_16 (by decide) (fun c16 => ?_) (fun c16 => ?_)
  · refine lv_aload_n hx hb dX5_comeBack_29 rfl (lv_at hl 0 rfl) ?_
    refine gB5_boats hx hb hta hown hK hP wd_2_5 dX5_comeBack_30 ?_
    refine gB1_berth hx hb hta hown hK hP wd_16_2 dX5_comeBack_33 ?_
    refine lv_iload_n hx hb dX5_comeBack_36 rfl (lv_at hl 1 rfl) ?_
    refine lv_iconst (v := (-1 : Int32)) hx hb dX5_comeBack_37 (by decide) ?_
    refine sB_ob hx hb hK hP hD hS j rfl (by omega) dX5_comeBack_38 (fun H locs hP hD hS => ?_)
    refine lv_aload_n hx hb dX5_comeBack_39 rfl (lv_at hl 0 rfl) ?_
    refine gB5_boats hx hb hta hown hK hP wd_2_5 dX5_comeBack_40 ?_
    refine z_callV (As := []) (rest := []) hx hb hml hown hta zm_X1_countWaiting wd_22_9 (c_X1_countWaiting l D y a cap clr t hom mov wm tb tf ts nw wf wt nb bw bl bi bb no od ow ol ork (upd ob j (-1 : Int32)) olf oco pn pb pm pcd pw pli (by omega)) hN hK hP hD hS hA 4 rfl rfl rfl hl rfl (Nat.le_of_ble_eq_true rfl) ⟨Nat.le_of_ble_eq_true rfl, Nat.le_of_ble_eq_true rfl⟩ ⟨Nat.le_of_ble_eq_true rfl, Nat.le_of_ble_eq_true rfl⟩ dX5_comeBack_43 (fun v w' H locs hq hP hD hS => ?_)
    obtain ⟨rfl, rfl⟩ := hq
    refine z_iretX hG hx hb hr hlocks hP hD hS (Nat.le_of_ble_eq_true rfl) (Nat.le_of_ble_eq_true rfl) dX5_comeBack_46 ?_
    refine ⟨?_, congrArg (fun z => some (Value.int z)) ?_, ?_⟩
    · simp [cbC, c16, hq1, ej]
    · rw [ej]
    · rw [ej]
  · refine zt_IllegalStateException_184 (ik := 87) (ic := 91) hlt hG hx hb hown hta hN hP hS hl hml hex hlocks rfl rfl (Nat.le_of_ble_eq_true rfl) (Nat.le_of_ble_eq_true rfl) (Nat.le_of_ble_eq_true rfl) (Nat.le_of_ble_eq_true rfl) (Nat.le_of_ble_eq_true rfl) (Nat.le_of_ble_eq_true rfl) dX5_comeBack_19 dX5_comeBack_22 dX5_comeBack_23 dX5_comeBack_25 dX5_comeBack_28 ?_
    exact Or.inr ⟨rfl, by simp [cbC, c16, hq1, ej]⟩
set_option maxHeartbeats 800000 in
set_option maxRecDepth 100000 in
theorem c_X5_nextWaiting (l : Launch) (hlt : l.stackTraces = false) (D : va_G) (y : Nat → ClassId) (a : Nat → Nat) (cap clr : Int32) (t : Nat) (hom mov : Int32) (wm : Int64) (tb tf ts : Int32) (nw : Nat) (wf wt : Nat → Int32) (nb : Nat) (bw bl bi bb : Nat → Int32) (no : Nat) (od ow ol ork ob olf oco : Nat → Int32) (pn pb pm : Int32) (pcd pw pli : Nat → Int32)  (hb8 : no ≤ 8) : zX l D y yX5_nextWaiting cX5_nextWaiting 2 (some .int) 7 1 6 95 [Value.ref (a 0)] (wB a y cap clr (nI t) hom mov wm tb tf ts (nI nw) wf wt (nI nb) bw bl bi bb (nI no) od ow ol ork ob olf oco pn pb pm pcd pw pli) (fun o9 w9 => (nwC no ob ork ow = 0) ∧ o9 = some (Value.int (fI (fW ob ork ow no))) ∧ w9 = wB a y cap clr (nI t) hom mov wm tb tf ts (nI nw) wf wt (nI nb) bw bl bi bb (nI no) od ow ol ork ob olf oco pn pb pm pcd pw pli) (fun E => (E = "java/util/NoSuchElementException" ∧ (nwC no ob ork ow = 1))) := by
  refine zX.of (by decide +kernel) (Nat.le_of_ble_eq_true rfl) ?_
  intro p e s m args below meth c A ls hx hb hr hta hown hlocks hml hex hN hK hP hD hS hA hl
  refine z_gen (fun G hG => ?_)
  have hl : lv_has ls 2 [(0, Value.ref (a 0))] := hl
  refine lv_aload_n hx hb dX5_nextWaiting_0 rfl (lv_at hl 0 rfl) ?_
  refine gB5_boats hx hb hta hown hK hP wd_2_5 dX5_nextWaiting_1 ?_
  refine z_callV (As := []) (rest := []) hx hb hml hown hta zm_X1_firstInLine wd_23_8 (c_X1_firstInLine l D y a cap clr t hom mov wm tb tf ts nw wf wt nb bw bl bi bb no od ow ol ork ob olf oco pn pb pm pcd pw pli (by omega)) hN hK hP hD hS hA 4 rfl rfl rfl hl rfl (Nat.le_of_ble_eq_true rfl) ⟨Nat.le_of_ble_eq_true rfl, Nat.le_of_ble_eq_true rfl⟩ ⟨Nat.le_of_ble_eq_true rfl, Nat.le_of_ble_eq_true rfl⟩ dX5_nextWaiting_4 (fun v w' H locs hq hP hD hS => ?_)
  obtain ⟨rfl, rfl⟩ := hq
  refine lv_istore_n (lv' := [(1, Value.int (fI (fW ob ork ow no))), (0, Value.ref (a 0))]) hx hb dX5_nextWaiting_7 rfl hl (by decide) rfl (fun ls hl => ?_)
  refine lv_aload_n hx hb dX5_nextWaiting_8 rfl (lv_at hl 1 rfl) ?_
  refine gB5_boats hx hb hta hown hK hP wd_2_5 dX5_nextWaiting_9 ?_
  refine lv_iload_n hx hb dX5_nextWaiting_12 rfl (lv_at hl 0 rfl) ?_
  refine z_callV (As := [Value.int (fI (fW ob ork ow no))]) (rest := []) hx hb hml hown hta zm_X1_has wd_13_13 (c_X1_has l D y a cap clr t hom mov wm tb tf ts nw wf wt nb bw bl bi bb no od ow ol ork ob olf oco pn pb pm pcd pw pli (fI (fW ob ork ow no)) (by omega)) hN hK hP hD hS hA 4 rfl rfl rfl hl rfl (Nat.le_of_ble_eq_true rfl) ⟨Nat.le_of_ble_eq_true rfl, Nat.le_of_ble_eq_true rfl⟩ ⟨Nat.le_of_ble_eq_true rfl, Nat.le_of_ble_eq_true rfl⟩ dX5_nextWaiting_13 (fun v w' H locs hq hP hD hS => ?_)
  obtain ⟨rfl, rfl⟩ := hq
  refine lv_if_ne (tgt := 29) hx hb dX5_nextWaiting_16 (by decide) (fun c16 => ?_) (fun c16 => ?_)
  · have c16 := bI_1 c16
    refine lv_iload_n hx hb dX5_nextWaiting_29 rfl (lv_at hl 0 rfl) ?_
    refine z_iretX hG hx hb hr hlocks hP hD hS (Nat.le_of_ble_eq_true rfl) (Nat.le_of_ble_eq_true rfl) dX5_nextWaiting_30 ?_
    refine ⟨?_, congrArg (fun z => some (Value.int z)) ?_, ?_⟩
    · rw [inB_fI (fW_le ..) (by omega)] at c16
      rw [nwC, if_neg (of_decide_eq_true c16)]
    · rfl
    · rfl
  · have c16 := bI_0 c16
    refine zt_NoSuchElementException_194 (ik := 149) (ic := 153) hlt hG hx hb hown hta hN hP hS hl hml hex hlocks rfl rfl (Nat.le_of_ble_eq_true rfl) (Nat.le_of_ble_eq_true rfl) (Nat.le_of_ble_eq_true rfl) (Nat.le_of_ble_eq_true rfl) (Nat.le_of_ble_eq_true rfl) (Nat.le_of_ble_eq_true rfl) dX5_nextWaiting_19 dX5_nextWaiting_22 dX5_nextWaiting_23 dX5_nextWaiting_25 dX5_nextWaiting_28 ?_
    rw [inB_fI (fW_le ..) (by omega)] at c16
    exact ⟨rfl, by rw [nwC, if_pos (by have := of_decide_eq_false c16; omega)]⟩
set_option maxHeartbeats 800000 in
set_option maxRecDepth 100000 in
theorem c_X5_state (l : Launch) (hlt : l.stackTraces = false) (D : va_G) (y : Nat → ClassId) (a : Nat → Nat) (cap clr : Int32) (t : Nat) (hom mov : Int32) (wm : Int64) (tb tf ts : Int32) (nw : Nat) (wf wt : Nat → Int32) (nb : Nat) (bw bl bi bb : Nat → Int32) (no : Nat) (od ow ol ork ob olf oco : Nat → Int32) (pn pb pm : Int32) (pcd pw pli : Nat → Int32) (b : Int32) (hb8 : no ≤ 8) : zX l D y yX5_state cX5_state 2 (some .char) 8 1 6 116 [Value.ref (a 0), Value.int b] (wB a y cap clr (nI t) hom mov wm tb tf ts (nI nw) wf wt (nI nb) bw bl bi bb (nI no) od ow ol ork ob olf oco pn pb pm pcd pw pli) (fun o9 w9 => (boC no b = 0) ∧ o9 = some (Value.int (stF ob (nN b))) ∧ w9 = wB a y cap clr (nI t) hom mov wm tb tf ts (nI nw) wf wt (nI nb) bw bl bi bb (nI no) od ow ol ork ob olf oco pn pb pm pcd pw pli) (fun E => (E = "java/lang/IndexOutOfBoundsException" ∧ (boC no b = 1))) := by
  refine zX.of (by decide +kernel) (Nat.le_of_ble_eq_true rfl) ?_
  intro p e s m args below meth c A ls hx hb hr hta hown hlocks hml hex hN hK hP hD hS hA hl
  refine z_gen (fun G hG => ?_)
  have hl : lv_has ls 2 [(0, Value.ref (a 0)), (1, Value.int b)] := hl
  refine lv_aload_n hx hb dX5_state_0 rfl (lv_at hl 0 rfl) ?_
  refine lv_iload_n hx hb dX5_state_1 rfl (lv_at hl 1 rfl) ?_
  refine z_xcallV (As := [Value.int b]) (rest := []) hx hb hml hown hta zm_X5_checkBoat wd_13_9 (c_X5_checkBoat l hlt D y a cap clr t hom mov wm tb tf ts nw wf wt nb bw bl bi bb no od ow ol ork ob olf oco pn pb pm pcd pw pli b (by omega)) hN hK hP hD hS hA 0 rfl rfl rfl hl rfl (Nat.le_of_ble_eq_true rfl) ⟨Nat.le_of_ble_eq_true rfl, Nat.le_of_ble_eq_true rfl⟩ ⟨Nat.le_of_ble_eq_true rfl, Nat.le_of_ble_eq_true rfl⟩ dX5_state_2 (fun E ce q9 H locs hE hP hS hc9 hv9 hcl9 => ?_) (fun v w' H locs hq hP hD hS => ?_)
  · refine z_out hG hex hlocks ?_ hP hS hc9 hv9 hcl9 (Nat.le_of_ble_eq_true rfl) (Nat.le_of_ble_eq_true rfl)
    obtain ⟨rfl, hE⟩ := hE
    exact ⟨rfl, by simp [boC, hE]⟩
  obtain ⟨hq1, rfl, rfl⟩ := hq
  obtain ⟨j, hj, rfl⟩ := (inB_iff (by omega)).mp hq1
  have ej : nN (nI j) = j := nI_clamp (by omega)
  refine lv_aload_n hx hb dX5_state_5 rfl (lv_at hl 0 rfl) ?_
  refine gB5_boats hx hb hta hown hK hP wd_2_5 dX5_state_6 ?_
  refine gB1_berth hx hb hta hown hK hP wd_16_2 dX5_state_9 ?_
  refine lv_iload_n hx hb dX5_state_12 rfl (lv_at hl 1 rfl) ?_
  refine aB_ob hx hb hK hP j rfl (by omega) dX5_state_13 ?_
  refine lv_iconst (v := (-1 : Int32)) hx hb dX5_state_14 (by decide) ?_
  refine lv_icmp_ne (tgt := 21) hx hb dX5_state_15 (by decide) (fun c15 => ?_) (fun c15 => ?_)
  · refine lv_aload_n hx hb dX5_state_21 rfl (lv_at hl 0 rfl) ?_
    refine gB5_boats hx hb hta hown hK hP wd_2_5 dX5_state_22 ?_
    refine gB1_berth hx hb hta hown hK hP wd_16_2 dX5_state_25 ?_
    refine lv_iload_n hx hb dX5_state_28 rfl (lv_at hl 1 rfl) ?_
    refine aB_ob hx hb hK hP j rfl (by omega) dX5_state_29 ?_
    refine lv_bipush (v := (-2 : Int32)) hx hb dX5_state_30 (by decide) ?_
    refine lv_icmp_ne (tgt := 40) hx hb dX5_state_32 (by decide) (fun c32 => ?_) (fun c32 => ?_)
    · refine lv_bipush (v := (98 : Int32)) hx hb dX5_state_40 (by decide) ?_
      refine z_zretX hG hx hb hr hlocks hP hD hS (Nat.le_of_ble_eq_true rfl) (Nat.le_of_ble_eq_true rfl) dX5_state_42 ?_ ?_
      · rfl
      · refine ⟨?_, congrArg (fun z => some (Value.int z)) ?_, ?_⟩
        · simp [boC, c15, c32, hq1, ej]
        · simp [stF, boC, c15, c32, hq1, ej]
        · rfl
    · refine lv_bipush (v := (97 : Int32)) hx hb dX5_state_35 (by decide) ?_
      refine lv_goto (tgt := 42) hx hb dX5_state_37 (by decide) ?_
      refine z_zretX hG hx hb hr hlocks hP hD hS (Nat.le_of_ble_eq_true rfl) (Nat.le_of_ble_eq_true rfl) dX5_state_42 ?_ ?_
      · rfl
      · refine ⟨?_, congrArg (fun z => some (Value.int z)) ?_, ?_⟩
        · simp [boC, c15, c32, hq1, ej]
        · simp [stF, boC, c15, c32, hq1, ej]
        · rfl
  · refine lv_bipush (v := (119 : Int32)) hx hb dX5_state_18 (by decide) ?_
    refine z_zretX hG hx hb hr hlocks hP hD hS (Nat.le_of_ble_eq_true rfl) (Nat.le_of_ble_eq_true rfl) dX5_state_20 ?_ ?_
    · rfl
    · refine ⟨?_, congrArg (fun z => some (Value.int z)) ?_, ?_⟩
      · simp [boC, c15, hq1, ej]
      · simp [stF, boC, c15, hq1, ej]
      · rfl
set_option maxHeartbeats 800000 in
set_option maxRecDepth 100000 in
theorem c_X5_berthOf (l : Launch) (hlt : l.stackTraces = false) (D : va_G) (y : Nat → ClassId) (a : Nat → Nat) (cap clr : Int32) (t : Nat) (hom mov : Int32) (wm : Int64) (tb tf ts : Int32) (nw : Nat) (wf wt : Nat → Int32) (nb : Nat) (bw bl bi bb : Nat → Int32) (no : Nat) (od ow ol ork ob olf oco : Nat → Int32) (pn pb pm : Int32) (pcd pw pli : Nat → Int32) (b : Int32) (hb8 : no ≤ 8) (hb6 : nb ≤ 6) : zX l D y yX5_berthOf cX5_berthOf 2 (some .int) 8 2 12 116 [Value.ref (a 0), Value.int b] (wB a y cap clr (nI t) hom mov wm tb tf ts (nI nw) wf wt (nI nb) bw bl bi bb (nI no) od ow ol ork ob olf oco pn pb pm pcd pw pli) (fun o9 w9 => (beC no nb ob b = 0) ∧ o9 = some (Value.int (ob (nN b))) ∧ w9 = wB a y cap clr (nI t) hom mov wm tb tf ts (nI nw) wf wt (nI nb) bw bl bi bb (nI no) od ow ol ork ob olf oco pn pb pm pcd pw pli) (fun E => (E = "java/lang/IndexOutOfBoundsException" ∧ (beC no nb ob b = 1)) ∨ (E = "java/util/NoSuchElementException" ∧ (beC no nb ob b = 2))) := by
  refine zX.of (by decide +kernel) (Nat.le_of_ble_eq_true rfl) ?_
  intro p e s m args below meth c A ls hx hb hr hta hown hlocks hml hex hN hK hP hD hS hA hl
  refine z_gen (fun G hG => ?_)
  have hl : lv_has ls 2 [(0, Value.ref (a 0)), (1, Value.int b)] := hl
  refine lv_aload_n hx hb dX5_berthOf_0 rfl (lv_at hl 0 rfl) ?_
  refine lv_iload_n hx hb dX5_berthOf_1 rfl (lv_at hl 1 rfl) ?_
  refine z_xcallV (As := [Value.int b]) (rest := []) hx hb hml hown hta zm_X5_checkBoat wd_13_9 (c_X5_checkBoat l hlt D y a cap clr t hom mov wm tb tf ts nw wf wt nb bw bl bi bb no od ow ol ork ob olf oco pn pb pm pcd pw pli b (by omega)) hN hK hP hD hS hA 0 rfl rfl rfl hl rfl (Nat.le_of_ble_eq_true rfl) ⟨Nat.le_of_ble_eq_true rfl, Nat.le_of_ble_eq_true rfl⟩ ⟨Nat.le_of_ble_eq_true rfl, Nat.le_of_ble_eq_true rfl⟩ dX5_berthOf_2 (fun E ce q9 H locs hE hP hS hc9 hv9 hcl9 => ?_) (fun v w' H locs hq hP hD hS => ?_)
  · refine z_out hG hex hlocks ?_ hP hS hc9 hv9 hcl9 (Nat.le_of_ble_eq_true rfl) (Nat.le_of_ble_eq_true rfl)
    obtain ⟨rfl, hE⟩ := hE
    exact Or.inl ⟨rfl, by simp [beC, hE]⟩
  obtain ⟨hq1, rfl, rfl⟩ := hq
  obtain ⟨j, hj, rfl⟩ := (inB_iff (by omega)).mp hq1
  have ej : nN (nI j) = j := nI_clamp (by omega)
  refine lv_aload_n hx hb dX5_berthOf_5 rfl (lv_at hl 0 rfl) ?_
  refine gB5_berths hx hb hta hown hK hP wd_2_1 dX5_berthOf_6 ?_
  refine lv_aload_n hx hb dX5_berthOf_9 rfl (lv_at hl 0 rfl) ?_
  refine gB5_boats hx hb hta hown hK hP wd_2_5 dX5_berthOf_10 ?_
  refine gB1_berth hx hb hta hown hK hP wd_16_2 dX5_berthOf_13 ?_
  refine lv_iload_n hx hb dX5_berthOf_16 rfl (lv_at hl 1 rfl) ?_
  refine aB_ob hx hb hK hP j rfl (by omega) dX5_berthOf_17 ?_
  refine z_callV (As := [Value.int (ob j)]) (rest := []) hx hb hml hown hta zm_X0_has wd_6_8 (c_X0_has l D y a cap clr t hom mov wm tb tf ts nw wf wt nb bw bl bi bb no od ow ol ork ob olf oco pn pb pm pcd pw pli (ob j) (by omega)) hN hK hP hD hS hA 3 rfl rfl rfl hl rfl (Nat.le_of_ble_eq_true rfl) ⟨Nat.le_of_ble_eq_true rfl, Nat.le_of_ble_eq_true rfl⟩ ⟨Nat.le_of_ble_eq_true rfl, Nat.le_of_ble_eq_true rfl⟩ dX5_berthOf_18 (fun v w' H locs hq hP hD hS => ?_)
  obtain ⟨rfl, rfl⟩ := hq
  refine lv_if_ne (tgt := 34) hx hb dX5_berthOf_21 (by decide) (fun c21 => ?_) (fun c21 => ?_)
  · have c21 := bI_1 c21
    refine lv_aload_n hx hb dX5_berthOf_34 rfl (lv_at hl 0 rfl) ?_
    refine gB5_boats hx hb hta hown hK hP wd_2_5 dX5_berthOf_35 ?_
    refine gB1_berth hx hb hta hown hK hP wd_16_2 dX5_berthOf_38 ?_
    refine lv_iload_n hx hb dX5_berthOf_41 rfl (lv_at hl 1 rfl) ?_
    refine aB_ob hx hb hK hP j rfl (by omega) dX5_berthOf_42 ?_
    refine z_iretX hG hx hb hr hlocks hP hD hS (Nat.le_of_ble_eq_true rfl) (Nat.le_of_ble_eq_true rfl) dX5_berthOf_43 ?_
    refine ⟨?_, congrArg (fun z => some (Value.int z)) ?_, ?_⟩
    · simp [beC, c21, hq1, ej]
    · rw [ej]
    · rfl
  · have c21 := bI_0 c21
    refine zt_NoSuchElementException_196 (ik := 149) (ic := 153) hlt hG hx hb hown hta hN hP hS hl hml hex hlocks rfl rfl (Nat.le_of_ble_eq_true rfl) (Nat.le_of_ble_eq_true rfl) (Nat.le_of_ble_eq_true rfl) (Nat.le_of_ble_eq_true rfl) (Nat.le_of_ble_eq_true rfl) (Nat.le_of_ble_eq_true rfl) dX5_berthOf_24 dX5_berthOf_27 dX5_berthOf_28 dX5_berthOf_30 dX5_berthOf_33 ?_
    exact Or.inr ⟨rfl, by simp [beC, c21, hq1, ej]⟩
set_option maxHeartbeats 800000 in
set_option maxRecDepth 100000 in
theorem c_X5_boatIn (l : Launch) (hlt : l.stackTraces = false) (D : va_G) (y : Nat → ClassId) (a : Nat → Nat) (cap clr : Int32) (t : Nat) (hom mov : Int32) (wm : Int64) (tb tf ts : Int32) (nw : Nat) (wf wt : Nat → Int32) (nb : Nat) (bw bl bi bb : Nat → Int32) (no : Nat) (od ow ol ork ob olf oco : Nat → Int32) (pn pb pm : Int32) (pcd pw pli : Nat → Int32) (b : Int32) (hb6 : nb ≤ 6) : zX l D y yX5_boatIn cX5_boatIn 2 (some .int) 8 2 12 116 [Value.ref (a 0), Value.int b] (wB a y cap clr (nI t) hom mov wm tb tf ts (nI nw) wf wt (nI nb) bw bl bi bb (nI no) od ow ol ork ob olf oco pn pb pm pcd pw pli) (fun o9 w9 => (bnC nb bb b = 0) ∧ o9 = some (Value.int (bb (nN b))) ∧ w9 = wB a y cap clr (nI t) hom mov wm tb tf ts (nI nw) wf wt (nI nb) bw bl bi bb (nI no) od ow ol ork ob olf oco pn pb pm pcd pw pli) (fun E => (E = "java/lang/IndexOutOfBoundsException" ∧ (bnC nb bb b = 1)) ∨ (E = "java/util/NoSuchElementException" ∧ (bnC nb bb b = 2))) := by
  refine zX.of (by decide +kernel) (Nat.le_of_ble_eq_true rfl) ?_
  intro p e s m args below meth c A ls hx hb hr hta hown hlocks hml hex hN hK hP hD hS hA hl
  refine z_gen (fun G hG => ?_)
  have hl : lv_has ls 2 [(0, Value.ref (a 0)), (1, Value.int b)] := hl
  refine lv_aload_n hx hb dX5_boatIn_0 rfl (lv_at hl 0 rfl) ?_
  refine lv_iload_n hx hb dX5_boatIn_1 rfl (lv_at hl 1 rfl) ?_
  refine z_xcallV (As := [Value.int b]) (rest := []) hx hb hml hown hta zm_X5_checkBerth wd_16_8 (c_X5_checkBerth l hlt D y a cap clr t hom mov wm tb tf ts nw wf wt nb bw bl bi bb no od ow ol ork ob olf oco pn pb pm pcd pw pli b (by omega)) hN hK hP hD hS hA 0 rfl rfl rfl hl rfl (Nat.le_of_ble_eq_true rfl) ⟨Nat.le_of_ble_eq_true rfl, Nat.le_of_ble_eq_true rfl⟩ ⟨Nat.le_of_ble_eq_true rfl, Nat.le_of_ble_eq_true rfl⟩ dX5_boatIn_2 (fun E ce q9 H locs hE hP hS hc9 hv9 hcl9 => ?_) (fun v w' H locs hq hP hD hS => ?_)
  · refine z_out hG hex hlocks ?_ hP hS hc9 hv9 hcl9 (Nat.le_of_ble_eq_true rfl) (Nat.le_of_ble_eq_true rfl)
    obtain ⟨rfl, hE⟩ := hE
    exact Or.inl ⟨rfl, by simp [bnC, hE]⟩
  obtain ⟨hq1, rfl, rfl⟩ := hq
  obtain ⟨j, hj, rfl⟩ := (inB_iff (by omega)).mp hq1
  have ej : nN (nI j) = j := nI_clamp (by omega)
  refine lv_aload_n hx hb dX5_boatIn_5 rfl (lv_at hl 0 rfl) ?_
  refine gB5_berths hx hb hta hown hK hP wd_2_1 dX5_boatIn_6 ?_
  refine gB0_boat hx hb hta hown hK hP wd_16_3 dX5_boatIn_9 ?_
  refine lv_iload_n hx hb dX5_boatIn_12 rfl (lv_at hl 1 rfl) ?_
  refine aB_bb hx hb hK hP j rfl (by omega) dX5_boatIn_13 ?_
  refine lv_iconst (v := (-1 : Int32)) hx hb dX5_boatIn_14 (by decide) ?_
  refine lv_icmp_ne (tgt := 28) hx hb dX5_boatIn_15 (by decide) (fun c15 => ?_) (fun c15 => ?_)
  · refine lv_aload_n hx hb dX5_boatIn_28 rfl (lv_at hl 0 rfl) ?_
    refine gB5_berths hx hb hta hown hK hP wd_2_1 dX5_boatIn_29 ?_
    refine gB0_boat hx hb hta hown hK hP wd_16_3 dX5_boatIn_32 ?_
    refine lv_iload_n hx hb dX5_boatIn_35 rfl (lv_at hl 1 rfl) ?_
    refine aB_bb hx hb hK hP j rfl (by omega) dX5_boatIn_36 ?_
    refine z_iretX hG hx hb hr hlocks hP hD hS (Nat.le_of_ble_eq_true rfl) (Nat.le_of_ble_eq_true rfl) dX5_boatIn_37 ?_
    refine ⟨?_, congrArg (fun z => some (Value.int z)) ?_, ?_⟩
    · simp [bnC, c15, hq1, ej]
    · rw [ej]
    · rfl
  · refine zt_NoSuchElementException_201 (ik := 149) (ic := 153) hlt hG hx hb hown hta hN hP hS hl hml hex hlocks rfl rfl (Nat.le_of_ble_eq_true rfl) (Nat.le_of_ble_eq_true rfl) (Nat.le_of_ble_eq_true rfl) (Nat.le_of_ble_eq_true rfl) (Nat.le_of_ble_eq_true rfl) (Nat.le_of_ble_eq_true rfl) dX5_boatIn_18 dX5_boatIn_21 dX5_boatIn_22 dX5_boatIn_24 dX5_boatIn_27 ?_
    exact Or.inr ⟨rfl, by simp [bnC, c15, hq1, ej]⟩
set_option maxHeartbeats 800000 in
set_option maxRecDepth 100000 in
theorem c_X5_paint (l : Launch) (hlt : l.stackTraces = false) (D : va_G) (y : Nat → ClassId) (a : Nat → Nat) (cap clr : Int32) (t : Nat) (hom mov : Int32) (wm : Int64) (tb tf ts : Int32) (nw : Nat) (wf wt : Nat → Int32) (nb : Nat) (bw bl bi bb : Nat → Int32) (no : Nat) (od ow ol ork ob olf oco : Nat → Int32) (pn pb pm : Int32) (pcd pw pli : Nat → Int32) (b : Int32) (h : Int32) (hb8 : no ≤ 8) (hb6 : nb ≤ 6) (hw : nw ≤ 6) : zX l D y yX5_paint cX5_paint 3 (some .int) 8 2 12 116 [Value.ref (a 0), Value.int b, Value.int h] (wB a y cap clr (nI t) hom mov wm tb tf ts (nI nw) wf wt (nI nb) bw bl bi bb (nI no) od ow ol ork ob olf oco pn pb pm pcd pw pli) (fun o9 w9 => (paC no nb (badF wf wt nw (nI t)) ob olf b h = 0) ∧ o9 = some (Value.int (oco (nN b) + (1 : Int32))) ∧ w9 = wB a y cap clr (nI t) hom mov wm tb tf ts (nI nw) wf wt (nI nb) bw bl bi bb (nI no) od ow ol ork ob (upd olf (nN b) h) (upd oco (nN b) (oco (nN b) + (1 : Int32))) pn pb pm pcd pw pli) (fun E => (E = "java/lang/IndexOutOfBoundsException" ∧ (paC no nb (badF wf wt nw (nI t)) ob olf b h = 1)) ∨ (E = "java/lang/IllegalArgumentException" ∧ (paC no nb (badF wf wt nw (nI t)) ob olf b h = 2)) ∨ (E = "java/lang/IllegalStateException" ∧ (paC no nb (badF wf wt nw (nI t)) ob olf b h = 3))) := by
  refine zX.of (by decide +kernel) (Nat.le_of_ble_eq_true rfl) ?_
  intro p e s m args below meth c A ls hx hb hr hta hown hlocks hml hex hN hK hP hD hS hA hl
  refine z_gen (fun G hG => ?_)
  have hl : lv_has ls 3 [(0, Value.ref (a 0)), (1, Value.int b), (2, Value.int h)] := hl
  refine lv_aload_n hx hb dX5_paint_0 rfl (lv_at hl 0 rfl) ?_
  refine lv_iload_n hx hb dX5_paint_1 rfl (lv_at hl 1 rfl) ?_
  refine z_xcallV (As := [Value.int b]) (rest := []) hx hb hml hown hta zm_X5_checkBoat wd_13_9 (c_X5_checkBoat l hlt D y a cap clr t hom mov wm tb tf ts nw wf wt nb bw bl bi bb no od ow ol ork ob olf oco pn pb pm pcd pw pli b (by omega)) hN hK hP hD hS hA 0 rfl rfl rfl hl rfl (Nat.le_of_ble_eq_true rfl) ⟨Nat.le_of_ble_eq_true rfl, Nat.le_of_ble_eq_true rfl⟩ ⟨Nat.le_of_ble_eq_true rfl, Nat.le_of_ble_eq_true rfl⟩ dX5_paint_2 (fun E ce q9 H locs hE hP hS hc9 hv9 hcl9 => ?_) (fun v w' H locs hq hP hD hS => ?_)
  · refine z_out hG hex hlocks ?_ hP hS hc9 hv9 hcl9 (Nat.le_of_ble_eq_true rfl) (Nat.le_of_ble_eq_true rfl)
    obtain ⟨rfl, hE⟩ := hE
    exact Or.inl ⟨rfl, by simp [paC, hE]⟩
  obtain ⟨hq1, rfl, rfl⟩ := hq
  obtain ⟨j, hj, rfl⟩ := (inB_iff (by omega)).mp hq1
  have ej : nN (nI j) = j := nI_clamp (by omega)
  refine lv_iload_n hx hb dX5_paint_5 rfl (lv_at hl 2 rfl) ?_
  refine lv_iconst (v := (4 : Int32)) hx hb dX5_paint_6 (by decide) ?_
  refine lv_bipush (v := (48 : Int32)) hx hb dX5_paint_7 (by decide) ?_
  refine z_callS (As := [Value.int h, Value.int (4 : Int32), Value.int (48 : Int32)]) (rest := []) hx hb hml hown hta zm_X5_outside wd_6_12 (c_X5_outside l D y a cap clr t hom mov wm tb tf ts nw wf wt nb bw bl bi bb no od ow ol ork ob olf oco pn pb pm pcd pw pli h (4 : Int32) (48 : Int32)) hN hK hP hD hS hA rfl hl rfl (Nat.le_of_ble_eq_true rfl) ⟨Nat.le_of_ble_eq_true rfl, Nat.le_of_ble_eq_true rfl⟩ ⟨Nat.le_of_ble_eq_true rfl, Nat.le_of_ble_eq_true rfl⟩ dX5_paint_9 (fun v w' H locs hq hP hD hS => ?_)
  obtain ⟨rfl, rfl⟩ := hq
  refine lv_if_eq (tgt := 25) hx hb dX5_paint_12 (by decide) (fun c12 => ?_) (fun c12 => ?_)
  · have c12 := bI_0 c12
    refine lv_aload_n hx hb dX5_paint_25 rfl (lv_at hl 0 rfl) ?_
    refine gB5_berths hx hb hta hown hK hP wd_2_1 dX5_paint_26 ?_
    refine lv_aload_n hx hb dX5_paint_29 rfl (lv_at hl 0 rfl) ?_
    refine gB5_boats hx hb hta hown hK hP wd_2_5 dX5_paint_30 ?_
    refine gB1_berth hx hb hta hown hK hP wd_16_2 dX5_paint_33 ?_
    refine lv_iload_n hx hb dX5_paint_36 rfl (lv_at hl 1 rfl) ?_
    refine aB_ob hx hb hK hP j rfl (by omega) dX5_paint_37 ?_
    refine z_callV (As := [Value.int (ob j)]) (rest := []) hx hb hml hown hta zm_X0_has wd_6_8 (c_X0_has l D y a cap clr t hom mov wm tb tf ts nw wf wt nb bw bl bi bb no od ow ol ork ob olf oco pn pb pm pcd pw pli (ob j) (by omega)) hN hK hP hD hS hA 3 rfl rfl rfl hl rfl (Nat.le_of_ble_eq_true rfl) ⟨Nat.le_of_ble_eq_true rfl, Nat.le_of_ble_eq_true rfl⟩ ⟨Nat.le_of_ble_eq_true rfl, Nat.le_of_ble_eq_true rfl⟩ dX5_paint_38 (fun v w' H locs hq hP hD hS => ?_)
    obtain ⟨rfl, rfl⟩ := hq
    refine lv_if_eq (tgt := 70) hx hb dX5_paint_41 (by decide) (fun c41 => ?_) (fun c41 => ?_)
    · have c41 := bI_0 c41
      refine zt_IllegalStateException_208 (ik := 87) (ic := 91) hlt hG hx hb hown hta hN hP hS hl hml hex hlocks rfl rfl (Nat.le_of_ble_eq_true rfl) (Nat.le_of_ble_eq_true rfl) (Nat.le_of_ble_eq_true rfl) (Nat.le_of_ble_eq_true rfl) (Nat.le_of_ble_eq_true rfl) (Nat.le_of_ble_eq_true rfl) dX5_paint_70 dX5_paint_73 dX5_paint_74 dX5_paint_76 dX5_paint_79 ?_
      exact Or.inr (Or.inr ⟨rfl, by simp [paC, c12, c41, hq1, ej]⟩)
    · have c41 := bI_1 c41
      refine lv_aload_n hx hb dX5_paint_44 rfl (lv_at hl 0 rfl) ?_
      refine gB5_boats hx hb hta hown hK hP wd_2_5 dX5_paint_45 ?_
      refine gB1_left hx hb hta hown hK hP wd_19_16 dX5_paint_48 ?_
      refine lv_iload_n hx hb dX5_paint_51 rfl (lv_at hl 1 rfl) ?_
      refine aB_olf hx hb hK hP j rfl (by omega) dX5_paint_52 ?_
      refine lv_if_gt (tgt := 70) hx hb dX5_paint_53 (by decide) (fun c53 => ?_) (fun c53 => ?_)
      · refine zt_IllegalStateException_208 (ik := 87) (ic := 91) hlt hG hx hb hown hta hN hP hS hl hml hex hlocks rfl rfl (Nat.le_of_ble_eq_true rfl) (Nat.le_of_ble_eq_true rfl) (Nat.le_of_ble_eq_true rfl) (Nat.le_of_ble_eq_true rfl) (Nat.le_of_ble_eq_true rfl) (Nat.le_of_ble_eq_true rfl) dX5_paint_70 dX5_paint_73 dX5_paint_74 dX5_paint_76 dX5_paint_79 ?_
        exact Or.inr (Or.inr ⟨rfl, by simp [paC, c12, c41, c53, hq1, ej]⟩)
      · refine lv_aload_n hx hb dX5_paint_56 rfl (lv_at hl 0 rfl) ?_
        refine gB5_weather hx hb hta hown hK hP wd_1_21 dX5_paint_57 ?_
        refine lv_aload_n hx hb dX5_paint_60 rfl (lv_at hl 0 rfl) ?_
        refine gB5_now hx hb hta hown hK hP wd_2_12 dX5_paint_61 ?_
        refine z_callV (As := [Value.int (nI t)]) (rest := []) hx hb hml hown hta zm_X4_badAt wd_12_10 (c_X4_badAt l D y a cap clr t hom mov wm tb tf ts nw wf wt nb bw bl bi bb no od ow ol ork ob olf oco pn pb pm pcd pw pli (nI t) (by omega)) hN hK hP hD hS hA 2 rfl rfl rfl hl rfl (Nat.le_of_ble_eq_true rfl) ⟨Nat.le_of_ble_eq_true rfl, Nat.le_of_ble_eq_true rfl⟩ ⟨Nat.le_of_ble_eq_true rfl, Nat.le_of_ble_eq_true rfl⟩ dX5_paint_64 (fun v w' H locs hq hP hD hS => ?_)
        obtain ⟨rfl, rfl⟩ := hq
        refine lv_if_eq (tgt := 80) hx hb dX5_paint_67 (by decide) (fun c67 => ?_) (fun c67 => ?_)
        · have c67 := bI_0 c67
          refine lv_aload_n hx hb dX5_paint_80 rfl (lv_at hl 0 rfl) ?_
          refine gB5_boats hx hb hta hown hK hP wd_2_5 dX5_paint_81 ?_
          refine gB1_left hx hb hta hown hK hP wd_19_16 dX5_paint_84 ?_
          refine lv_iload_n hx hb dX5_paint_87 rfl (lv_at hl 1 rfl) ?_
          refine lv_iload_n hx hb dX5_paint_88 rfl (lv_at hl 2 rfl) ?_
          refine sB_olf hx hb hK hP hD hS j rfl (by omega) dX5_paint_89 (fun H locs hP hD hS => ?_)
          refine lv_aload_n hx hb dX5_paint_90 rfl (lv_at hl 0 rfl) ?_
          refine gB5_boats hx hb hta hown hK hP wd_2_5 dX5_paint_91 ?_
          refine gB1_coats hx hb hta hown hK hP wd_25_13 dX5_paint_94 ?_
          refine lv_iload_n hx hb dX5_paint_97 rfl (lv_at hl 1 rfl) ?_
          refine lv_dup2_11 hx hb dX5_paint_98 rfl rfl ?_
          refine aB_oco hx hb hK hP j rfl (by omega) dX5_paint_99 ?_
          refine lv_iconst (v := (1 : Int32)) hx hb dX5_paint_100 (by decide) ?_
          refine lv_iadd hx hb dX5_paint_101 ?_
          refine sB_oco hx hb hK hP hD hS j rfl (by omega) dX5_paint_102 (fun H locs hP hD hS => ?_)
          refine lv_aload_n hx hb dX5_paint_103 rfl (lv_at hl 0 rfl) ?_
          refine gB5_boats hx hb hta hown hK hP wd_2_5 dX5_paint_104 ?_
          refine gB1_coats hx hb hta hown hK hP wd_25_13 dX5_paint_107 ?_
          refine lv_iload_n hx hb dX5_paint_110 rfl (lv_at hl 1 rfl) ?_
          refine aB_oco hx hb hK hP j rfl (by omega) dX5_paint_111 ?_
          refine z_iretX hG hx hb hr hlocks hP hD hS (Nat.le_of_ble_eq_true rfl) (Nat.le_of_ble_eq_true rfl) dX5_paint_112 ?_
          refine ⟨?_, congrArg (fun z => some (Value.int z)) ?_, ?_⟩
          · simp [paC, c12, c41, c53, c67, hq1, ej]
          · rw [ej]; simp [upd]
          · rw [ej]
        · have c67 := bI_1 c67
          refine zt_IllegalStateException_208 (ik := 87) (ic := 91) hlt hG hx hb hown hta hN hP hS hl hml hex hlocks rfl rfl (Nat.le_of_ble_eq_true rfl) (Nat.le_of_ble_eq_true rfl) (Nat.le_of_ble_eq_true rfl) (Nat.le_of_ble_eq_true rfl) (Nat.le_of_ble_eq_true rfl) (Nat.le_of_ble_eq_true rfl) dX5_paint_70 dX5_paint_73 dX5_paint_74 dX5_paint_76 dX5_paint_79 ?_
          exact Or.inr (Or.inr ⟨rfl, by simp [paC, c12, c41, c53, c67, hq1, ej]⟩)
  · have c12 := bI_1 c12
    refine zt_IllegalArgumentException_203 (ik := 79) (ic := 83) hlt hG hx hb hown hta hN hP hS hl hml hex hlocks rfl rfl (Nat.le_of_ble_eq_true rfl) (Nat.le_of_ble_eq_true rfl) (Nat.le_of_ble_eq_true rfl) (Nat.le_of_ble_eq_true rfl) (Nat.le_of_ble_eq_true rfl) (Nat.le_of_ble_eq_true rfl) dX5_paint_15 dX5_paint_18 dX5_paint_19 dX5_paint_21 dX5_paint_24 ?_
    exact Or.inr (Or.inl ⟨rfl, by simp [paC, c12, hq1, ej]⟩)
set_option maxHeartbeats 800000 in
set_option maxRecDepth 100000 in
theorem c_X5_dryLeft (l : Launch) (hlt : l.stackTraces = false) (D : va_G) (y : Nat → ClassId) (a : Nat → Nat) (cap clr : Int32) (t : Nat) (hom mov : Int32) (wm : Int64) (tb tf ts : Int32) (nw : Nat) (wf wt : Nat → Int32) (nb : Nat) (bw bl bi bb : Nat → Int32) (no : Nat) (od ow ol ork ob olf oco : Nat → Int32) (pn pb pm : Int32) (pcd pw pli : Nat → Int32) (b : Int32) (hb8 : no ≤ 8) : zX l D y yX5_dryLeft cX5_dryLeft 2 (some .int) 8 1 6 116 [Value.ref (a 0), Value.int b] (wB a y cap clr (nI t) hom mov wm tb tf ts (nI nw) wf wt (nI nb) bw bl bi bb (nI no) od ow ol ork ob olf oco pn pb pm pcd pw pli) (fun o9 w9 => (boC no b = 0) ∧ o9 = some (Value.int (olf (nN b))) ∧ w9 = wB a y cap clr (nI t) hom mov wm tb tf ts (nI nw) wf wt (nI nb) bw bl bi bb (nI no) od ow ol ork ob olf oco pn pb pm pcd pw pli) (fun E => (E = "java/lang/IndexOutOfBoundsException" ∧ (boC no b = 1))) := by
  refine zX.of (by decide +kernel) (Nat.le_of_ble_eq_true rfl) ?_
  intro p e s m args below meth c A ls hx hb hr hta hown hlocks hml hex hN hK hP hD hS hA hl
  refine z_gen (fun G hG => ?_)
  have hl : lv_has ls 2 [(0, Value.ref (a 0)), (1, Value.int b)] := hl
  refine lv_aload_n hx hb dX5_dryLeft_0 rfl (lv_at hl 0 rfl) ?_
  refine lv_iload_n hx hb dX5_dryLeft_1 rfl (lv_at hl 1 rfl) ?_
  refine z_xcallV (As := [Value.int b]) (rest := []) hx hb hml hown hta zm_X5_checkBoat wd_13_9 (c_X5_checkBoat l hlt D y a cap clr t hom mov wm tb tf ts nw wf wt nb bw bl bi bb no od ow ol ork ob olf oco pn pb pm pcd pw pli b (by omega)) hN hK hP hD hS hA 0 rfl rfl rfl hl rfl (Nat.le_of_ble_eq_true rfl) ⟨Nat.le_of_ble_eq_true rfl, Nat.le_of_ble_eq_true rfl⟩ ⟨Nat.le_of_ble_eq_true rfl, Nat.le_of_ble_eq_true rfl⟩ dX5_dryLeft_2 (fun E ce q9 H locs hE hP hS hc9 hv9 hcl9 => ?_) (fun v w' H locs hq hP hD hS => ?_)
  · refine z_out hG hex hlocks ?_ hP hS hc9 hv9 hcl9 (Nat.le_of_ble_eq_true rfl) (Nat.le_of_ble_eq_true rfl)
    obtain ⟨rfl, hE⟩ := hE
    exact ⟨rfl, by simp [boC, hE]⟩
  obtain ⟨hq1, rfl, rfl⟩ := hq
  obtain ⟨j, hj, rfl⟩ := (inB_iff (by omega)).mp hq1
  have ej : nN (nI j) = j := nI_clamp (by omega)
  refine lv_aload_n hx hb dX5_dryLeft_5 rfl (lv_at hl 0 rfl) ?_
  refine gB5_boats hx hb hta hown hK hP wd_2_5 dX5_dryLeft_6 ?_
  refine gB1_left hx hb hta hown hK hP wd_19_16 dX5_dryLeft_9 ?_
  refine lv_iload_n hx hb dX5_dryLeft_12 rfl (lv_at hl 1 rfl) ?_
  refine aB_olf hx hb hK hP j rfl (by omega) dX5_dryLeft_13 ?_
  refine z_iretX hG hx hb hr hlocks hP hD hS (Nat.le_of_ble_eq_true rfl) (Nat.le_of_ble_eq_true rfl) dX5_dryLeft_14 ?_
  refine ⟨?_, congrArg (fun z => some (Value.int z)) ?_, ?_⟩
  · simp [boC, hq1, ej]
  · rw [ej]
  · rfl
set_option maxHeartbeats 800000 in
set_option maxRecDepth 100000 in
theorem c_X5_pass (l : Launch) (hlt : l.stackTraces = false) (D : va_G) (y : Nat → ClassId) (a : Nat → Nat) (cap clr : Int32) (t : Nat) (hom mov : Int32) (wm : Int64) (tb tf ts : Int32) (nw : Nat) (wf wt : Nat → Int32) (nb : Nat) (bw bl bi bb : Nat → Int32) (no : Nat) (od ow ol ork ob olf oco : Nat → Int32) (pn pb pm : Int32) (pcd pw pli : Nat → Int32) (h : Int32) (hb8 : no ≤ 8) (hw : nw ≤ 6) (ht : t ≤ 9999) : zX l D y yX5_pass cX5_pass 3 (some .int) 7 1 6 95 [Value.ref (a 0), Value.int h] (wB a y cap clr (nI t) hom mov wm tb tf ts (nI nw) wf wt (nI nb) bw bl bi bb (nI no) od ow ol ork ob olf oco pn pb pm pcd pw pli) (fun o9 w9 => (psC t h = 0) ∧ o9 = some (Value.int (nI (t + nN h))) ∧ w9 = wB a y cap clr (nI (t + nN h)) hom mov wm tb tf ts (nI nw) wf wt (nI nb) bw bl bi bb (nI no) od ow ol ork ob (pdF wf wt nw no t olf (nN h)) oco pn pb pm pcd pw pli) (fun E => (E = "java/lang/IllegalArgumentException" ∧ (psC t h = 1))) := by
  refine zX.of (by decide +kernel) (Nat.le_of_ble_eq_true rfl) ?_
  intro p e s m args below meth c A ls hx hb hr hta hown hlocks hml hex hN hK hP hD hS hA hl
  refine z_gen (fun G hG => ?_)
  have hl : lv_has ls 3 [(0, Value.ref (a 0)), (1, Value.int h)] := hl
  refine lv_iload_n hx hb dX5_pass_0 rfl (lv_at hl 1 rfl) ?_
  refine lv_iconst (v := (1 : Int32)) hx hb dX5_pass_1 (by decide) ?_
  refine lv_sipush (v := (336 : Int32)) hx hb dX5_pass_2 (by decide) ?_
  refine z_callS (As := [Value.int h, Value.int (1 : Int32), Value.int (336 : Int32)]) (rest := []) hx hb hml hown hta zm_X5_outside wd_6_12 (c_X5_outside l D y a cap clr t hom mov wm tb tf ts nw wf wt nb bw bl bi bb no od ow ol ork ob olf oco pn pb pm pcd pw pli h (1 : Int32) (336 : Int32)) hN hK hP hD hS hA rfl hl rfl (Nat.le_of_ble_eq_true rfl) ⟨Nat.le_of_ble_eq_true rfl, Nat.le_of_ble_eq_true rfl⟩ ⟨Nat.le_of_ble_eq_true rfl, Nat.le_of_ble_eq_true rfl⟩ dX5_pass_5 (fun v w' H locs hq hP hD hS => ?_)
  obtain ⟨rfl, rfl⟩ := hq
  refine lv_if_ne (tgt := 23) hx hb dX5_pass_8 (by decide) (fun c8 => ?_) (fun c8 => ?_)
  · have c8 := bI_1 c8
    refine zt_IllegalArgumentException_203 (ik := 79) (ic := 83) hlt hG hx hb hown hta hN hP hS hl hml hex hlocks rfl rfl (Nat.le_of_ble_eq_true rfl) (Nat.le_of_ble_eq_true rfl) (Nat.le_of_ble_eq_true rfl) (Nat.le_of_ble_eq_true rfl) (Nat.le_of_ble_eq_true rfl) (Nat.le_of_ble_eq_true rfl) dX5_pass_23 dX5_pass_26 dX5_pass_27 dX5_pass_29 dX5_pass_32 ?_
    first
    | exact ⟨rfl, by rw [psC, c8]; rfl⟩
    | exact ⟨rfl, by rw [psC, if_pos c8, en9, if_neg (by omega)]⟩
  · have c8 := bI_0 c8
    obtain ⟨n9, hn1, hn2, rfl⟩ := outR_nat (lo := 1) (hi := 336) c8 (by decide) (by decide)
    have en9 : nN (nI n9) = n9 := nI_clamp (by omega)
    refine lv_aload_n hx hb dX5_pass_11 rfl (lv_at hl 0 rfl) ?_
    refine gB5_now hx hb hta hown hK hP wd_2_12 dX5_pass_12 ?_
    refine lv_iload_n hx hb dX5_pass_15 rfl (lv_at hl 1 rfl) ?_
    refine lv_iadd hx hb dX5_pass_16 ?_
    refine zr_top (y := nI (t + n9)) (nI_add t n9) ?_
    refine lv_sipush (v := (9999 : Int32)) hx hb dX5_pass_17 (by decide) ?_
    refine lv_icmp_le (tgt := 33) hx hb dX5_pass_20 (by decide) (fun c20 => ?_) (fun c20 => ?_)
    · have c20 : (t + n9) ≤ 9999 := (nI_leI (a := (t + n9)) (b := 9999) (by omega) (by omega)).mp c20
      refine lv_iconst (v := (0 : Int32)) hx hb dX5_pass_33 (by decide) ?_
      refine lv_istore_n (lv' := [(2, Value.int (0 : Int32)), (0, Value.ref (a 0)), (1, Value.int (nI n9))]) hx hb dX5_pass_34 rfl hl (by decide) rfl (fun ls hl => ?_)
      have LP35 : ∀ (n : Nat) (k : Nat), (k ≤ n9) → n9 - k < n → ∀ (H : Heap) (locs : List Loc) (ls : Array Slot), va_P D vwCl (wB a y cap clr (nI (t + k)) hom mov wm tb tf ts (nI nw) wf wt (nI nb) bw bl bi bb (nI no) od ow ol ork ob (pdF wf wt nw no t olf k) oco pn pb pm pcd pw pli) H → va_D A (wB a y cap clr (nI (t + k)) hom mov wm tb tf ts (nI nw) wf wt (nI nb) bw bl bi bb (nI no) od ow ol ork ob (pdF wf wt nw no t olf k) oco pn pb pm pcd pw pli) → va_S A s.heap H locs → lv_has ls 3 [(2, Value.int (nI k)), (0, Value.ref (a 0)), (1, Value.int (nI n9))] → W p l e ({ frames := 7, cells := 1, slots := 6, locals := 95 } : Room) s m args below meth c H locs 0 0 G (F0 m 35 ls []) := by
        intro n
        induction n with
        | zero => intro k hk hn; exact absurd hn (Nat.not_lt_zero _)
        | succ n ih35 =>
          intro k hk hn H locs ls hP hD hS hl
          refine lv_iload_n hx hb dX5_pass_35 rfl (lv_at hl 0 rfl) ?_
          refine lv_iload_n hx hb dX5_pass_36 rfl (lv_at hl 2 rfl) ?_
          refine lv_icmp_ge (tgt := 77) hx hb dX5_pass_37 (by decide) (fun c37 => ?_) (fun c37 => ?_)
          · have c37 : n9 ≤ k := (nI_leI (a := n9) (b := k) (by omega) (by omega)).mp c37
            refine lv_aload_n hx hb dX5_pass_77 rfl (lv_at hl 1 rfl) ?_
            refine gB5_now hx hb hta hown hK hP wd_2_12 dX5_pass_78 ?_
            refine z_iretX hG hx hb hr hlocks hP hD hS (Nat.le_of_ble_eq_true rfl) (Nat.le_of_ble_eq_true rfl) dX5_pass_81 ?_
            refine ⟨?_, congrArg (fun z => some (Value.int z)) ?_, ?_⟩
            · rw [psC, if_pos c8, en9, if_pos (by omega)]
            · rw [en9, show k = n9 by omega]
            · rw [en9, show k = n9 by omega]
          · have c37 : ¬ n9 ≤ k := fun z => c37 ((nI_leI (a := n9) (b := k) (by omega) (by omega)).mpr z)
            refine lv_aload_n hx hb dX5_pass_40 rfl (lv_at hl 1 rfl) ?_
            refine gB5_weather hx hb hta hown hK hP wd_1_21 dX5_pass_41 ?_
            refine lv_aload_n hx hb dX5_pass_44 rfl (lv_at hl 1 rfl) ?_
            refine gB5_now hx hb hta hown hK hP wd_2_12 dX5_pass_45 ?_
            refine z_callV (As := [Value.int (nI (t + k))]) (rest := []) hx hb hml hown hta zm_X4_badAt wd_12_10 (c_X4_badAt l D y a cap clr (t + k) hom mov wm tb tf ts nw wf wt nb bw bl bi bb no od ow ol ork ob (pdF wf wt nw no t olf k) oco pn pb pm pcd pw pli (nI (t + k)) (by omega)) hN hK hP hD hS hA 2 rfl rfl rfl hl rfl (Nat.le_of_ble_eq_true rfl) ⟨Nat.le_of_ble_eq_true rfl, Nat.le_of_ble_eq_true rfl⟩ ⟨Nat.le_of_ble_eq_true rfl, Nat.le_of_ble_eq_true rfl⟩ dX5_pass_48 (fun v w' H locs hq hP hD hS => ?_)
            obtain ⟨rfl, rfl⟩ := hq
            refine lv_if_ne (tgt := 61) hx hb dX5_pass_51 (by decide) (fun c51 => ?_) (fun c51 => ?_)
            · have c51 := bI_1 c51
              refine lv_aload_n hx hb dX5_pass_61 rfl (lv_at hl 1 rfl) ?_
              refine lv_dup hx hb dX5_pass_62 rfl ?_
              refine gB5_now hx hb hta hown hK hP wd_2_12 dX5_pass_63 ?_
              refine lv_iconst (v := (1 : Int32)) hx hb dX5_pass_66 (by decide) ?_
              refine lv_iadd hx hb dX5_pass_67 ?_
              refine zr_top (y := nI ((t + k) + 1)) (nI_add (t + k) 1) ?_
              refine pB5_now hx hb hta hown hK hP hD hS wd_2_12 dX5_pass_68 (fun H locs hP hD hS => ?_)
              refine lv_iinc (v := nI (k + 1)) (lv' := [(2, Value.int (nI (k + 1))), (0, Value.ref (a 0)), (1, Value.int (nI n9))]) hx hb dX5_pass_71 hl (k := 0) rfl (nI_add k 1) (by decide) rfl (fun ls hl => ?_)
              refine lv_goto (tgt := 35) hx hb dX5_pass_74 (by decide) ?_
              have hl := lv_sub hl [0, 1, 2] rfl
              have ew3_olf : pdF wf wt nw no t olf k = pdF wf wt nw no t olf (k + 1) := by
                first
                | with_reducible rfl
                | rw [pdF, if_pos c51]
                | rw [pdF, c51, if_neg Bool.false_ne_true]
              have ew3_olf := congrArg (fun z => wB a y cap clr (nI ((t + k) + 1)) hom mov wm tb tf ts (nI nw) wf wt (nI nb) bw bl bi bb (nI no) od ow ol ork ob z oco pn pb pm pcd pw pli) ew3_olf
              have hP : va_P D vwCl (wB a y cap clr (nI ((t + k) + 1)) hom mov wm tb tf ts (nI nw) wf wt (nI nb) bw bl bi bb (nI no) od ow ol ork ob (pdF wf wt nw no t olf (k + 1)) oco pn pb pm pcd pw pli) _ := zw_P ew3_olf hP
              have hD : va_D A (wB a y cap clr (nI ((t + k) + 1)) hom mov wm tb tf ts (nI nw) wf wt (nI nb) bw bl bi bb (nI no) od ow ol ork ob (pdF wf wt nw no t olf (k + 1)) oco pn pb pm pcd pw pli) := zw_D ew3_olf hD
              have ew4_now : nI ((t + k) + 1) = nI (t + (k + 1)) := by
                rfl
              have ew4_now := congrArg (fun z => wB a y cap clr z hom mov wm tb tf ts (nI nw) wf wt (nI nb) bw bl bi bb (nI no) od ow ol ork ob (pdF wf wt nw no t olf (k + 1)) oco pn pb pm pcd pw pli) ew4_now
              have hP : va_P D vwCl (wB a y cap clr (nI (t + (k + 1))) hom mov wm tb tf ts (nI nw) wf wt (nI nb) bw bl bi bb (nI no) od ow ol ork ob (pdF wf wt nw no t olf (k + 1)) oco pn pb pm pcd pw pli) _ := zw_P ew4_now hP
              have hD : va_D A (wB a y cap clr (nI (t + (k + 1))) hom mov wm tb tf ts (nI nw) wf wt (nI nb) bw bl bi bb (nI no) od ow ol ork ob (pdF wf wt nw no t olf (k + 1)) oco pn pb pm pcd pw pli) := zw_D ew4_now hD
              exact ih35 (k + 1) (by omega) (by omega) _ _ _ hP hD hS hl
            · have c51 := bI_0 c51
              refine lv_aload_n hx hb dX5_pass_54 rfl (lv_at hl 1 rfl) ?_
              refine gB5_boats hx hb hta hown hK hP wd_2_5 dX5_pass_55 ?_
              refine z_callV (As := []) (rest := []) hx hb hml hown hta zm_X1_dryOneHour wd_28_11 (c_X1_dryOneHour l D y a cap clr (t + k) hom mov wm tb tf ts nw wf wt nb bw bl bi bb no od ow ol ork ob (pdF wf wt nw no t olf k) oco pn pb pm pcd pw pli (by omega)) hN hK hP hD hS hA 4 rfl rfl rfl hl rfl (Nat.le_of_ble_eq_true rfl) ⟨Nat.le_of_ble_eq_true rfl, Nat.le_of_ble_eq_true rfl⟩ ⟨Nat.le_of_ble_eq_true rfl, Nat.le_of_ble_eq_true rfl⟩ dX5_pass_58 (fun v w' H locs hq hP hD hS => ?_)
              obtain ⟨rfl, rfl⟩ := hq
              refine lv_aload_n hx hb dX5_pass_61 rfl (lv_at hl 1 rfl) ?_
              refine lv_dup hx hb dX5_pass_62 rfl ?_
              refine gB5_now hx hb hta hown hK hP wd_2_12 dX5_pass_63 ?_
              refine lv_iconst (v := (1 : Int32)) hx hb dX5_pass_66 (by decide) ?_
              refine lv_iadd hx hb dX5_pass_67 ?_
              refine zr_top (y := nI ((t + k) + 1)) (nI_add (t + k) 1) ?_
              refine pB5_now hx hb hta hown hK hP hD hS wd_2_12 dX5_pass_68 (fun H locs hP hD hS => ?_)
              refine lv_iinc (v := nI (k + 1)) (lv' := [(2, Value.int (nI (k + 1))), (0, Value.ref (a 0)), (1, Value.int (nI n9))]) hx hb dX5_pass_71 hl (k := 0) rfl (nI_add k 1) (by decide) rfl (fun ls hl => ?_)
              refine lv_goto (tgt := 35) hx hb dX5_pass_74 (by decide) ?_
              have hl := lv_sub hl [0, 1, 2] rfl
              have ew6_olf : dry1 (pdF wf wt nw no t olf k) no = pdF wf wt nw no t olf (k + 1) := by
                first
                | with_reducible rfl
                | rw [pdF, if_pos c51]
                | rw [pdF, c51, if_neg Bool.false_ne_true]
              have ew6_olf := congrArg (fun z => wB a y cap clr (nI ((t + k) + 1)) hom mov wm tb tf ts (nI nw) wf wt (nI nb) bw bl bi bb (nI no) od ow ol ork ob z oco pn pb pm pcd pw pli) ew6_olf
              have hP : va_P D vwCl (wB a y cap clr (nI ((t + k) + 1)) hom mov wm tb tf ts (nI nw) wf wt (nI nb) bw bl bi bb (nI no) od ow ol ork ob (pdF wf wt nw no t olf (k + 1)) oco pn pb pm pcd pw pli) _ := zw_P ew6_olf hP
              have hD : va_D A (wB a y cap clr (nI ((t + k) + 1)) hom mov wm tb tf ts (nI nw) wf wt (nI nb) bw bl bi bb (nI no) od ow ol ork ob (pdF wf wt nw no t olf (k + 1)) oco pn pb pm pcd pw pli) := zw_D ew6_olf hD
              have ew7_now : nI ((t + k) + 1) = nI (t + (k + 1)) := by
                rfl
              have ew7_now := congrArg (fun z => wB a y cap clr z hom mov wm tb tf ts (nI nw) wf wt (nI nb) bw bl bi bb (nI no) od ow ol ork ob (pdF wf wt nw no t olf (k + 1)) oco pn pb pm pcd pw pli) ew7_now
              have hP : va_P D vwCl (wB a y cap clr (nI (t + (k + 1))) hom mov wm tb tf ts (nI nw) wf wt (nI nb) bw bl bi bb (nI no) od ow ol ork ob (pdF wf wt nw no t olf (k + 1)) oco pn pb pm pcd pw pli) _ := zw_P ew7_now hP
              have hD : va_D A (wB a y cap clr (nI (t + (k + 1))) hom mov wm tb tf ts (nI nw) wf wt (nI nb) bw bl bi bb (nI no) od ow ol ork ob (pdF wf wt nw no t olf (k + 1)) oco pn pb pm pcd pw pli) := zw_D ew7_now hD
              exact ih35 (k + 1) (by omega) (by omega) _ _ _ hP hD hS hl
      have eq8_0 : (0 : Int32) = nI 0 := by
        rfl
      have hl := lv_sub hl [0, 1, 2] rfl
      have hl : lv_has ls 3 [(2, Value.int (0 : Int32)), (0, Value.ref (a 0)), (1, Value.int (nI n9))] := hl
      have hl : lv_has ls 3 [(2, Value.int (nI 0)), (0, Value.ref (a 0)), (1, Value.int (nI n9))] := lv_as hl (congrArg (fun z => [(2, Value.int z), (0, Value.ref (a 0)), (1, Value.int (nI n9))]) eq8_0)
      have ew9_olf : olf = pdF wf wt nw no t olf 0 := by
        rfl
      have ew9_olf := congrArg (fun z => wB a y cap clr (nI t) hom mov wm tb tf ts (nI nw) wf wt (nI nb) bw bl bi bb (nI no) od ow ol ork ob z oco pn pb pm pcd pw pli) ew9_olf
      have hP : va_P D vwCl (wB a y cap clr (nI t) hom mov wm tb tf ts (nI nw) wf wt (nI nb) bw bl bi bb (nI no) od ow ol ork ob (pdF wf wt nw no t olf 0) oco pn pb pm pcd pw pli) _ := zw_P ew9_olf hP
      have hD : va_D A (wB a y cap clr (nI t) hom mov wm tb tf ts (nI nw) wf wt (nI nb) bw bl bi bb (nI no) od ow ol ork ob (pdF wf wt nw no t olf 0) oco pn pb pm pcd pw pli) := zw_D ew9_olf hD
      have ew10_now : nI t = nI (t + 0) := by
        rfl
      have ew10_now := congrArg (fun z => wB a y cap clr z hom mov wm tb tf ts (nI nw) wf wt (nI nb) bw bl bi bb (nI no) od ow ol ork ob (pdF wf wt nw no t olf 0) oco pn pb pm pcd pw pli) ew10_now
      have hP : va_P D vwCl (wB a y cap clr (nI (t + 0)) hom mov wm tb tf ts (nI nw) wf wt (nI nb) bw bl bi bb (nI no) od ow ol ork ob (pdF wf wt nw no t olf 0) oco pn pb pm pcd pw pli) _ := zw_P ew10_now hP
      have hD : va_D A (wB a y cap clr (nI (t + 0)) hom mov wm tb tf ts (nI nw) wf wt (nI nb) bw bl bi bb (nI no) od ow ol ork ob (pdF wf wt nw no t olf 0) oco pn pb pm pcd pw pli) := zw_D ew10_now hD
      exact LP35 (n9 - 0 + 1) 0 (by omega) (Nat.lt_succ_self _) _ _ _ hP hD hS hl
    · have c20 : ¬ (t + n9) ≤ 9999 := fun z => c20 ((nI_leI (a := (t + n9)) (b := 9999) (by omega) (by omega)).mpr z)
      refine zt_IllegalArgumentException_203 (ik := 79) (ic := 83) hlt hG hx hb hown hta hN hP hS hl hml hex hlocks rfl rfl (Nat.le_of_ble_eq_true rfl) (Nat.le_of_ble_eq_true rfl) (Nat.le_of_ble_eq_true rfl) (Nat.le_of_ble_eq_true rfl) (Nat.le_of_ble_eq_true rfl) (Nat.le_of_ble_eq_true rfl) dX5_pass_23 dX5_pass_26 dX5_pass_27 dX5_pass_29 dX5_pass_32 ?_
      first
      | exact ⟨rfl, by rw [psC, c8]; rfl⟩
      | exact ⟨rfl, by rw [psC, if_pos c8, en9, if_neg (by omega)]⟩
set_option maxHeartbeats 800000 in
set_option maxRecDepth 100000 in
theorem c_X5_time (l : Launch) (D : va_G) (y : Nat → ClassId) (a : Nat → Nat) (cap clr : Int32) (t : Nat) (hom mov : Int32) (wm : Int64) (tb tf ts : Int32) (nw : Nat) (wf wt : Nat → Int32) (nb : Nat) (bw bl bi bb : Nat → Int32) (no : Nat) (od ow ol ork ob olf oco : Nat → Int32) (pn pb pm : Int32) (pcd pw pli : Nat → Int32)   : zP l D y yX5_time cX5_time 1 (some .int) 0 0 0 0 [Value.ref (a 0)] (wB a y cap clr (nI t) hom mov wm tb tf ts (nI nw) wf wt (nI nb) bw bl bi bb (nI no) od ow ol ork ob olf oco pn pb pm pcd pw pli) (fun o9 w9 => o9 = some (Value.int (nI t)) ∧ w9 = wB a y cap clr (nI t) hom mov wm tb tf ts (nI nw) wf wt (nI nb) bw bl bi bb (nI no) od ow ol ork ob olf oco pn pb pm pcd pw pli) := by
  refine zP.of (by decide +kernel) (Nat.le_of_ble_eq_true rfl) ?_
  intro p e s m args below meth c A ls hx hb hr hta hown hlocks hml hin hN hK hP hD hS hA hl
  refine z_gen (fun G hG => ?_)
  have hl : lv_has ls 1 [(0, Value.ref (a 0))] := hl
  refine lv_aload_n hx hb dX5_time_0 rfl (lv_at hl 0 rfl) ?_
  refine gB5_now hx hb hta hown hK hP wd_2_12 dX5_time_1 ?_
  refine z_iret hG hx hb hr hlocks hP hD hS (Nat.le_of_ble_eq_true rfl) (Nat.le_of_ble_eq_true rfl) dX5_time_4 ?_
  refine zqi ?_
  rfl
set_option maxHeartbeats 800000 in
set_option maxRecDepth 100000 in
theorem c_X5_movedWeight (l : Launch) (D : va_G) (y : Nat → ClassId) (a : Nat → Nat) (cap clr : Int32) (t : Nat) (hom mov : Int32) (wm : Int64) (tb tf ts : Int32) (nw : Nat) (wf wt : Nat → Int32) (nb : Nat) (bw bl bi bb : Nat → Int32) (no : Nat) (od ow ol ork ob olf oco : Nat → Int32) (pn pb pm : Int32) (pcd pw pli : Nat → Int32)   : zP l D y yX5_movedWeight cX5_movedWeight 1 (some .long) 0 0 0 0 [Value.ref (a 0)] (wB a y cap clr (nI t) hom mov wm tb tf ts (nI nw) wf wt (nI nb) bw bl bi bb (nI no) od ow ol ork ob olf oco pn pb pm pcd pw pli) (fun o9 w9 => o9 = some (Value.long wm) ∧ w9 = wB a y cap clr (nI t) hom mov wm tb tf ts (nI nw) wf wt (nI nb) bw bl bi bb (nI no) od ow ol ork ob olf oco pn pb pm pcd pw pli) := by
  refine zP.of (by decide +kernel) (Nat.le_of_ble_eq_true rfl) ?_
  intro p e s m args below meth c A ls hx hb hr hta hown hlocks hml hin hN hK hP hD hS hA hl
  refine z_gen (fun G hG => ?_)
  have hl : lv_has ls 1 [(0, Value.ref (a 0))] := hl
  refine lv_aload_n hx hb dX5_movedWeight_0 rfl (lv_at hl 0 rfl) ?_
  refine gB5_weightMoved hx hb hta hown hK hP wd_2_15 dX5_movedWeight_1 ?_
  refine z_lret hG hx hb hr hlocks hP hD hS (Nat.le_of_ble_eq_true rfl) (Nat.le_of_ble_eq_true rfl) dX5_movedWeight_4 ?_
  refine zql ?_
  rfl
