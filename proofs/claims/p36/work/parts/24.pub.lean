set_option maxHeartbeats 800000 in
set_option maxRecDepth 100000 in
theorem c_X5_state (l : Launch) (hlt : l.stackTraces = false) (D : va_G) (y : Nat → ClassId) (a : Nat → Nat) (cap clr : Int32) (t : Nat) (hom mov : Int32) (wm : Int64) (tb tf ts : Int32) (nw : Nat) (wf wt : Nat → Int32) (nb : Nat) (bw bl bi bb : Nat → Int32) (no : Nat) (od ow ol ork ob olf oco : Nat → Int32) (pn pb pm : Int32) (pcd pw pli : Nat → Int32) (b : Int32) (hb8 : no ≤ 8) : zX l D y yX5_state cX5_state 2 (some .char) 8 1 6 116 [Value.ref (a 0), Value.int b] (wB a y cap clr (nI t) hom mov wm tb tf ts (nI nw) wf wt (nI nb) bw bl bi bb (nI no) od ow ol ork ob olf oco pn pb pm pcd pw pli) (fun o9 w9 => (boC no b = 0) ∧ o9 = some (Value.int (stF ob (nN b))) ∧ w9 = wB a y cap clr (nI t) hom mov wm tb tf ts (nI nw) wf wt (nI nb) bw bl bi bb (nI no) od ow ol ork ob olf oco pn pb pm pcd pw pli) (fun E => (E = "java/lang/IndexOutOfBoundsException" ∧ (boC no b = 1))) := by
  refine zX.of (by decide +kernel) (Nat.le_of_ble_eq_true rfl) ?_
  intro p e s m args below meth c A ls hx hb hr hta hown hlocks hml hex hN hK hP hD hS hA hl
  refine z_gen (fun G hG => ?_)
  have hl : lv_has ls 2 [(0, Value.ref (a 0)), (1, Value.int b)] := hl
  refine lv_aload_n hx hb dX5_state_0 rfl (lv_at hl 0 rfl) ?_
  refine lv_iload_n hx hb dX5_state_1 rfl (lv_at hl 1 rfl) ?_
  refine z_xcallV (As := [Value.int b]) (rest := []) hx hb hml hown hta zm_X5_checkBoat wd_8_10 (c_X5_checkBoat l hlt D y a cap clr t hom mov wm tb tf ts nw wf wt nb bw bl bi bb no od ow ol ork ob olf oco pn pb pm pcd pw pli b (by omega)) hN hK hP hD hS hA 0 rfl rfl rfl hl rfl (Nat.le_of_ble_eq_true rfl) ⟨Nat.le_of_ble_eq_true rfl, Nat.le_of_ble_eq_true rfl⟩ ⟨Nat.le_of_ble_eq_true rfl, Nat.le_of_ble_eq_true rfl⟩ dX5_state_2 (fun E ce q9 H locs hE hP hS hc9 hv9 hcl9 => ?_) (fun v w' H locs hq hP hD hS => ?_)
  · refine z_out hG hex hlocks ?_ hP hS hc9 hv9 hcl9 (Nat.le_of_ble_eq_true rfl) (Nat.le_of_ble_eq_true rfl)
    obtain ⟨rfl, hE⟩ := hE
    exact ⟨rfl, by simp [boC, hE]⟩
  obtain ⟨hq1, rfl, rfl⟩ := hq
  obtain ⟨j, hj, rfl⟩ := (inB_iff (by omega)).mp hq1
  have ej : nN (nI j) = j := nI_clamp (by omega)
  refine lv_aload_n hx hb dX5_state_5 rfl (lv_at hl 0 rfl) ?_
  refine gB5_boats hx hb hta hown hK hP wd_2_0 dX5_state_6 ?_
  refine gB1_berth hx hb hta hown hK hP wd_9_2 dX5_state_9 ?_
  refine lv_iload_n hx hb dX5_state_12 rfl (lv_at hl 1 rfl) ?_
  refine aB_ob hx hb hK hP j rfl (by omega) dX5_state_13 ?_
  refine lv_iconst (v := (-1 : Int32)) hx hb dX5_state_14 (by decide) ?_
  refine lv_icmp_ne (tgt := 21) hx hb dX5_state_15 (by decide) (fun c15 => ?_) (fun c15 => ?_)
  · refine lv_aload_n hx hb dX5_state_21 rfl (lv_at hl 0 rfl) ?_
    refine gB5_boats hx hb hta hown hK hP wd_2_0 dX5_state_22 ?_
    refine gB1_berth hx hb hta hown hK hP wd_9_2 dX5_state_25 ?_
    refine lv_iload_n hx hb dX5_state_28 rfl (lv_at hl 1 rfl) ?_
    refine aB_ob hx hb hK hP j rfl (by omega) dX5_state_29 ?_
    refine lv_bipush (v := (-2 : Int32)) hx hb dX5_state_30 (by decide) ?_
    refine lv_icmp_ne (tgt := 40) hx hb dX5_state_32 (by decide) (fun c32 => ?_) (fun c32 => ?_)
    · refine lv_bipush (v := (98 : Int32)) hx hb dX5_state_40 (by decide) ?_
      refine z_zretX hG hx hb hr hlocks hP hD hS (Nat.le_of_ble_eq_true rfl) (Nat.le_of_ble_eq_true rfl) dX5_state_42 ?_ ?_
      · rfl
      · refine ⟨?_, congrArg (fun z => some (Value.int z)) ?_, ?_⟩
        · simp [boC, c15, c32, hq1, ej]
        · simp [stF, boC, c15, c32, hq1, ej]
        · rfl
    · refine lv_bipush (v := (97 : Int32)) hx hb dX5_state_35 (by decide) ?_
      refine lv_goto (tgt := 42) hx hb dX5_state_37 (by decide) ?_
      refine z_zretX hG hx hb hr hlocks hP hD hS (Nat.le_of_ble_eq_true rfl) (Nat.le_of_ble_eq_true rfl) dX5_state_42 ?_ ?_
      · rfl
      · refine ⟨?_, congrArg (fun z => some (Value.int z)) ?_, ?_⟩
        · simp [boC, c15, c32, hq1, ej]
        · simp [stF, boC, c15, c32, hq1, ej]
        · rfl
  · refine lv_bipush (v := (119 : Int32)) hx hb dX5_state_18 (by decide) ?_
    refine z_zretX hG hx hb hr hlocks hP hD hS (Nat.le_of_ble_eq_true rfl) (Nat.le_of_ble_eq_true rfl) dX5_state_20 ?_ ?_
    · rfl
    · refine ⟨?_, congrArg (fun z => some (Value.int z)) ?_, ?_⟩
      · simp [boC, c15, hq1, ej]
      · simp [stF, boC, c15, hq1, ej]
      · rfl
set_option maxHeartbeats 800000 in
set_option maxRecDepth 100000 in
theorem c_X5_berthOf (l : Launch) (hlt : l.stackTraces = false) (D : va_G) (y : Nat → ClassId) (a : Nat → Nat) (cap clr : Int32) (t : Nat) (hom mov : Int32) (wm : Int64) (tb tf ts : Int32) (nw : Nat) (wf wt : Nat → Int32) (nb : Nat) (bw bl bi bb : Nat → Int32) (no : Nat) (od ow ol ork ob olf oco : Nat → Int32) (pn pb pm : Int32) (pcd pw pli : Nat → Int32) (b : Int32) (hb8 : no ≤ 8) (hb6 : nb ≤ 6) : zX l D y yX5_berthOf cX5_berthOf 2 (some .int) 8 2 12 116 [Value.ref (a 0), Value.int b] (wB a y cap clr (nI t) hom mov wm tb tf ts (nI nw) wf wt (nI nb) bw bl bi bb (nI no) od ow ol ork ob olf oco pn pb pm pcd pw pli) (fun o9 w9 => (beC no nb ob b = 0) ∧ o9 = some (Value.int (ob (nN b))) ∧ w9 = wB a y cap clr (nI t) hom mov wm tb tf ts (nI nw) wf wt (nI nb) bw bl bi bb (nI no) od ow ol ork ob olf oco pn pb pm pcd pw pli) (fun E => (E = "java/lang/IndexOutOfBoundsException" ∧ (beC no nb ob b = 1)) ∨ (E = "java/util/NoSuchElementException" ∧ (beC no nb ob b = 2))) := by
  refine zX.of (by decide +kernel) (Nat.le_of_ble_eq_true rfl) ?_
  intro p e s m args below meth c A ls hx hb hr hta hown hlocks hml hex hN hK hP hD hS hA hl
  refine z_gen (fun G hG => ?_)
  have hl : lv_has ls 2 [(0, Value.ref (a 0)), (1, Value.int b)] := hl
  refine lv_aload_n hx hb dX5_berthOf_0 rfl (lv_at hl 0 rfl) ?_
  refine lv_iload_n hx hb dX5_berthOf_1 rfl (lv_at hl 1 rfl) ?_
  refine z_xcallV (As := [Value.int b]) (rest := []) hx hb hml hown hta zm_X5_checkBoat wd_8_10 (c_X5_checkBoat l hlt D y a cap clr t hom mov wm tb tf ts nw wf wt nb bw bl bi bb no od ow ol ork ob olf oco pn pb pm pcd pw pli b (by omega)) hN hK hP hD hS hA 0 rfl rfl rfl hl rfl (Nat.le_of_ble_eq_true rfl) ⟨Nat.le_of_ble_eq_true rfl, Nat.le_of_ble_eq_true rfl⟩ ⟨Nat.le_of_ble_eq_true rfl, Nat.le_of_ble_eq_true rfl⟩ dX5_berthOf_2 (fun E ce q9 H locs hE hP hS hc9 hv9 hcl9 => ?_) (fun v w' H locs hq hP hD hS => ?_)
  · refine z_out hG hex hlocks ?_ hP hS hc9 hv9 hcl9 (Nat.le_of_ble_eq_true rfl) (Nat.le_of_ble_eq_true rfl)
    obtain ⟨rfl, hE⟩ := hE
    exact Or.inl ⟨rfl, by simp [beC, hE]⟩
  obtain ⟨hq1, rfl, rfl⟩ := hq
  obtain ⟨j, hj, rfl⟩ := (inB_iff (by omega)).mp hq1
  have ej : nN (nI j) = j := nI_clamp (by omega)
  refine lv_aload_n hx hb dX5_berthOf_5 rfl (lv_at hl 0 rfl) ?_
  refine gB5_berths hx hb hta hown hK hP wd_1_20 dX5_berthOf_6 ?_
  refine lv_aload_n hx hb dX5_berthOf_9 rfl (lv_at hl 0 rfl) ?_
  refine gB5_boats hx hb hta hown hK hP wd_2_0 dX5_berthOf_10 ?_
  refine gB1_berth hx hb hta hown hK hP wd_9_2 dX5_berthOf_13 ?_
  refine lv_iload_n hx hb dX5_berthOf_16 rfl (lv_at hl 1 rfl) ?_
  refine aB_ob hx hb hK hP j rfl (by omega) dX5_berthOf_17 ?_
  refine z_callV (As := [Value.int (ob j)]) (rest := []) hx hb hml hown hta zm_X0_has wd_5_8 (c_X0_has l D y a cap clr t hom mov wm tb tf ts nw wf wt nb bw bl bi bb no od ow ol ork ob olf oco pn pb pm pcd pw pli (ob j) (by omega)) hN hK hP hD hS hA 3 rfl rfl rfl hl rfl (Nat.le_of_ble_eq_true rfl) ⟨Nat.le_of_ble_eq_true rfl, Nat.le_of_ble_eq_true rfl⟩ ⟨Nat.le_of_ble_eq_true rfl, Nat.le_of_ble_eq_true rfl⟩ dX5_berthOf_18 (fun v w' H locs hq hP hD hS => ?_)
  obtain ⟨rfl, rfl⟩ := hq
  refine lv_if_ne (tgt := 34) hx hb dX5_berthOf_21 (by decide) (fun c21 => ?_) (fun c21 => ?_)
  · have c21 := bI_1 c21
    refine lv_aload_n hx hb dX5_berthOf_34 rfl (lv_at hl 0 rfl) ?_
    refine gB5_boats hx hb hta hown hK hP wd_2_0 dX5_berthOf_35 ?_
    refine gB1_berth hx hb hta hown hK hP wd_9_2 dX5_berthOf_38 ?_
    refine lv_iload_n hx hb dX5_berthOf_41 rfl (lv_at hl 1 rfl) ?_
    refine aB_ob hx hb hK hP j rfl (by omega) dX5_berthOf_42 ?_
    refine z_iretX hG hx hb hr hlocks hP hD hS (Nat.le_of_ble_eq_true rfl) (Nat.le_of_ble_eq_true rfl) dX5_berthOf_43 ?_
    refine ⟨?_, congrArg (fun z => some (Value.int z)) ?_, ?_⟩
    · simp [beC, c21, hq1, ej]
    · rw [ej]
    · rfl
  · have c21 := bI_0 c21
    refine zt_NoSuchElementException_196 (ik := 149) (ic := 153) hlt hG hx hb hown hta hN hP hS hl hml hex hlocks rfl rfl (Nat.le_of_ble_eq_true rfl) (Nat.le_of_ble_eq_true rfl) (Nat.le_of_ble_eq_true rfl) (Nat.le_of_ble_eq_true rfl) (Nat.le_of_ble_eq_true rfl) (Nat.le_of_ble_eq_true rfl) dX5_berthOf_24 dX5_berthOf_27 dX5_berthOf_28 dX5_berthOf_30 dX5_berthOf_33 ?_
    exact Or.inr ⟨rfl, by simp [beC, c21, hq1, ej]⟩
set_option maxHeartbeats 800000 in
set_option maxRecDepth 100000 in
theorem c_X5_boatIn (l : Launch) (hlt : l.stackTraces = false) (D : va_G) (y : Nat → ClassId) (a : Nat → Nat) (cap clr : Int32) (t : Nat) (hom mov : Int32) (wm : Int64) (tb tf ts : Int32) (nw : Nat) (wf wt : Nat → Int32) (nb : Nat) (bw bl bi bb : Nat → Int32) (no : Nat) (od ow ol ork ob olf oco : Nat → Int32) (pn pb pm : Int32) (pcd pw pli : Nat → Int32) (b : Int32) (hb6 : nb ≤ 6) : zX l D y yX5_boatIn cX5_boatIn 2 (some .int) 8 2 12 116 [Value.ref (a 0), Value.int b] (wB a y cap clr (nI t) hom mov wm tb tf ts (nI nw) wf wt (nI nb) bw bl bi bb (nI no) od ow ol ork ob olf oco pn pb pm pcd pw pli) (fun o9 w9 => (bnC nb bb b = 0) ∧ o9 = some (Value.int (bb (nN b))) ∧ w9 = wB a y cap clr (nI t) hom mov wm tb tf ts (nI nw) wf wt (nI nb) bw bl bi bb (nI no) od ow ol ork ob olf oco pn pb pm pcd pw pli) (fun E => (E = "java/lang/IndexOutOfBoundsException" ∧ (bnC nb bb b = 1)) ∨ (E = "java/util/NoSuchElementException" ∧ (bnC nb bb b = 2))) := by
  refine zX.of (by decide +kernel) (Nat.le_of_ble_eq_true rfl) ?_
  intro p e s m args below meth c A ls hx hb hr hta hown hlocks hml hex hN hK hP hD hS hA hl
  refine z_gen (fun G hG => ?_)
  have hl : lv_has ls 2 [(0, Value.ref (a 0)), (1, Value.int b)] := hl
  refine lv_aload_n hx hb dX5_boatIn_0 rfl (lv_at hl 0 rfl) ?_
  refine lv_iload_n hx hb dX5_boatIn_1 rfl (lv_at hl 1 rfl) ?_
  refine z_xcallV (As := [Value.int b]) (rest := []) hx hb hml hown hta zm_X5_checkBerth wd_8_18 (c_X5_checkBerth l hlt D y a cap clr t hom mov wm tb tf ts nw wf wt nb bw bl bi bb no od ow ol ork ob olf oco pn pb pm pcd pw pli b (by omega)) hN hK hP hD hS hA 0 rfl rfl rfl hl rfl (Nat.le_of_ble_eq_true rfl) ⟨Nat.le_of_ble_eq_true rfl, Nat.le_of_ble_eq_true rfl⟩ ⟨Nat.le_of_ble_eq_true rfl, Nat.le_of_ble_eq_true rfl⟩ dX5_boatIn_2 (fun E ce q9 H locs hE hP hS hc9 hv9 hcl9 => ?_) (fun v w' H locs hq hP hD hS => ?_)
  · refine z_out hG hex hlocks ?_ hP hS hc9 hv9 hcl9 (Nat.le_of_ble_eq_true rfl) (Nat.le_of_ble_eq_true rfl)
    obtain ⟨rfl, hE⟩ := hE
    exact Or.inl ⟨rfl, by simp [bnC, hE]⟩
  obtain ⟨hq1, rfl, rfl⟩ := hq
  obtain ⟨j, hj, rfl⟩ := (inB_iff (by omega)).mp hq1
  have ej : nN (nI j) = j := nI_clamp (by omega)
  refine lv_aload_n hx hb dX5_boatIn_5 rfl (lv_at hl 0 rfl) ?_
  refine gB5_berths hx hb hta hown hK hP wd_1_20 dX5_boatIn_6 ?_
  refine gB0_boat hx hb hta hown hK hP wd_11_1 dX5_boatIn_9 ?_
  refine lv_iload_n hx hb dX5_boatIn_12 rfl (lv_at hl 1 rfl) ?_
  refine aB_bb hx hb hK hP j rfl (by omega) dX5_boatIn_13 ?_
  refine lv_iconst (v := (-1 : Int32)) hx hb dX5_boatIn_14 (by decide) ?_
  refine lv_icmp_ne (tgt := 28) hx hb dX5_boatIn_15 (by decide) (fun c15 => ?_) (fun c15 => ?_)
  · refine lv_aload_n hx hb dX5_boatIn_28 rfl (lv_at hl 0 rfl) ?_
    refine gB5_berths hx hb hta hown hK hP wd_1_20 dX5_boatIn_29 ?_
    refine gB0_boat hx hb hta hown hK hP wd_11_1 dX5_boatIn_32 ?_
    refine lv_iload_n hx hb dX5_boatIn_35 rfl (lv_at hl 1 rfl) ?_
    refine aB_bb hx hb hK hP j rfl (by omega) dX5_boatIn_36 ?_
    refine z_iretX hG hx hb hr hlocks hP hD hS (Nat.le_of_ble_eq_true rfl) (Nat.le_of_ble_eq_true rfl) dX5_boatIn_37 ?_
    refine ⟨?_, congrArg (fun z => some (Value.int z)) ?_, ?_⟩
    · simp [bnC, c15, hq1, ej]
    · rw [ej]
    · rfl
  · refine zt_NoSuchElementException_201 (ik := 149) (ic := 153) hlt hG hx hb hown hta hN hP hS hl hml hex hlocks rfl rfl (Nat.le_of_ble_eq_true rfl) (Nat.le_of_ble_eq_true rfl) (Nat.le_of_ble_eq_true rfl) (Nat.le_of_ble_eq_true rfl) (Nat.le_of_ble_eq_true rfl) (Nat.le_of_ble_eq_true rfl) dX5_boatIn_18 dX5_boatIn_21 dX5_boatIn_22 dX5_boatIn_24 dX5_boatIn_27 ?_
    exact Or.inr ⟨rfl, by simp [bnC, c15, hq1, ej]⟩
set_option maxHeartbeats 800000 in
set_option maxRecDepth 100000 in
theorem c_X5_dryLeft (l : Launch) (hlt : l.stackTraces = false) (D : va_G) (y : Nat → ClassId) (a : Nat → Nat) (cap clr : Int32) (t : Nat) (hom mov : Int32) (wm : Int64) (tb tf ts : Int32) (nw : Nat) (wf wt : Nat → Int32) (nb : Nat) (bw bl bi bb : Nat → Int32) (no : Nat) (od ow ol ork ob olf oco : Nat → Int32) (pn pb pm : Int32) (pcd pw pli : Nat → Int32) (b : Int32) (hb8 : no ≤ 8) : zX l D y yX5_dryLeft cX5_dryLeft 2 (some .int) 8 1 6 116 [Value.ref (a 0), Value.int b] (wB a y cap clr (nI t) hom mov wm tb tf ts (nI nw) wf wt (nI nb) bw bl bi bb (nI no) od ow ol ork ob olf oco pn pb pm pcd pw pli) (fun o9 w9 => (boC no b = 0) ∧ o9 = some (Value.int (olf (nN b))) ∧ w9 = wB a y cap clr (nI t) hom mov wm tb tf ts (nI nw) wf wt (nI nb) bw bl bi bb (nI no) od ow ol ork ob olf oco pn pb pm pcd pw pli) (fun E => (E = "java/lang/IndexOutOfBoundsException" ∧ (boC no b = 1))) := by
  refine zX.of (by decide +kernel) (Nat.le_of_ble_eq_true rfl) ?_
  intro p e s m args below meth c A ls hx hb hr hta hown hlocks hml hex hN hK hP hD hS hA hl
  refine z_gen (fun G hG => ?_)
  have hl : lv_has ls 2 [(0, Value.ref (a 0)), (1, Value.int b)] := hl
  refine lv_aload_n hx hb dX5_dryLeft_0 rfl (lv_at hl 0 rfl) ?_
  refine lv_iload_n hx hb dX5_dryLeft_1 rfl (lv_at hl 1 rfl) ?_
  refine z_xcallV (As := [Value.int b]) (rest := []) hx hb hml hown hta zm_X5_checkBoat wd_8_10 (c_X5_checkBoat l hlt D y a cap clr t hom mov wm tb tf ts nw wf wt nb bw bl bi bb no od ow ol ork ob olf oco pn pb pm pcd pw pli b (by omega)) hN hK hP hD hS hA 0 rfl rfl rfl hl rfl (Nat.le_of_ble_eq_true rfl) ⟨Nat.le_of_ble_eq_true rfl, Nat.le_of_ble_eq_true rfl⟩ ⟨Nat.le_of_ble_eq_true rfl, Nat.le_of_ble_eq_true rfl⟩ dX5_dryLeft_2 (fun E ce q9 H locs hE hP hS hc9 hv9 hcl9 => ?_) (fun v w' H locs hq hP hD hS => ?_)
  · refine z_out hG hex hlocks ?_ hP hS hc9 hv9 hcl9 (Nat.le_of_ble_eq_true rfl) (Nat.le_of_ble_eq_true rfl)
    obtain ⟨rfl, hE⟩ := hE
    exact ⟨rfl, by simp [boC, hE]⟩
  obtain ⟨hq1, rfl, rfl⟩ := hq
  obtain ⟨j, hj, rfl⟩ := (inB_iff (by omega)).mp hq1
  have ej : nN (nI j) = j := nI_clamp (by omega)
  refine lv_aload_n hx hb dX5_dryLeft_5 rfl (lv_at hl 0 rfl) ?_
  refine gB5_boats hx hb hta hown hK hP wd_2_0 dX5_dryLeft_6 ?_
  refine gB1_left hx hb hta hown hK hP wd_12_3 dX5_dryLeft_9 ?_
  refine lv_iload_n hx hb dX5_dryLeft_12 rfl (lv_at hl 1 rfl) ?_
  refine aB_olf hx hb hK hP j rfl (by omega) dX5_dryLeft_13 ?_
  refine z_iretX hG hx hb hr hlocks hP hD hS (Nat.le_of_ble_eq_true rfl) (Nat.le_of_ble_eq_true rfl) dX5_dryLeft_14 ?_
  refine ⟨?_, congrArg (fun z => some (Value.int z)) ?_, ?_⟩
  · simp [boC, hq1, ej]
  · rw [ej]
  · rfl
set_option maxHeartbeats 800000 in
set_option maxRecDepth 100000 in
theorem c_X5_pass (l : Launch) (hlt : l.stackTraces = false) (D : va_G) (y : Nat → ClassId) (a : Nat → Nat) (cap clr : Int32) (t : Nat) (hom mov : Int32) (wm : Int64) (tb tf ts : Int32) (nw : Nat) (wf wt : Nat → Int32) (nb : Nat) (bw bl bi bb : Nat → Int32) (no : Nat) (od ow ol ork ob olf oco : Nat → Int32) (pn pb pm : Int32) (pcd pw pli : Nat → Int32) (h : Int32) (hb8 : no ≤ 8) (hw : nw ≤ 6) (ht : t ≤ 9999) : zX l D y yX5_pass cX5_pass 3 (some .int) 7 1 6 95 [Value.ref (a 0), Value.int h] (wB a y cap clr (nI t) hom mov wm tb tf ts (nI nw) wf wt (nI nb) bw bl bi bb (nI no) od ow ol ork ob olf oco pn pb pm pcd pw pli) (fun o9 w9 => (psC t h = 0) ∧ o9 = some (Value.int (nI (t + nN h))) ∧ w9 = wB a y cap clr (nI (t + nN h)) hom mov wm tb tf ts (nI nw) wf wt (nI nb) bw bl bi bb (nI no) od ow ol ork ob (pdF wf wt nw no t olf (nN h)) oco pn pb pm pcd pw pli) (fun E => (E = "java/lang/IllegalArgumentException" ∧ (psC t h = 1))) := by
  refine zX.of (by decide +kernel) (Nat.le_of_ble_eq_true rfl) ?_
  intro p e s m args below meth c A ls hx hb hr hta hown hlocks hml hex hN hK hP hD hS hA hl
  refine z_gen (fun G hG => ?_)
  have hl : lv_has ls 3 [(0, Value.ref (a 0)), (1, Value.int h)] := hl
  refine lv_iload_n hx hb dX5_pass_0 rfl (lv_at hl 1 rfl) ?_
  refine lv_iconst (v := (1 : Int32)) hx hb dX5_pass_1 (by decide) ?_
  refine lv_sipush (v := (336 : Int32)) hx hb dX5_pass_2 (by decide) ?_
  refine z_callS (As := [Value.int h, Value.int (1 : Int32), Value.int (336 : Int32)]) (rest := []) hx hb hml hown hta zm_X5_outside wd_5_12 (c_X5_outside l D y a cap clr t hom mov wm tb tf ts nw wf wt nb bw bl bi bb no od ow ol ork ob olf oco pn pb pm pcd pw pli h (1 : Int32) (336 : Int32)) hN hK hP hD hS hA rfl hl rfl (Nat.le_of_ble_eq_true rfl) ⟨Nat.le_of_ble_eq_true rfl, Nat.le_of_ble_eq_true rfl⟩ ⟨Nat.le_of_ble_eq_true rfl, Nat.le_of_ble_eq_true rfl⟩ dX5_pass_5 (fun v w' H locs hq hP hD hS => ?_)
  obtain ⟨rfl, rfl⟩ := hq
  refine lv_if_ne (tgt := 23) hx hb dX5_pass_8 (by decide) (fun c8 => ?_) (fun c8 => ?_)
  · have c8 := bI_1 c8
    refine zt_IllegalArgumentException_203 (ik := 79) (ic := 83) hlt hG hx hb hown hta hN hP hS hl hml hex hlocks rfl rfl (Nat.le_of_ble_eq_true rfl) (Nat.le_of_ble_eq_true rfl) (Nat.le_of_ble_eq_true rfl) (Nat.le_of_ble_eq_true rfl) (Nat.le_of_ble_eq_true rfl) (Nat.le_of_ble_eq_true rfl) dX5_pass_23 dX5_pass_26 dX5_pass_27 dX5_pass_29 dX5_pass_32 ?_
    first
    | exact ⟨rfl, by rw [psC, c8]; rfl⟩
    | exact ⟨rfl, by rw [psC, if_pos c8, en9, if_neg (by omega)]⟩
  · have c8 := bI_0 c8
    obtain ⟨n9, hn1, hn2, rfl⟩ := outR_nat (lo := 1) (hi := 336) c8 (by decide) (by decide)
    have en9 : nN (nI n9) = n9 := nI_clamp (by omega)
    refine lv_aload_n hx hb dX5_pass_11 rfl (lv_at hl 0 rfl) ?_
    refine gB5_now hx hb hta hown hK hP wd_2_7 dX5_pass_12 ?_
    refine lv_iload_n hx hb dX5_pass_15 rfl (lv_at hl 1 rfl) ?_
    refine lv_iadd hx hb dX5_pass_16 ?_
    refine zr_top (y := nI (t + n9)) (nI_add t n9) ?_
    refine lv_sipush (v := (9999 : Int32)) hx hb dX5_pass_17 (by decide) ?_
    refine lv_icmp_le (tgt := 33) hx hb dX5_pass_20 (by decide) (fun c20 => ?_) (fun c20 => ?_)
    · have c20 : (t + n9) ≤ 9999 := (nI_leI (a := (t + n9)) (b := 9999) (by omega) (by omega)).mp c20
      refine lv_iconst (v := (0 : Int32)) hx hb dX5_pass_33 (by decide) ?_
      refine lv_istore_n (lv' := [(2, Value.int (0 : Int32)), (0, Value.ref (a 0)), (1, Value.int (nI n9))]) hx hb dX5_pass_34 rfl hl (by decide) rfl (fun ls hl => ?_)
      have LP35 : ∀ (n : Nat) (k : Nat), (k ≤ n9) → n9 - k < n → ∀ (H : Heap) (locs : List Loc) (ls : Array Slot), va_P D vwCl (wB a y cap clr (nI (t + k)) hom mov wm tb tf ts (nI nw) wf wt (nI nb) bw bl bi bb (nI no) od ow ol ork ob (pdF wf wt nw no t olf k) oco pn pb pm pcd pw pli) H → va_D A (wB a y cap clr (nI (t + k)) hom mov wm tb tf ts (nI nw) wf wt (nI nb) bw bl bi bb (nI no) od ow ol ork ob (pdF wf wt nw no t olf k) oco pn pb pm pcd pw pli) → va_S A s.heap H locs → lv_has ls 3 [(2, Value.int (nI k)), (0, Value.ref (a 0)), (1, Value.int (nI n9))] → W p l e ({ frames := 7, cells := 1, slots := 6, locals := 95 } : Room) s m args below meth c H locs 0 0 G (F0 m 35 ls []) := by
        intro n
        induction n with
        | zero => intro k hk hn; exact absurd hn (Nat.not_lt_zero _)
        | succ n ih35 =>
          intro k hk hn H locs ls hP hD hS hl
          refine lv_iload_n hx hb dX5_pass_35 rfl (lv_at hl 0 rfl) ?_
          refine lv_iload_n hx hb dX5_pass_36 rfl (lv_at hl 2 rfl) ?_
          refine lv_icmp_ge (tgt := 77) hx hb dX5_pass_37 (by decide) (fun c37 => ?_) (fun c37 => ?_)
          · have c37 : n9 ≤ k := (nI_leI (a := n9) (b := k) (by omega) (by omega)).mp c37
            refine lv_aload_n hx hb dX5_pass_77 rfl (lv_at hl 1 rfl) ?_
            refine gB5_now hx hb hta hown hK hP wd_2_7 dX5_pass_78 ?_
            refine z_iretX hG hx hb hr hlocks hP hD hS (Nat.le_of_ble_eq_true rfl) (Nat.le_of_ble_eq_true rfl) dX5_pass_81 ?_
            refine ⟨?_, congrArg (fun z => some (Value.int z)) ?_, ?_⟩
            · rw [psC, if_pos c8, en9, if_pos (by omega)]
            · rw [en9, show k = n9 by omega]
            · rw [en9, show k = n9 by omega]
          · have c37 : ¬ n9 ≤ k := fun z => c37 ((nI_leI (a := n9) (b := k) (by omega) (by omega)).mpr z)
            refine lv_aload_n hx hb dX5_pass_40 rfl (lv_at hl 1 rfl) ?_
            refine gB5_weather hx hb hta hown hK hP wd_1_16 dX5_pass_41 ?_
            refine lv_aload_n hx hb dX5_pass_44 rfl (lv_at hl 1 rfl) ?_
            refine gB5_now hx hb hta hown hK hP wd_2_7 dX5_pass_45 ?_
            refine z_callV (As := [Value.int (nI (t + k))]) (rest := []) hx hb hml hown hta zm_X4_badAt wd_10_4 (c_X4_badAt l D y a cap clr (t + k) hom mov wm tb tf ts nw wf wt nb bw bl bi bb no od ow ol ork ob (pdF wf wt nw no t olf k) oco pn pb pm pcd pw pli (nI (t + k)) (by omega)) hN hK hP hD hS hA 2 rfl rfl rfl hl rfl (Nat.le_of_ble_eq_true rfl) ⟨Nat.le_of_ble_eq_true rfl, Nat.le_of_ble_eq_true rfl⟩ ⟨Nat.le_of_ble_eq_true rfl, Nat.le_of_ble_eq_true rfl⟩ dX5_pass_48 (fun v w' H locs hq hP hD hS => ?_)
            obtain ⟨rfl, rfl⟩ := hq
            refine lv_if_ne (tgt := 61) hx hb dX5_pass_51 (by decide) (fun c51 => ?_) (fun c51 => ?_)
            · have c51 := bI_1 c51
              refine lv_aload_n hx hb dX5_pass_61 rfl (lv_at hl 1 rfl) ?_
              refine lv_dup hx hb dX5_pass_62 rfl ?_
              refine gB5_now hx hb hta hown hK hP wd_2_7 dX5_pass_63 ?_
              refine lv_iconst (v := (1 : Int32)) hx hb dX5_pass_66 (by decide) ?_
              refine lv_iadd hx hb dX5_pass_67 ?_
              refine zr_top (y := nI ((t + k) + 1)) (nI_add (t + k) 1) ?_
              refine pB5_now hx hb hta hown hK hP hD hS wd_2_7 dX5_pass_68 (fun H locs hP hD hS => ?_)
              refine lv_iinc (v := nI (k + 1)) (lv' := [(2, Value.int (nI (k + 1))), (0, Value.ref (a 0)), (1, Value.int (nI n9))]) hx hb dX5_pass_71 hl (k := 0) rfl (nI_add k 1) (by decide) rfl (fun ls hl => ?_)
              refine lv_goto (tgt := 35) hx hb dX5_pass_74 (by decide) ?_
              have hl := lv_sub hl [0, 1, 2] rfl
              have ew3_olf : pdF wf wt nw no t olf k = pdF wf wt nw no t olf (k + 1) := by
                first
                | with_reducible rfl
                | rw [pdF, if_pos c51]
                | rw [pdF, c51, if_neg Bool.false_ne_true]
              have ew3_olf := congrArg (fun z => wB a y cap clr (nI ((t + k) + 1)) hom mov wm tb tf ts (nI nw) wf wt (nI nb) bw bl bi bb (nI no) od ow ol ork ob z oco pn pb pm pcd pw pli) ew3_olf
              have hP : va_P D vwCl (wB a y cap clr (nI ((t + k) + 1)) hom mov wm tb tf ts (nI nw) wf wt (nI nb) bw bl bi bb (nI no) od ow ol ork ob (pdF wf wt nw no t olf (k + 1)) oco pn pb pm pcd pw pli) _ := zw_P ew3_olf hP
              have hD : va_D A (wB a y cap clr (nI ((t + k) + 1)) hom mov wm tb tf ts (nI nw) wf wt (nI nb) bw bl bi bb (nI no) od ow ol ork ob (pdF wf wt nw no t olf (k + 1)) oco pn pb pm pcd pw pli) := zw_D ew3_olf hD
              have ew4_now : nI ((t + k) + 1) = nI (t + (k + 1)) := by
                rfl
              have ew4_now := congrArg (fun z => wB a y cap clr z hom mov wm tb tf ts (nI nw) wf wt (nI nb) bw bl bi bb (nI no) od ow ol ork ob (pdF wf wt nw no t olf (k + 1)) oco pn pb pm pcd pw pli) ew4_now
              have hP : va_P D vwCl (wB a y cap clr (nI (t + (k + 1))) hom mov wm tb tf ts (nI nw) wf wt (nI nb) bw bl bi bb (nI no) od ow ol ork ob (pdF wf wt nw no t olf (k + 1)) oco pn pb pm pcd pw pli) _ := zw_P ew4_now hP
              have hD : va_D A (wB a y cap clr (nI (t + (k + 1))) hom mov wm tb tf ts (nI nw) wf wt (nI nb) bw bl bi bb (nI no) od ow ol ork ob (pdF wf wt nw no t olf (k + 1)) oco pn pb pm pcd pw pli) := zw_D ew4_now hD
              exact ih35 (k + 1) (by omega) (by omega) _ _ _ hP hD hS hl
            · have c51 := bI_0 c51
              refine lv_aload_n hx hb dX5_pass_54 rfl (lv_at hl 1 rfl) ?_
              refine gB5_boats hx hb hta hown hK hP wd_2_0 dX5_pass_55 ?_
              refine z_callV (As := []) (rest := []) hx hb hml hown hta zm_X1_dryOneHour wd_16_18 (c_X1_dryOneHour l D y a cap clr (t + k) hom mov wm tb tf ts nw wf wt nb bw bl bi bb no od ow ol ork ob (pdF wf wt nw no t olf k) oco pn pb pm pcd pw pli (by omega)) hN hK hP hD hS hA 4 rfl rfl rfl hl rfl (Nat.le_of_ble_eq_true rfl) ⟨Nat.le_of_ble_eq_true rfl, Nat.le_of_ble_eq_true rfl⟩ ⟨Nat.le_of_ble_eq_true rfl, Nat.le_of_ble_eq_true rfl⟩ dX5_pass_58 (fun v w' H locs hq hP hD hS => ?_)
              obtain ⟨rfl, rfl⟩ := hq
              refine lv_aload_n hx hb dX5_pass_61 rfl (lv_at hl 1 rfl) ?_
              refine lv_dup hx hb dX5_pass_62 rfl ?_
              refine gB5_now hx hb hta hown hK hP wd_2_7 dX5_pass_63 ?_
              refine lv_iconst (v := (1 : Int32)) hx hb dX5_pass_66 (by decide) ?_
              refine lv_iadd hx hb dX5_pass_67 ?_
              refine zr_top (y := nI ((t + k) + 1)) (nI_add (t + k) 1) ?_
              refine pB5_now hx hb hta hown hK hP hD hS wd_2_7 dX5_pass_68 (fun H locs hP hD hS => ?_)
              refine lv_iinc (v := nI (k + 1)) (lv' := [(2, Value.int (nI (k + 1))), (0, Value.ref (a 0)), (1, Value.int (nI n9))]) hx hb dX5_pass_71 hl (k := 0) rfl (nI_add k 1) (by decide) rfl (fun ls hl => ?_)
              refine lv_goto (tgt := 35) hx hb dX5_pass_74 (by decide) ?_
              have hl := lv_sub hl [0, 1, 2] rfl
              have ew6_olf : dry1 (pdF wf wt nw no t olf k) no = pdF wf wt nw no t olf (k + 1) := by
                first
                | with_reducible rfl
                | rw [pdF, if_pos c51]
                | rw [pdF, c51, if_neg Bool.false_ne_true]
              have ew6_olf := congrArg (fun z => wB a y cap clr (nI ((t + k) + 1)) hom mov wm tb tf ts (nI nw) wf wt (nI nb) bw bl bi bb (nI no) od ow ol ork ob z oco pn pb pm pcd pw pli) ew6_olf
              have hP : va_P D vwCl (wB a y cap clr (nI ((t + k) + 1)) hom mov wm tb tf ts (nI nw) wf wt (nI nb) bw bl bi bb (nI no) od ow ol ork ob (pdF wf wt nw no t olf (k + 1)) oco pn pb pm pcd pw pli) _ := zw_P ew6_olf hP
              have hD : va_D A (wB a y cap clr (nI ((t + k) + 1)) hom mov wm tb tf ts (nI nw) wf wt (nI nb) bw bl bi bb (nI no) od ow ol ork ob (pdF wf wt nw no t olf (k + 1)) oco pn pb pm pcd pw pli) := zw_D ew6_olf hD
              have ew7_now : nI ((t + k) + 1) = nI (t + (k + 1)) := by
                rfl
              have ew7_now := congrArg (fun z => wB a y cap clr z hom mov wm tb tf ts (nI nw) wf wt (nI nb) bw bl bi bb (nI no) od ow ol ork ob (pdF wf wt nw no t olf (k + 1)) oco pn pb pm pcd pw pli) ew7_now
              have hP : va_P D vwCl (wB a y cap clr (nI (t + (k + 1))) hom mov wm tb tf ts (nI nw) wf wt (nI nb) bw bl bi bb (nI no) od ow ol ork ob (pdF wf wt nw no t olf (k + 1)) oco pn pb pm pcd pw pli) _ := zw_P ew7_now hP
              have hD : va_D A (wB a y cap clr (nI (t + (k + 1))) hom mov wm tb tf ts (nI nw) wf wt (nI nb) bw bl bi bb (nI no) od ow ol ork ob (pdF wf wt nw no t olf (k + 1)) oco pn pb pm pcd pw pli) := zw_D ew7_now hD
              exact ih35 (k + 1) (by omega) (by omega) _ _ _ hP hD hS hl
      have eq8_0 : (0 : Int32) = nI 0 := by
        rfl
      have hl := lv_sub hl [0, 1, 2] rfl
      have hl : lv_has ls 3 [(2, Value.int (0 : Int32)), (0, Value.ref (a 0)), (1, Value.int (nI n9))] := hl
      have hl : lv_has ls 3 [(2, Value.int (nI 0)), (0, Value.ref (a 0)), (1, Value.int (nI n9))] := lv_as hl (congrArg (fun z => [(2, Value.int z), (0, Value.ref (a 0)), (1, Value.int (nI n9))]) eq8_0)
      have ew9_olf : olf = pdF wf wt nw no t olf 0 := by
        rfl
      have ew9_olf := congrArg (fun z => wB a y cap clr (nI t) hom mov wm tb tf ts (nI nw) wf wt (nI nb) bw bl bi bb (nI no) od ow ol ork ob z oco pn pb pm pcd pw pli) ew9_olf
      have hP : va_P D vwCl (wB a y cap clr (nI t) hom mov wm tb tf ts (nI nw) wf wt (nI nb) bw bl bi bb (nI no) od ow ol ork ob (pdF wf wt nw no t olf 0) oco pn pb pm pcd pw pli) _ := zw_P ew9_olf hP
      have hD : va_D A (wB a y cap clr (nI t) hom mov wm tb tf ts (nI nw) wf wt (nI nb) bw bl bi bb (nI no) od ow ol ork ob (pdF wf wt nw no t olf 0) oco pn pb pm pcd pw pli) := zw_D ew9_olf hD
      have ew10_now : nI t = nI (t + 0) := by
        rfl
      have ew10_now := congrArg (fun z => wB a y cap clr z hom mov wm tb tf ts (nI nw) wf wt (nI nb) bw bl bi bb (nI no) od ow ol ork ob (pdF wf wt nw no t olf 0) oco pn pb pm pcd pw pli) ew10_now
      have hP : va_P D vwCl (wB a y cap clr (nI (t + 0)) hom mov wm tb tf ts (nI nw) wf wt (nI nb) bw bl bi bb (nI no) od ow ol ork ob (pdF wf wt nw no t olf 0) oco pn pb pm pcd pw pli) _ := zw_P ew10_now hP
      have hD : va_D A (wB a y cap clr (nI (t + 0)) hom mov wm tb tf ts (nI nw) wf wt (nI nb) bw bl bi bb (nI no) od ow ol ork ob (pdF wf wt nw no t olf 0) oco pn pb pm pcd pw pli) := zw_D ew10_now hD
      exact LP35 (n9 - 0 + 1) 0 (by omega) (Nat.lt_succ_self _) _ _ _ hP hD hS hl
    · have c20 : ¬ (t + n9) ≤ 9999 := fun z => c20 ((nI_leI (a := (t + n9)) (b := 9999) (by omega) (by omega)).mpr z)
      refine zt_IllegalArgumentException_203 (ik := 79) (ic := 83) hlt hG hx hb hown hta hN hP hS hl hml hex hlocks rfl rfl (Nat.le_of_ble_eq_true rfl) (Nat.le_of_ble_eq_true rfl) (Nat.le_of_ble_eq_true rfl) (Nat.le_of_ble_eq_true rfl) (Nat.le_of_ble_eq_true rfl) (Nat.le_of_ble_eq_true rfl) dX5_pass_23 dX5_pass_26 dX5_pass_27 dX5_pass_29 dX5_pass_32 ?_
      first
      | exact ⟨rfl, by rw [psC, c8]; rfl⟩
      | exact ⟨rfl, by rw [psC, if_pos c8, en9, if_neg (by omega)]⟩
set_option maxHeartbeats 800000 in
set_option maxRecDepth 100000 in
theorem c_X5_time (l : Launch) (D : va_G) (y : Nat → ClassId) (a : Nat → Nat) (cap clr : Int32) (t : Nat) (hom mov : Int32) (wm : Int64) (tb tf ts : Int32) (nw : Nat) (wf wt : Nat → Int32) (nb : Nat) (bw bl bi bb : Nat → Int32) (no : Nat) (od ow ol ork ob olf oco : Nat → Int32) (pn pb pm : Int32) (pcd pw pli : Nat → Int32)   : zP l D y yX5_time cX5_time 1 (some .int) 0 0 0 0 [Value.ref (a 0)] (wB a y cap clr (nI t) hom mov wm tb tf ts (nI nw) wf wt (nI nb) bw bl bi bb (nI no) od ow ol ork ob olf oco pn pb pm pcd pw pli) (fun o9 w9 => o9 = some (Value.int (nI t)) ∧ w9 = wB a y cap clr (nI t) hom mov wm tb tf ts (nI nw) wf wt (nI nb) bw bl bi bb (nI no) od ow ol ork ob olf oco pn pb pm pcd pw pli) := by
  refine zP.of (by decide +kernel) (Nat.le_of_ble_eq_true rfl) ?_
  intro p e s m args below meth c A ls hx hb hr hta hown hlocks hml hin hN hK hP hD hS hA hl
  refine z_gen (fun G hG => ?_)
  have hl : lv_has ls 1 [(0, Value.ref (a 0))] := hl
  refine lv_aload_n hx hb dX5_time_0 rfl (lv_at hl 0 rfl) ?_
  refine gB5_now hx hb hta hown hK hP wd_2_7 dX5_time_1 ?_
  refine z_iret hG hx hb hr hlocks hP hD hS (Nat.le_of_ble_eq_true rfl) (Nat.le_of_ble_eq_true rfl) dX5_time_4 ?_
  refine zqi ?_
  rfl
set_option maxHeartbeats 800000 in
set_option maxRecDepth 100000 in
theorem c_X5_movedWeight (l : Launch) (D : va_G) (y : Nat → ClassId) (a : Nat → Nat) (cap clr : Int32) (t : Nat) (hom mov : Int32) (wm : Int64) (tb tf ts : Int32) (nw : Nat) (wf wt : Nat → Int32) (nb : Nat) (bw bl bi bb : Nat → Int32) (no : Nat) (od ow ol ork ob olf oco : Nat → Int32) (pn pb pm : Int32) (pcd pw pli : Nat → Int32)   : zP l D y yX5_movedWeight cX5_movedWeight 1 (some .long) 0 0 0 0 [Value.ref (a 0)] (wB a y cap clr (nI t) hom mov wm tb tf ts (nI nw) wf wt (nI nb) bw bl bi bb (nI no) od ow ol ork ob olf oco pn pb pm pcd pw pli) (fun o9 w9 => o9 = some (Value.long wm) ∧ w9 = wB a y cap clr (nI t) hom mov wm tb tf ts (nI nw) wf wt (nI nb) bw bl bi bb (nI no) od ow ol ork ob olf oco pn pb pm pcd pw pli) := by
  refine zP.of (by decide +kernel) (Nat.le_of_ble_eq_true rfl) ?_
  intro p e s m args below meth c A ls hx hb hr hta hown hlocks hml hin hN hK hP hD hS hA hl
  refine z_gen (fun G hG => ?_)
  have hl : lv_has ls 1 [(0, Value.ref (a 0))] := hl
  refine lv_aload_n hx hb dX5_movedWeight_0 rfl (lv_at hl 0 rfl) ?_
  refine gB5_weightMoved hx hb hta hown hK hP wd_2_10 dX5_movedWeight_1 ?_
  refine z_lret hG hx hb hr hlocks hP hD hS (Nat.le_of_ble_eq_true rfl) (Nat.le_of_ble_eq_true rfl) dX5_movedWeight_4 ?_
  refine zql ?_
  rfl
