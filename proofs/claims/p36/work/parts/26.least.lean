set_option maxHeartbeats 800000 in
set_option maxRecDepth 100000 in
theorem c_X5_leastShifted (l : Launch) (hlt : l.stackTraces = false) (D : va_G) (y : Nat → ClassId) (a : Nat → Nat) (cap clr : Int32) (t : Nat) (hom mov : Int32) (wm : Int64) (tb tf ts : Int32) (nw : Nat) (wf wt : Nat → Int32) (nb : Nat) (bw bl bi bb : Nat → Int32) (no : Nat) (od ow ol ork ob olf oco : Nat → Int32) (pn pb pm : Int32) (pcd pw pli : Nat → Int32) (b : Int32) (hb8 : no ≤ 8) (hb6 : nb ≤ 6) (hbi : inB b no = true) (hbj : ∀ j, j < no → b = nI j → inB (ob j) nb = false) : zX l D y yX5_leastShifted cX5_leastShifted 3 (some .int) 9 2 12 137 [Value.ref (a 0), Value.int b] (wB a y cap clr (nI t) hom mov wm tb tf ts (nI nw) wf wt (nI nb) bw bl bi bb (nI no) od ow ol ork ob olf oco pn pb pm pcd pw pli) (fun o9 w9 => (False) ∧ o9 = some (Value.int (0 : Int32)) ∧ w9 = wB a y cap clr (nI t) hom mov wm tb tf ts (nI nw) wf wt (nI nb) bw bl bi bb (nI no) od ow ol ork ob olf oco pn pb pm pcd pw pli) (fun E => (E = "java/lang/IllegalStateException" ∧ True)) := by
  refine zX.of (by decide +kernel) (Nat.le_of_ble_eq_true rfl) ?_
  intro p e s m args below meth c A ls hx hb hr hta hown hlocks hml hex hN hK hP hD hS hA hl
  refine z_gen (fun G hG => ?_)
  have hl : lv_has ls 3 [(0, Value.ref (a 0)), (1, Value.int b)] := hl
  refine lv_aload_n hx hb dX5_leastShifted_0 rfl (lv_at hl 0 rfl) ?_
  refine lv_iload_n hx hb dX5_leastShifted_1 rfl (lv_at hl 1 rfl) ?_
  refine z_xcallV (As := [Value.int b]) (rest := []) hx hb hml hown hta zm_X5_checkBoatInBerth wd_12_11 (c_X5_checkBoatInBerth l hlt D y a cap clr t hom mov wm tb tf ts nw wf wt nb bw bl bi bb no od ow ol ork ob olf oco pn pb pm pcd pw pli b (by omega) (by omega)) hN hK hP hD hS hA 0 rfl rfl rfl hl rfl (Nat.le_of_ble_eq_true rfl) ⟨Nat.le_of_ble_eq_true rfl, Nat.le_of_ble_eq_true rfl⟩ ⟨Nat.le_of_ble_eq_true rfl, Nat.le_of_ble_eq_true rfl⟩ dX5_leastShifted_2 (fun E ce q9 H locs hE hP hS hc9 hv9 hcl9 => ?_) (fun v w' H locs hq hP hD hS => ?_)
  · exact z_out hG hex hlocks ((fun h => h.elim (fun z => absurd z.2 (by rw [hbi]; decide)) (fun z => ⟨z.1, trivial⟩)) hE) hP hS hc9 hv9 hcl9 (Nat.le_of_ble_eq_true rfl) (Nat.le_of_ble_eq_true rfl)
  obtain ⟨hq1, rfl, rfl⟩ := hq
  obtain ⟨j, h1, h2, h3⟩ := hq1
  rw [hbj j h1 h2] at h3
  exact absurd h3 (by decide)
set_option maxHeartbeats 800000 in
set_option maxRecDepth 100000 in
theorem c_X5_leastByRounds (l : Launch) (hlt : l.stackTraces = false) (D : va_G) (y : Nat → ClassId) (a : Nat → Nat) (cap clr : Int32) (t : Nat) (hom mov : Int32) (wm : Int64) (tb tf ts : Int32) (nw : Nat) (wf wt : Nat → Int32) (nb : Nat) (bw bl bi bb : Nat → Int32) (no : Nat) (od ow ol ork ob olf oco : Nat → Int32) (pn pb pm : Int32) (pcd pw pli : Nat → Int32) (b : Int32) (hb8 : no ≤ 8) (hb6 : nb ≤ 6) (hbi : inB b no = true) (hbj : ∀ j, j < no → b = nI j → inB (ob j) nb = false) : zX l D y yX5_leastByRounds cX5_leastByRounds 3 (some .int) 9 2 12 137 [Value.ref (a 0), Value.int b] (wB a y cap clr (nI t) hom mov wm tb tf ts (nI nw) wf wt (nI nb) bw bl bi bb (nI no) od ow ol ork ob olf oco pn pb pm pcd pw pli) (fun o9 w9 => (False) ∧ o9 = some (Value.int (0 : Int32)) ∧ w9 = wB a y cap clr (nI t) hom mov wm tb tf ts (nI nw) wf wt (nI nb) bw bl bi bb (nI no) od ow ol ork ob olf oco pn pb pm pcd pw pli) (fun E => (E = "java/lang/IllegalStateException" ∧ True)) := by
  refine zX.of (by decide +kernel) (Nat.le_of_ble_eq_true rfl) ?_
  intro p e s m args below meth c A ls hx hb hr hta hown hlocks hml hex hN hK hP hD hS hA hl
  refine z_gen (fun G hG => ?_)
  have hl : lv_has ls 3 [(0, Value.ref (a 0)), (1, Value.int b)] := hl
  refine lv_aload_n hx hb dX5_leastByRounds_0 rfl (lv_at hl 0 rfl) ?_
  refine lv_iload_n hx hb dX5_leastByRounds_1 rfl (lv_at hl 1 rfl) ?_
  refine z_xcallV (As := [Value.int b]) (rest := []) hx hb hml hown hta zm_X5_checkBoatInBerth wd_12_11 (c_X5_checkBoatInBerth l hlt D y a cap clr t hom mov wm tb tf ts nw wf wt nb bw bl bi bb no od ow ol ork ob olf oco pn pb pm pcd pw pli b (by omega) (by omega)) hN hK hP hD hS hA 0 rfl rfl rfl hl rfl (Nat.le_of_ble_eq_true rfl) ⟨Nat.le_of_ble_eq_true rfl, Nat.le_of_ble_eq_true rfl⟩ ⟨Nat.le_of_ble_eq_true rfl, Nat.le_of_ble_eq_true rfl⟩ dX5_leastByRounds_2 (fun E ce q9 H locs hE hP hS hc9 hv9 hcl9 => ?_) (fun v w' H locs hq hP hD hS => ?_)
  · exact z_out hG hex hlocks ((fun h => h.elim (fun z => absurd z.2 (by rw [hbi]; decide)) (fun z => ⟨z.1, trivial⟩)) hE) hP hS hc9 hv9 hcl9 (Nat.le_of_ble_eq_true rfl) (Nat.le_of_ble_eq_true rfl)
  obtain ⟨hq1, rfl, rfl⟩ := hq
  obtain ⟨j, h1, h2, h3⟩ := hq1
  rw [hbj j h1 h2] at h3
  exact absurd h3 (by decide)
