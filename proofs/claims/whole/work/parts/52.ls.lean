set_option maxHeartbeats 800000 in
set_option maxRecDepth 100000 in
theorem c_X5_leastShifted (l : Launch) (hlt : l.stackTraces = false) (D : va_G) (y : Nat → ClassId) (a : Nat → Nat) (cap clr : Int32) (t : Nat) (hom mov : Int32) (wm : Int64) (tb tf ts : Int32) (nw : Nat) (wf wt : Nat → Int32) (nb : Nat) (bw bl bi bb : Nat → Int32) (no : Nat) (od ow ol ork ob olf oco : Nat → Int32) (pn pb pm : Int32) (pcd pw pli : Nat → Int32) (b : Int32) (Wf : Nat → Nat) (Ed : (Nat → Int32) → Nat → Nat → Prop) (Cl : (Nat → Int32) → Prop) (v : Int32) (hb8 : no ≤ 8) (hb6 : nb ≤ 6) (hE : Eok nb no Ed) (hva : Va nb no (gB ob nb)) (hW : Wok no ow Wf) (hEC : EC nb no Ed (beS ob nb no) cap olf ow ol bw bl bi) (hCl : inB b no = true → inB (ob (nN b)) nb = true → ClC nb no (beS ob nb no) bi (nN b) Cl) (hv : Lst no Wf Ed (gB ob nb) Cl v) (hcw : inB b no = true → inB (ob (nN b)) nb = true → (cwF ob bb bi nb (nN b) = true ↔ Cl (gB ob nb))) : zXw l D y yX5_leastShifted cX5_leastShifted 3 (some .int) 9 3 18 146 [Value.ref (a 0), Value.int b] (wB a y cap clr (nI t) hom mov wm tb tf ts (nI nw) wf wt (nI nb) bw bl bi bb (nI no) od ow ol ork ob olf oco pn pb pm pcd pw pli) (fun o9 w9 => ∃ (pn9 : Int32) (pb9 : Int32) (pm9 : Int32) (pcd9 : Nat → Int32) (pw9 : Nat → Int32) (pli9 : Nat → Int32), (lsC no nb ob b v = 0) ∧ o9 = some (Value.int v) ∧ w9 = wB a y cap clr (nI t) hom mov wm tb tf ts (nI nw) wf wt (nI nb) bw bl bi bb (nI no) od ow ol ork ob olf oco pn9 pb9 pm9 pcd9 pw9 pli9) (fun E w9 => (∃ (pn9 : Int32) (pb9 : Int32) (pm9 : Int32) (pcd9 : Nat → Int32) (pw9 : Nat → Int32) (pli9 : Nat → Int32), w9 = wB a y cap clr (nI t) hom mov wm tb tf ts (nI nw) wf wt (nI nb) bw bl bi bb (nI no) od ow ol ork ob olf oco pn9 pb9 pm9 pcd9 pw9 pli9) ∧ ((E = "java/lang/IndexOutOfBoundsException" ∧ (lsC no nb ob b v = 1)) ∨ (E = "java/lang/IllegalStateException" ∧ (lsC no nb ob b v = 2)) ∨ (E = "java/util/NoSuchElementException" ∧ (lsC no nb ob b v = 3)))) := by
  refine zXw.of (by decide +kernel) (Nat.le_of_ble_eq_true rfl) ?_
  intro p e s m args below meth c A ls hx hb hr hta hown hlocks hml hex hN hK hP hD hS hA hl
  refine z_gen (fun G hG => ?_)
  have hl : lv_has ls 3 [(0, Value.ref (a 0)), (1, Value.int b)] := hl
  refine lv_aload_n hx hb dX5_leastShifted_0 rfl (lv_at hl 0 rfl) ?_
  refine lv_iload_n hx hb dX5_leastShifted_1 rfl (lv_at hl 1 rfl) ?_
  refine z_xcallV (As := [Value.int b]) (rest := []) hx hb hml hown hta zm_X5_checkBoatInBerth wd_29_10 (c_X5_checkBoatInBerth l hlt D y a cap clr t hom mov wm tb tf ts nw wf wt nb bw bl bi bb no od ow ol ork ob olf oco pn pb pm pcd pw pli b (by omega) (by omega)) hN hK hP hD hS hA 0 rfl rfl rfl hl rfl (Nat.le_of_ble_eq_true rfl) ⟨Nat.le_of_ble_eq_true rfl, Nat.le_of_ble_eq_true rfl⟩ ⟨Nat.le_of_ble_eq_true rfl, Nat.le_of_ble_eq_true rfl⟩ dX5_leastShifted_2 (fun E ce q9 H locs hE hP hS hc9 hv9 hcl9 => ?_) (fun v w' H locs hq hP hD hS => ?_)
  · exact zw_xv hG hD (z_out rfl hex hlocks ((fun h => ⟨⟨_, _, _, _, _, _, rfl⟩, h.elim (fun z => Or.inl ⟨z.1, lsC_1 z.2⟩) (fun z => Or.inr (Or.inl ⟨z.1, lsC_2 hb8 z.2⟩))⟩) hE) hP hS hc9 hv9 hcl9 (Nat.le_of_ble_eq_true rfl) (Nat.le_of_ble_eq_true rfl))
  obtain ⟨hq1, rfl, rfl⟩ := hq
  obtain ⟨j, hj, rfl, hjb⟩ := hq1
  have ej : nN (nI j) = j := nI_clamp (by omega)
  refine lv_aload_n hx hb dX5_leastShifted_5 rfl (lv_at hl 0 rfl) ?_
  refine lv_iload_n hx hb dX5_leastShifted_6 rfl (lv_at hl 1 rfl) ?_
  refine z_callV (As := [Value.int (nI j)]) (rest := []) hx hb hml hown hta zm_X5_hasClearWay wd_29_14 (c_X5_hasClearWay l D y a cap clr t hom mov wm tb tf ts nw wf wt nb bw bl bi bb no od ow ol ork ob olf oco pn pb pm pcd pw pli j (by omega) (by omega)) hN hK hP hD hS hA 0 rfl rfl rfl hl rfl (Nat.le_of_ble_eq_true rfl) ⟨Nat.le_of_ble_eq_true rfl, Nat.le_of_ble_eq_true rfl⟩ ⟨Nat.le_of_ble_eq_true rfl, Nat.le_of_ble_eq_true rfl⟩ dX5_leastShifted_7 (fun v w' H locs hq hP hD hS => ?_)
  obtain ⟨rfl, rfl⟩ := hq
  refine lv_if_eq (tgt := 17) hx hb dX5_leastShifted_10 (by decide) (fun c10 => ?_) (fun c10 => ?_)
  · have c10 := bI_0 c10
    refine lv_aload_n hx hb dX5_leastShifted_17 rfl (lv_at hl 0 rfl) ?_
    refine lv_iload_n hx hb dX5_leastShifted_18 rfl (lv_at hl 1 rfl) ?_
    refine z_callV (As := [Value.int (nI j)]) (rest := []) hx hb hml hown hta zm_X5_leastFirst wd_29_18 (c_X5_leastFirst l D y a cap clr t hom mov wm tb tf ts nw wf wt nb bw bl bi bb no od ow ol ork ob olf oco pn pb pm pcd pw pli j Wf Ed Cl v (by omega) (by omega) (by omega) hE hva hW hEC (by have z := hCl ((inB_iff (by omega)).mpr ⟨j, hj, rfl⟩); rw [ej] at z; exact z hjb) hv) hN hK hP hD hS hA 0 rfl rfl rfl hl rfl (Nat.le_of_ble_eq_true rfl) ⟨Nat.le_of_ble_eq_true rfl, Nat.le_of_ble_eq_true rfl⟩ ⟨Nat.le_of_ble_eq_true rfl, Nat.le_of_ble_eq_true rfl⟩ dX5_leastShifted_19 (fun v w' H locs hq hP hD hS => ?_)
    obtain ⟨pcd9_3, pw9_3, pli9_3, nl9_3, hq3, rfl, rfl⟩ := hq
    refine lv_istore_n (lv' := [(2, Value.int v), (0, Value.ref (a 0)), (1, Value.int (nI j))]) hx hb dX5_leastShifted_22 rfl hl (by decide) rfl (fun ls hl => ?_)
    refine lv_iload_n hx hb dX5_leastShifted_23 rfl (lv_at hl 0 rfl) ?_
    refine lv_iconst (v := (-1 : Int32)) hx hb dX5_leastShifted_24 (by decide) ?_
    refine lv_icmp_ne (tgt := 38) hx hb dX5_leastShifted_25 (by decide) (fun c25 => ?_) (fun c25 => ?_)
    · refine lv_iload_n hx hb dX5_leastShifted_38 rfl (lv_at hl 0 rfl) ?_
      refine z_iretX hG hx hb hr hlocks hP hD hS (Nat.le_of_ble_eq_true rfl) (Nat.le_of_ble_eq_true rfl) dX5_leastShifted_39 ?_
      first
      | exact ⟨_, _, _, _, _, _, by rw [lsC_3 hb8 hj hjb, if_neg c25], rfl, rfl⟩
      | (have hv0 := lst_0 hv ((hcw ((inB_iff (by omega)).mpr ⟨j, hj, rfl⟩) (by rw [ej]; exact hjb)).mp (by rw [ej]; exact c10))
         exact ⟨_, _, _, _, _, _, by rw [lsC_3 hb8 hj hjb, hv0]; decide, by rw [hv0]; rfl, rfl⟩)
    · refine zw_x hG hD ?_
      refine zt_NoSuchElementException_231 (ik := 149) (ic := 153) hlt rfl hx hb hown hta hN hP hS hl hml hex hlocks rfl rfl (Nat.le_of_ble_eq_true rfl) (Nat.le_of_ble_eq_true rfl) (Nat.le_of_ble_eq_true rfl) (Nat.le_of_ble_eq_true rfl) (Nat.le_of_ble_eq_true rfl) (Nat.le_of_ble_eq_true rfl) dX5_leastShifted_28 dX5_leastShifted_31 dX5_leastShifted_32 dX5_leastShifted_34 dX5_leastShifted_37 ?_
      exact ⟨⟨_, _, _, _, _, _, rfl⟩, Or.inr (Or.inr ⟨rfl, by rw [lsC_3 hb8 hj hjb, if_pos c25]⟩)⟩
  · have c10 := bI_1 c10
    refine lv_iconst (v := (0 : Int32)) hx hb dX5_leastShifted_13 (by decide) ?_
    refine lv_goto (tgt := 22) hx hb dX5_leastShifted_14 (by decide) ?_
    refine lv_istore_n (lv' := [(2, Value.int (0 : Int32)), (0, Value.ref (a 0)), (1, Value.int (nI j))]) hx hb dX5_leastShifted_22 rfl hl (by decide) rfl (fun ls hl => ?_)
    refine lv_iload_n hx hb dX5_leastShifted_23 rfl (lv_at hl 0 rfl) ?_
    refine lv_iconst (v := (-1 : Int32)) hx hb dX5_leastShifted_24 (by decide) ?_
    refine lv_icmp_ne (tgt := 38) hx hb dX5_leastShifted_25 (by decide) (fun c25 => ?_) (fun c25 => ?_)
    · refine lv_iload_n hx hb dX5_leastShifted_38 rfl (lv_at hl 0 rfl) ?_
      refine z_iretX hG hx hb hr hlocks hP hD hS (Nat.le_of_ble_eq_true rfl) (Nat.le_of_ble_eq_true rfl) dX5_leastShifted_39 ?_
      first
      | exact ⟨_, _, _, _, _, _, by rw [lsC_3 hb8 hj hjb, if_neg c25], rfl, rfl⟩
      | (have hv0 := lst_0 hv ((hcw ((inB_iff (by omega)).mpr ⟨j, hj, rfl⟩) (by rw [ej]; exact hjb)).mp (by rw [ej]; exact c10))
         exact ⟨_, _, _, _, _, _, by rw [lsC_3 hb8 hj hjb, hv0]; decide, by rw [hv0]; rfl, rfl⟩)
    · exact absurd c25 (by decide)
set_option maxHeartbeats 800000 in
set_option maxRecDepth 100000 in
theorem c_X5_leastByRounds (l : Launch) (hlt : l.stackTraces = false) (D : va_G) (y : Nat → ClassId) (a : Nat → Nat) (cap clr : Int32) (t : Nat) (hom mov : Int32) (wm : Int64) (tb tf ts : Int32) (nw : Nat) (wf wt : Nat → Int32) (nb : Nat) (bw bl bi bb : Nat → Int32) (no : Nat) (od ow ol ork ob olf oco : Nat → Int32) (pn pb pm : Int32) (pcd pw pli : Nat → Int32) (b : Int32) (Wf : Nat → Nat) (Ed : (Nat → Int32) → Nat → Nat → Prop) (Cl : (Nat → Int32) → Prop) (v : Int32) (hb8 : no ≤ 8) (hb6 : nb ≤ 6) (hE : Eok nb no Ed) (hva : Va nb no (gB ob nb)) (hW : Wok no ow Wf) (hEC : EC nb no Ed (beS ob nb no) cap olf ow ol bw bl bi) (hCl : inB b no = true → inB (ob (nN b)) nb = true → ClC nb no (beS ob nb no) bi (nN b) Cl) (hv : Lst no Wf Ed (gB ob nb) Cl v) (hcw : inB b no = true → inB (ob (nN b)) nb = true → (cwF ob bb bi nb (nN b) = true ↔ Cl (gB ob nb))) : zXw l D y yX5_leastByRounds cX5_leastByRounds 3 (some .int) 9 3 18 147 [Value.ref (a 0), Value.int b] (wB a y cap clr (nI t) hom mov wm tb tf ts (nI nw) wf wt (nI nb) bw bl bi bb (nI no) od ow ol ork ob olf oco pn pb pm pcd pw pli) (fun o9 w9 => ∃ (pn9 : Int32) (pb9 : Int32) (pm9 : Int32) (pcd9 : Nat → Int32) (pw9 : Nat → Int32) (pli9 : Nat → Int32), (lsC no nb ob b v = 0) ∧ o9 = some (Value.int v) ∧ w9 = wB a y cap clr (nI t) hom mov wm tb tf ts (nI nw) wf wt (nI nb) bw bl bi bb (nI no) od ow ol ork ob olf oco pn9 pb9 pm9 pcd9 pw9 pli9) (fun E w9 => (∃ (pn9 : Int32) (pb9 : Int32) (pm9 : Int32) (pcd9 : Nat → Int32) (pw9 : Nat → Int32) (pli9 : Nat → Int32), w9 = wB a y cap clr (nI t) hom mov wm tb tf ts (nI nw) wf wt (nI nb) bw bl bi bb (nI no) od ow ol ork ob olf oco pn9 pb9 pm9 pcd9 pw9 pli9) ∧ ((E = "java/lang/IndexOutOfBoundsException" ∧ (lsC no nb ob b v = 1)) ∨ (E = "java/lang/IllegalStateException" ∧ (lsC no nb ob b v = 2)) ∨ (E = "java/util/NoSuchElementException" ∧ (lsC no nb ob b v = 3)))) := by
  refine zXw.of (by decide +kernel) (Nat.le_of_ble_eq_true rfl) ?_
  intro p e s m args below meth c A ls hx hb hr hta hown hlocks hml hex hN hK hP hD hS hA hl
  refine z_gen (fun G hG => ?_)
  have hl : lv_has ls 3 [(0, Value.ref (a 0)), (1, Value.int b)] := hl
  refine lv_aload_n hx hb dX5_leastByRounds_0 rfl (lv_at hl 0 rfl) ?_
  refine lv_iload_n hx hb dX5_leastByRounds_1 rfl (lv_at hl 1 rfl) ?_
  refine z_xcallV (As := [Value.int b]) (rest := []) hx hb hml hown hta zm_X5_checkBoatInBerth wd_29_10 (c_X5_checkBoatInBerth l hlt D y a cap clr t hom mov wm tb tf ts nw wf wt nb bw bl bi bb no od ow ol ork ob olf oco pn pb pm pcd pw pli b (by omega) (by omega)) hN hK hP hD hS hA 0 rfl rfl rfl hl rfl (Nat.le_of_ble_eq_true rfl) ⟨Nat.le_of_ble_eq_true rfl, Nat.le_of_ble_eq_true rfl⟩ ⟨Nat.le_of_ble_eq_true rfl, Nat.le_of_ble_eq_true rfl⟩ dX5_leastByRounds_2 (fun E ce q9 H locs hE hP hS hc9 hv9 hcl9 => ?_) (fun v w' H locs hq hP hD hS => ?_)
  · exact zw_xv hG hD (z_out rfl hex hlocks ((fun h => ⟨⟨_, _, _, _, _, _, rfl⟩, h.elim (fun z => Or.inl ⟨z.1, lsC_1 z.2⟩) (fun z => Or.inr (Or.inl ⟨z.1, lsC_2 hb8 z.2⟩))⟩) hE) hP hS hc9 hv9 hcl9 (Nat.le_of_ble_eq_true rfl) (Nat.le_of_ble_eq_true rfl))
  obtain ⟨hq1, rfl, rfl⟩ := hq
  obtain ⟨j, hj, rfl, hjb⟩ := hq1
  have ej : nN (nI j) = j := nI_clamp (by omega)
  refine lv_aload_n hx hb dX5_leastByRounds_5 rfl (lv_at hl 0 rfl) ?_
  refine lv_iload_n hx hb dX5_leastByRounds_6 rfl (lv_at hl 1 rfl) ?_
  refine z_callV (As := [Value.int (nI j)]) (rest := []) hx hb hml hown hta zm_X5_hasClearWay wd_29_14 (c_X5_hasClearWay l D y a cap clr t hom mov wm tb tf ts nw wf wt nb bw bl bi bb no od ow ol ork ob olf oco pn pb pm pcd pw pli j (by omega) (by omega)) hN hK hP hD hS hA 0 rfl rfl rfl hl rfl (Nat.le_of_ble_eq_true rfl) ⟨Nat.le_of_ble_eq_true rfl, Nat.le_of_ble_eq_true rfl⟩ ⟨Nat.le_of_ble_eq_true rfl, Nat.le_of_ble_eq_true rfl⟩ dX5_leastByRounds_7 (fun v w' H locs hq hP hD hS => ?_)
  obtain ⟨rfl, rfl⟩ := hq
  refine lv_if_eq (tgt := 17) hx hb dX5_leastByRounds_10 (by decide) (fun c10 => ?_) (fun c10 => ?_)
  · have c10 := bI_0 c10
    refine lv_aload_n hx hb dX5_leastByRounds_17 rfl (lv_at hl 0 rfl) ?_
    refine lv_iload_n hx hb dX5_leastByRounds_18 rfl (lv_at hl 1 rfl) ?_
    refine z_callV (As := [Value.int (nI j)]) (rest := []) hx hb hml hown hta zm_X5_leastOfRounds wd_34_1 (c_X5_leastOfRounds l D y a cap clr t hom mov wm tb tf ts nw wf wt nb bw bl bi bb no od ow ol ork ob olf oco pn pb pm pcd pw pli j Wf Ed Cl v (by omega) (by omega) (by omega) hE hva hW hEC (by have z := hCl ((inB_iff (by omega)).mpr ⟨j, hj, rfl⟩); rw [ej] at z; exact z hjb) hv) hN hK hP hD hS hA 0 rfl rfl rfl hl rfl (Nat.le_of_ble_eq_true rfl) ⟨Nat.le_of_ble_eq_true rfl, Nat.le_of_ble_eq_true rfl⟩ ⟨Nat.le_of_ble_eq_true rfl, Nat.le_of_ble_eq_true rfl⟩ dX5_leastByRounds_19 (fun v w' H locs hq hP hD hS => ?_)
    obtain ⟨pcd9_3, pw9_3, pli9_3, nl9_3, hq3, rfl, rfl⟩ := hq
    refine lv_istore_n (lv' := [(2, Value.int v), (0, Value.ref (a 0)), (1, Value.int (nI j))]) hx hb dX5_leastByRounds_22 rfl hl (by decide) rfl (fun ls hl => ?_)
    refine lv_iload_n hx hb dX5_leastByRounds_23 rfl (lv_at hl 0 rfl) ?_
    refine lv_iconst (v := (-1 : Int32)) hx hb dX5_leastByRounds_24 (by decide) ?_
    refine lv_icmp_ne (tgt := 38) hx hb dX5_leastByRounds_25 (by decide) (fun c25 => ?_) (fun c25 => ?_)
    · refine lv_iload_n hx hb dX5_leastByRounds_38 rfl (lv_at hl 0 rfl) ?_
      refine z_iretX hG hx hb hr hlocks hP hD hS (Nat.le_of_ble_eq_true rfl) (Nat.le_of_ble_eq_true rfl) dX5_leastByRounds_39 ?_
      first
      | exact ⟨_, _, _, _, _, _, by rw [lsC_3 hb8 hj hjb, if_neg c25], rfl, rfl⟩
      | (have hv0 := lst_0 hv ((hcw ((inB_iff (by omega)).mpr ⟨j, hj, rfl⟩) (by rw [ej]; exact hjb)).mp (by rw [ej]; exact c10))
         exact ⟨_, _, _, _, _, _, by rw [lsC_3 hb8 hj hjb, hv0]; decide, by rw [hv0]; rfl, rfl⟩)
    · refine zw_x hG hD ?_
      refine zt_NoSuchElementException_231 (ik := 149) (ic := 153) hlt rfl hx hb hown hta hN hP hS hl hml hex hlocks rfl rfl (Nat.le_of_ble_eq_true rfl) (Nat.le_of_ble_eq_true rfl) (Nat.le_of_ble_eq_true rfl) (Nat.le_of_ble_eq_true rfl) (Nat.le_of_ble_eq_true rfl) (Nat.le_of_ble_eq_true rfl) dX5_leastByRounds_28 dX5_leastByRounds_31 dX5_leastByRounds_32 dX5_leastByRounds_34 dX5_leastByRounds_37 ?_
      exact ⟨⟨_, _, _, _, _, _, rfl⟩, Or.inr (Or.inr ⟨rfl, by rw [lsC_3 hb8 hj hjb, if_pos c25]⟩)⟩
  · have c10 := bI_1 c10
    refine lv_iconst (v := (0 : Int32)) hx hb dX5_leastByRounds_13 (by decide) ?_
    refine lv_goto (tgt := 22) hx hb dX5_leastByRounds_14 (by decide) ?_
    refine lv_istore_n (lv' := [(2, Value.int (0 : Int32)), (0, Value.ref (a 0)), (1, Value.int (nI j))]) hx hb dX5_leastByRounds_22 rfl hl (by decide) rfl (fun ls hl => ?_)
    refine lv_iload_n hx hb dX5_leastByRounds_23 rfl (lv_at hl 0 rfl) ?_
    refine lv_iconst (v := (-1 : Int32)) hx hb dX5_leastByRounds_24 (by decide) ?_
    refine lv_icmp_ne (tgt := 38) hx hb dX5_leastByRounds_25 (by decide) (fun c25 => ?_) (fun c25 => ?_)
    · refine lv_iload_n hx hb dX5_leastByRounds_38 rfl (lv_at hl 0 rfl) ?_
      refine z_iretX hG hx hb hr hlocks hP hD hS (Nat.le_of_ble_eq_true rfl) (Nat.le_of_ble_eq_true rfl) dX5_leastByRounds_39 ?_
      first
      | exact ⟨_, _, _, _, _, _, by rw [lsC_3 hb8 hj hjb, if_neg c25], rfl, rfl⟩
      | (have hv0 := lst_0 hv ((hcw ((inB_iff (by omega)).mpr ⟨j, hj, rfl⟩) (by rw [ej]; exact hjb)).mp (by rw [ej]; exact c10))
         exact ⟨_, _, _, _, _, _, by rw [lsC_3 hb8 hj hjb, hv0]; decide, by rw [hv0]; rfl, rfl⟩)
    · exact absurd c25 (by decide)
