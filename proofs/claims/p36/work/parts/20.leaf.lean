set_option maxHeartbeats 800000 in
set_option maxRecDepth 100000 in
/-- Tide.levelAt -/
theorem c_X3_levelAt (l : Launch) (D : va_G) (y : Nat → ClassId) (a : Nat → Nat) (cap clr : Int32) (t : Nat) (hom mov : Int32) (wm : Int64) (tb tf ts : Int32) (nw : Nat) (wf wt : Nat → Int32) (nb : Nat) (bw bl bi bb : Nat → Int32) (no : Nat) (od ow ol ork ob olf oco : Nat → Int32) (pn pb pm : Int32) (pcd pw pli : Nat → Int32) (h : Int32)  : zP l D y yX3_levelAt cX3_levelAt 2 (some .int) 1 0 0 40 [Value.ref (a 1), Value.int h] (wB a y cap clr (nI t) hom mov wm tb tf ts (nI nw) wf wt (nI nb) bw bl bi bb (nI no) od ow ol ork ob olf oco pn pb pm pcd pw pli) (fun o9 w9 => o9 = some (Value.int (lev tb tf ts h)) ∧ w9 = wB a y cap clr (nI t) hom mov wm tb tf ts (nI nw) wf wt (nI nb) bw bl bi bb (nI no) od ow ol ork ob olf oco pn pb pm pcd pw pli) := by
  refine zP.of (by decide +kernel) (Nat.le_of_ble_eq_true rfl) ?_
  intro p e s m args below meth c A ls hx hb hr hta hown hlocks hml hin hN hK hP hD hS hA hl
  refine z_gen (fun G hG => ?_)
  have hl : lv_has ls 2 [(0, Value.ref (a 1)), (1, Value.int h)] := hl
  refine lv_aload_n hx hb dX3_levelAt_0 rfl (lv_at hl 0 rfl) ?_
  refine gB3_base hx hb hta hown hK hP wd_2_14 dX3_levelAt_1 ?_
  refine lv_aload_n hx hb dX3_levelAt_4 rfl (lv_at hl 0 rfl) ?_
  refine gB3_first hx hb hta hown hK hP wd_2_15 dX3_levelAt_5 ?_
  refine lv_iconst (v := (3 : Int32)) hx hb dX3_levelAt_8 (by decide) ?_
  refine lv_bipush (v := (6 : Int32)) hx hb dX3_levelAt_9 (by decide) ?_
  refine lv_iload_n hx hb dX3_levelAt_11 rfl (lv_at hl 1 rfl) ?_
  refine lv_bipush (v := (12 : Int32)) hx hb dX3_levelAt_12 (by decide) ?_
  refine lv_irem hx hb dX3_levelAt_14 (by decide) ?_
  refine lv_isub hx hb dX3_levelAt_15 ?_
  refine zr_abs hx hb hta hl hml hown wd_6_22 dX3_levelAt_16 (Nat.le_of_ble_eq_true rfl) (Nat.le_of_ble_eq_true rfl) (Nat.le_of_ble_eq_true rfl) (Nat.le_of_ble_eq_true rfl) ?_
  refine lv_isub hx hb dX3_levelAt_19 ?_
  refine lv_imul hx hb dX3_levelAt_20 ?_
  refine lv_iadd hx hb dX3_levelAt_21 ?_
  refine lv_aload_n hx hb dX3_levelAt_22 rfl (lv_at hl 0 rfl) ?_
  refine gB3_second hx hb hta hown hK hP wd_2_16 dX3_levelAt_23 ?_
  refine lv_bipush (v := (6 : Int32)) hx hb dX3_levelAt_26 (by decide) ?_
  refine lv_bipush (v := (12 : Int32)) hx hb dX3_levelAt_28 (by decide) ?_
  refine lv_iload_n hx hb dX3_levelAt_30 rfl (lv_at hl 1 rfl) ?_
  refine lv_bipush (v := (25 : Int32)) hx hb dX3_levelAt_31 (by decide) ?_
  refine lv_irem hx hb dX3_levelAt_33 (by decide) ?_
  refine lv_isub hx hb dX3_levelAt_34 ?_
  refine zr_abs hx hb hta hl hml hown wd_6_22 dX3_levelAt_35 (Nat.le_of_ble_eq_true rfl) (Nat.le_of_ble_eq_true rfl) (Nat.le_of_ble_eq_true rfl) (Nat.le_of_ble_eq_true rfl) ?_
  refine lv_isub hx hb dX3_levelAt_38 ?_
  refine lv_imul hx hb dX3_levelAt_39 ?_
  refine lv_iadd hx hb dX3_levelAt_40 ?_
  refine z_iret hG hx hb hr hlocks hP hD hS (Nat.le_of_ble_eq_true rfl) (Nat.le_of_ble_eq_true rfl) dX3_levelAt_41 ?_
  refine zqi ?_
  rfl
set_option maxHeartbeats 800000 in
set_option maxRecDepth 100000 in
/-- Weather.badAt -/
theorem c_X4_badAt (l : Launch) (D : va_G) (y : Nat → ClassId) (a : Nat → Nat) (cap clr : Int32) (t : Nat) (hom mov : Int32) (wm : Int64) (tb tf ts : Int32) (nw : Nat) (wf wt : Nat → Int32) (nb : Nat) (bw bl bi bb : Nat → Int32) (no : Nat) (od ow ol ork ob olf oco : Nat → Int32) (pn pb pm : Int32) (pcd pw pli : Nat → Int32) (h : Int32) (hw : nw ≤ 6) : zP l D y yX4_badAt cX4_badAt 3 (some .boolean) 0 0 0 0 [Value.ref (a 2), Value.int h] (wB a y cap clr (nI t) hom mov wm tb tf ts (nI nw) wf wt (nI nb) bw bl bi bb (nI no) od ow ol ork ob olf oco pn pb pm pcd pw pli) (fun o9 w9 => o9 = some (Value.int (bI (badF wf wt nw h))) ∧ w9 = wB a y cap clr (nI t) hom mov wm tb tf ts (nI nw) wf wt (nI nb) bw bl bi bb (nI no) od ow ol ork ob olf oco pn pb pm pcd pw pli) := by
  refine zP.of (by decide +kernel) (Nat.le_of_ble_eq_true rfl) ?_
  intro p e s m args below meth c A ls hx hb hr hta hown hlocks hml hin hN hK hP hD hS hA hl
  refine z_gen (fun G hG => ?_)
  have hl : lv_has ls 3 [(0, Value.ref (a 2)), (1, Value.int h)] := hl
  refine lv_iconst (v := (0 : Int32)) hx hb dX4_badAt_0 (by decide) ?_
  refine lv_istore_n (lv' := [(2, Value.int (0 : Int32)), (0, Value.ref (a 2)), (1, Value.int h)]) hx hb dX4_badAt_1 rfl hl (by decide) rfl (fun ls hl => ?_)
  have LP2 : ∀ (n : Nat) (k : Nat), (k ≤ nw) → (∀ j, j < k → ¬ (wf j ≤ h ∧ h < wt j)) → nw - k < n → ∀ (H : Heap) (locs : List Loc) (ls : Array Slot), va_P D vwCl (wB a y cap clr (nI t) hom mov wm tb tf ts (nI nw) wf wt (nI nb) bw bl bi bb (nI no) od ow ol ork ob olf oco pn pb pm pcd pw pli) H → va_D A (wB a y cap clr (nI t) hom mov wm tb tf ts (nI nw) wf wt (nI nb) bw bl bi bb (nI no) od ow ol ork ob olf oco pn pb pm pcd pw pli) → va_S A s.heap H locs → lv_has ls 3 [(2, Value.int (nI k)), (0, Value.ref (a 2)), (1, Value.int h)] → W p l e ({ frames := 0, cells := 0, slots := 0, locals := 0 } : Room) s m args below meth c H locs 0 0 G (F0 m 2 ls []) := by
    intro n
    induction n with
    | zero => intro k hk hno hn; exact absurd hn (Nat.not_lt_zero _)
    | succ n ih2 =>
      intro k hk hno hn H locs ls hP hD hS hl
      refine lv_iload_n hx hb dX4_badAt_2 rfl (lv_at hl 0 rfl) ?_
      refine lv_aload_n hx hb dX4_badAt_3 rfl (lv_at hl 1 rfl) ?_
      refine gB4_count hx hb hta hown hK hP wd_2_23 dX4_badAt_4 ?_
      refine lv_icmp_ge (tgt := 38) hx hb dX4_badAt_7 (by decide) (fun c7 => ?_) (fun c7 => ?_)
      · have c7 : nw ≤ k := (nI_leI (a := nw) (b := k) (by omega) (by omega)).mp c7
        refine lv_iconst (v := (0 : Int32)) hx hb dX4_badAt_38 (by decide) ?_
        refine z_zret hG hx hb hr hlocks hP hD hS (Nat.le_of_ble_eq_true rfl) (Nat.le_of_ble_eq_true rfl) dX4_badAt_39 ?_ ?_
        · rfl
        · refine zqi ?_
          first
          | exact bI_t (badF_t (k := k) (by omega) (by simp only [Int32.lt_iff_toInt_lt, Int32.le_iff_toInt_le] at  ⊢; omega) (by simp only [Int32.lt_iff_toInt_lt, Int32.le_iff_toInt_le] at  ⊢; omega))
          | exact bI_f (badF_f (fun j hj => hno j (by omega)))
      · have c7 : ¬ nw ≤ k := fun z => c7 ((nI_leI (a := nw) (b := k) (by omega) (by omega)).mpr z)
        refine lv_aload_n hx hb dX4_badAt_10 rfl (lv_at hl 1 rfl) ?_
        refine gB4_from hx hb hta hown hK hP wd_2_21 dX4_badAt_11 ?_
        refine lv_iload_n hx hb dX4_badAt_14 rfl (lv_at hl 0 rfl) ?_
        refine aB_wf hx hb hK hP k rfl (by omega) dX4_badAt_15 ?_
        refine lv_iload_n hx hb dX4_badAt_16 rfl (lv_at hl 2 rfl) ?_
        refine lv_icmp_gt (tgt := 32) hx hb dX4_badAt_17 (by decide) (fun c17 => ?_) (fun c17 => ?_)
        · refine lv_iinc (v := nI (k + 1)) (lv' := [(2, Value.int (nI (k + 1))), (0, Value.ref (a 2)), (1, Value.int h)]) hx hb dX4_badAt_32 hl (k := 0) rfl (nI_add k 1) (by decide) rfl (fun ls hl => ?_)
          refine lv_goto (tgt := 2) hx hb dX4_badAt_35 (by decide) ?_
          have hl := lv_sub hl [0, 1, 2] rfl
          have hv1_hno : ∀ j, j < (k + 1) → ¬ (wf j ≤ h ∧ h < wt j) := by
            refine all_step hno ?_
            intro z
            obtain ⟨z1, z2⟩ := z
            simp only [Int32.lt_iff_toInt_lt, Int32.le_iff_toInt_le] at z1 z2 c17
            omega
          exact ih2 (k + 1) (by omega) hv1_hno (by omega) _ _ _ hP hD hS hl
        · refine lv_iload_n hx hb dX4_badAt_20 rfl (lv_at hl 2 rfl) ?_
          refine lv_aload_n hx hb dX4_badAt_21 rfl (lv_at hl 1 rfl) ?_
          refine gB4_to hx hb hta hown hK hP wd_2_22 dX4_badAt_22 ?_
          refine lv_iload_n hx hb dX4_badAt_25 rfl (lv_at hl 0 rfl) ?_
          refine aB_wt hx hb hK hP k rfl (by omega) dX4_badAt_26 ?_
          refine lv_icmp_ge (tgt := 32) hx hb dX4_badAt_27 (by decide) (fun c27 => ?_) (fun c27 => ?_)
          · refine lv_iinc (v := nI (k + 1)) (lv' := [(2, Value.int (nI (k + 1))), (0, Value.ref (a 2)), (1, Value.int h)]) hx hb dX4_badAt_32 hl (k := 0) rfl (nI_add k 1) (by decide) rfl (fun ls hl => ?_)
            refine lv_goto (tgt := 2) hx hb dX4_badAt_35 (by decide) ?_
            have hl := lv_sub hl [0, 1, 2] rfl
            have hv2_hno : ∀ j, j < (k + 1) → ¬ (wf j ≤ h ∧ h < wt j) := by
              refine all_step hno ?_
              intro z
              obtain ⟨z1, z2⟩ := z
              simp only [Int32.lt_iff_toInt_lt, Int32.le_iff_toInt_le] at z1 z2 c17 c27
              omega
            exact ih2 (k + 1) (by omega) hv2_hno (by omega) _ _ _ hP hD hS hl
          · refine lv_iconst (v := (1 : Int32)) hx hb dX4_badAt_30 (by decide) ?_
            refine z_zret hG hx hb hr hlocks hP hD hS (Nat.le_of_ble_eq_true rfl) (Nat.le_of_ble_eq_true rfl) dX4_badAt_31 ?_ ?_
            · rfl
            · refine zqi ?_
              first
              | exact bI_t (badF_t (k := k) (by omega) (by simp only [Int32.lt_iff_toInt_lt, Int32.le_iff_toInt_le] at c17 c27 ⊢; omega) (by simp only [Int32.lt_iff_toInt_lt, Int32.le_iff_toInt_le] at c17 c27 ⊢; omega))
              | exact bI_f (badF_f (fun j hj => hno j (by omega)))
  have eq3_0 : (0 : Int32) = nI 0 := by
    rfl
  have hl := lv_sub hl [0, 1, 2] rfl
  have hl : lv_has ls 3 [(2, Value.int (0 : Int32)), (0, Value.ref (a 2)), (1, Value.int h)] := hl
  have hl : lv_has ls 3 [(2, Value.int (nI 0)), (0, Value.ref (a 2)), (1, Value.int h)] := lv_as hl (congrArg (fun z => [(2, Value.int z), (0, Value.ref (a 2)), (1, Value.int h)]) eq3_0)
  have hv4_hno : ∀ j, j < 0 → ¬ (wf j ≤ h ∧ h < wt j) := by
    intro j hj; omega
  exact LP2 (nw - 0 + 1) 0 (by omega) hv4_hno (Nat.lt_succ_self _) _ _ _ hP hD hS hl
set_option maxHeartbeats 800000 in
set_option maxRecDepth 100000 in
/-- Berths.has -/
theorem c_X0_has (l : Launch) (D : va_G) (y : Nat → ClassId) (a : Nat → Nat) (cap clr : Int32) (t : Nat) (hom mov : Int32) (wm : Int64) (tb tf ts : Int32) (nw : Nat) (wf wt : Nat → Int32) (nb : Nat) (bw bl bi bb : Nat → Int32) (no : Nat) (od ow ol ork ob olf oco : Nat → Int32) (pn pb pm : Int32) (pcd pw pli : Nat → Int32) (b : Int32) (hb6 : nb ≤ 6) : zP l D y yX0_has cX0_has 2 (some .boolean) 0 0 0 0 [Value.ref (a 3), Value.int b] (wB a y cap clr (nI t) hom mov wm tb tf ts (nI nw) wf wt (nI nb) bw bl bi bb (nI no) od ow ol ork ob olf oco pn pb pm pcd pw pli) (fun o9 w9 => o9 = some (Value.int (bI (inB b nb))) ∧ w9 = wB a y cap clr (nI t) hom mov wm tb tf ts (nI nw) wf wt (nI nb) bw bl bi bb (nI no) od ow ol ork ob olf oco pn pb pm pcd pw pli) := by
  refine zP.of (by decide +kernel) (Nat.le_of_ble_eq_true rfl) ?_
  intro p e s m args below meth c A ls hx hb hr hta hown hlocks hml hin hN hK hP hD hS hA hl
  refine z_gen (fun G hG => ?_)
  have hl : lv_has ls 2 [(0, Value.ref (a 3)), (1, Value.int b)] := hl
  refine lv_iload_n hx hb dX0_has_0 rfl (lv_at hl 1 rfl) ?_
  refine lv_if_lt (tgt := 16) hx hb dX0_has_1 (by decide) (fun c1 => ?_) (fun c1 => ?_)
  · refine lv_iconst (v := (0 : Int32)) hx hb dX0_has_16 (by decide) ?_
    refine z_zret hG hx hb hr hlocks hP hD hS (Nat.le_of_ble_eq_true rfl) (Nat.le_of_ble_eq_true rfl) dX0_has_17 ?_ ?_
    · rfl
    · refine zqi ?_
      unfold inB
      first
      | exact bI_t (decide_eq_true (by simp only [Int32.lt_iff_toInt_lt, Int32.le_iff_toInt_le] at c1 ⊢; omega))
      | exact bI_f (decide_eq_false (by simp only [Int32.lt_iff_toInt_lt, Int32.le_iff_toInt_le] at c1 ⊢; omega))
  · refine lv_iload_n hx hb dX0_has_4 rfl (lv_at hl 1 rfl) ?_
    refine lv_aload_n hx hb dX0_has_5 rfl (lv_at hl 0 rfl) ?_
    refine gB0_count hx hb hta hown hK hP wd_3_7 dX0_has_6 ?_
    refine lv_icmp_ge (tgt := 16) hx hb dX0_has_9 (by decide) (fun c9 => ?_) (fun c9 => ?_)
    · refine lv_iconst (v := (0 : Int32)) hx hb dX0_has_16 (by decide) ?_
      refine z_zret hG hx hb hr hlocks hP hD hS (Nat.le_of_ble_eq_true rfl) (Nat.le_of_ble_eq_true rfl) dX0_has_17 ?_ ?_
      · rfl
      · refine zqi ?_
        unfold inB
        first
        | exact bI_t (decide_eq_true (by simp only [Int32.lt_iff_toInt_lt, Int32.le_iff_toInt_le] at c1 c9 ⊢; omega))
        | exact bI_f (decide_eq_false (by simp only [Int32.lt_iff_toInt_lt, Int32.le_iff_toInt_le] at c1 c9 ⊢; omega))
    · refine lv_iconst (v := (1 : Int32)) hx hb dX0_has_12 (by decide) ?_
      refine lv_goto (tgt := 17) hx hb dX0_has_13 (by decide) ?_
      refine z_zret hG hx hb hr hlocks hP hD hS (Nat.le_of_ble_eq_true rfl) (Nat.le_of_ble_eq_true rfl) dX0_has_17 ?_ ?_
      · rfl
      · refine zqi ?_
        unfold inB
        first
        | exact bI_t (decide_eq_true (by simp only [Int32.lt_iff_toInt_lt, Int32.le_iff_toInt_le] at c1 c9 ⊢; omega))
        | exact bI_f (decide_eq_false (by simp only [Int32.lt_iff_toInt_lt, Int32.le_iff_toInt_le] at c1 c9 ⊢; omega))
set_option maxHeartbeats 800000 in
set_option maxRecDepth 100000 in
/-- Boats.has -/
theorem c_X1_has (l : Launch) (D : va_G) (y : Nat → ClassId) (a : Nat → Nat) (cap clr : Int32) (t : Nat) (hom mov : Int32) (wm : Int64) (tb tf ts : Int32) (nw : Nat) (wf wt : Nat → Int32) (nb : Nat) (bw bl bi bb : Nat → Int32) (no : Nat) (od ow ol ork ob olf oco : Nat → Int32) (pn pb pm : Int32) (pcd pw pli : Nat → Int32) (b : Int32) (hb8 : no ≤ 8) : zP l D y yX1_has cX1_has 2 (some .boolean) 0 0 0 0 [Value.ref (a 4), Value.int b] (wB a y cap clr (nI t) hom mov wm tb tf ts (nI nw) wf wt (nI nb) bw bl bi bb (nI no) od ow ol ork ob olf oco pn pb pm pcd pw pli) (fun o9 w9 => o9 = some (Value.int (bI (inB b no))) ∧ w9 = wB a y cap clr (nI t) hom mov wm tb tf ts (nI nw) wf wt (nI nb) bw bl bi bb (nI no) od ow ol ork ob olf oco pn pb pm pcd pw pli) := by
  refine zP.of (by decide +kernel) (Nat.le_of_ble_eq_true rfl) ?_
  intro p e s m args below meth c A ls hx hb hr hta hown hlocks hml hin hN hK hP hD hS hA hl
  refine z_gen (fun G hG => ?_)
  have hl : lv_has ls 2 [(0, Value.ref (a 4)), (1, Value.int b)] := hl
  refine lv_iload_n hx hb dX1_has_0 rfl (lv_at hl 1 rfl) ?_
  refine lv_if_lt (tgt := 16) hx hb dX1_has_1 (by decide) (fun c1 => ?_) (fun c1 => ?_)
  · refine lv_iconst (v := (0 : Int32)) hx hb dX1_has_16 (by decide) ?_
    refine z_zret hG hx hb hr hlocks hP hD hS (Nat.le_of_ble_eq_true rfl) (Nat.le_of_ble_eq_true rfl) dX1_has_17 ?_ ?_
    · rfl
    · refine zqi ?_
      unfold inB
      first
      | exact bI_t (decide_eq_true (by simp only [Int32.lt_iff_toInt_lt, Int32.le_iff_toInt_le] at c1 ⊢; omega))
      | exact bI_f (decide_eq_false (by simp only [Int32.lt_iff_toInt_lt, Int32.le_iff_toInt_le] at c1 ⊢; omega))
  · refine lv_iload_n hx hb dX1_has_4 rfl (lv_at hl 1 rfl) ?_
    refine lv_aload_n hx hb dX1_has_5 rfl (lv_at hl 0 rfl) ?_
    refine gB1_count hx hb hta hown hK hP wd_3_18 dX1_has_6 ?_
    refine lv_icmp_ge (tgt := 16) hx hb dX1_has_9 (by decide) (fun c9 => ?_) (fun c9 => ?_)
    · refine lv_iconst (v := (0 : Int32)) hx hb dX1_has_16 (by decide) ?_
      refine z_zret hG hx hb hr hlocks hP hD hS (Nat.le_of_ble_eq_true rfl) (Nat.le_of_ble_eq_true rfl) dX1_has_17 ?_ ?_
      · rfl
      · refine zqi ?_
        unfold inB
        first
        | exact bI_t (decide_eq_true (by simp only [Int32.lt_iff_toInt_lt, Int32.le_iff_toInt_le] at c1 c9 ⊢; omega))
        | exact bI_f (decide_eq_false (by simp only [Int32.lt_iff_toInt_lt, Int32.le_iff_toInt_le] at c1 c9 ⊢; omega))
    · refine lv_iconst (v := (1 : Int32)) hx hb dX1_has_12 (by decide) ?_
      refine lv_goto (tgt := 17) hx hb dX1_has_13 (by decide) ?_
      refine z_zret hG hx hb hr hlocks hP hD hS (Nat.le_of_ble_eq_true rfl) (Nat.le_of_ble_eq_true rfl) dX1_has_17 ?_ ?_
      · rfl
      · refine zqi ?_
        unfold inB
        first
        | exact bI_t (decide_eq_true (by simp only [Int32.lt_iff_toInt_lt, Int32.le_iff_toInt_le] at c1 c9 ⊢; omega))
        | exact bI_f (decide_eq_false (by simp only [Int32.lt_iff_toInt_lt, Int32.le_iff_toInt_le] at c1 c9 ⊢; omega))
set_option maxHeartbeats 800000 in
set_option maxRecDepth 100000 in
/-- outside -/
theorem c_X5_outside (l : Launch) (D : va_G) (y : Nat → ClassId) (a : Nat → Nat) (cap clr : Int32) (t : Nat) (hom mov : Int32) (wm : Int64) (tb tf ts : Int32) (nw : Nat) (wf wt : Nat → Int32) (nb : Nat) (bw bl bi bb : Nat → Int32) (no : Nat) (od ow ol ork ob olf oco : Nat → Int32) (pn pb pm : Int32) (pcd pw pli : Nat → Int32) (v : Int32) (lo : Int32) (hi : Int32)  : zP l D y yX5_outside cX5_outside 3 (some .boolean) 0 0 0 0 [Value.int v, Value.int lo, Value.int hi] (wB a y cap clr (nI t) hom mov wm tb tf ts (nI nw) wf wt (nI nb) bw bl bi bb (nI no) od ow ol ork ob olf oco pn pb pm pcd pw pli) (fun o9 w9 => o9 = some (Value.int (bI (outR v lo hi))) ∧ w9 = wB a y cap clr (nI t) hom mov wm tb tf ts (nI nw) wf wt (nI nb) bw bl bi bb (nI no) od ow ol ork ob olf oco pn pb pm pcd pw pli) := by
  refine zP.of (by decide +kernel) (Nat.le_of_ble_eq_true rfl) ?_
  intro p e s m args below meth c A ls hx hb hr hta hown hlocks hml hin hN hK hP hD hS hA hl
  refine z_gen (fun G hG => ?_)
  have hl : lv_has ls 3 [(0, Value.int v), (1, Value.int lo), (2, Value.int hi)] := hl
  refine lv_iload_n hx hb dX5_outside_0 rfl (lv_at hl 0 rfl) ?_
  refine lv_iload_n hx hb dX5_outside_1 rfl (lv_at hl 1 rfl) ?_
  refine lv_icmp_lt (tgt := 10) hx hb dX5_outside_2 (by decide) (fun c2 => ?_) (fun c2 => ?_)
  · refine lv_iconst (v := (1 : Int32)) hx hb dX5_outside_10 (by decide) ?_
    refine lv_goto (tgt := 15) hx hb dX5_outside_11 (by decide) ?_
    refine z_zret hG hx hb hr hlocks hP hD hS (Nat.le_of_ble_eq_true rfl) (Nat.le_of_ble_eq_true rfl) dX5_outside_15 ?_ ?_
    · rfl
    · refine zqi ?_
      unfold outR
      first
      | exact bI_t (decide_eq_true (by simp only [Int32.lt_iff_toInt_lt, Int32.le_iff_toInt_le] at c2 ⊢; omega))
      | exact bI_f (decide_eq_false (by simp only [Int32.lt_iff_toInt_lt, Int32.le_iff_toInt_le] at c2 ⊢; omega))
  · refine lv_iload_n hx hb dX5_outside_5 rfl (lv_at hl 0 rfl) ?_
    refine lv_iload_n hx hb dX5_outside_6 rfl (lv_at hl 2 rfl) ?_
    refine lv_icmp_le (tgt := 14) hx hb dX5_outside_7 (by decide) (fun c7 => ?_) (fun c7 => ?_)
    · refine lv_iconst (v := (0 : Int32)) hx hb dX5_outside_14 (by decide) ?_
      refine z_zret hG hx hb hr hlocks hP hD hS (Nat.le_of_ble_eq_true rfl) (Nat.le_of_ble_eq_true rfl) dX5_outside_15 ?_ ?_
      · rfl
      · refine zqi ?_
        unfold outR
        first
        | exact bI_t (decide_eq_true (by simp only [Int32.lt_iff_toInt_lt, Int32.le_iff_toInt_le] at c2 c7 ⊢; omega))
        | exact bI_f (decide_eq_false (by simp only [Int32.lt_iff_toInt_lt, Int32.le_iff_toInt_le] at c2 c7 ⊢; omega))
    · refine lv_iconst (v := (1 : Int32)) hx hb dX5_outside_10 (by decide) ?_
      refine lv_goto (tgt := 15) hx hb dX5_outside_11 (by decide) ?_
      refine z_zret hG hx hb hr hlocks hP hD hS (Nat.le_of_ble_eq_true rfl) (Nat.le_of_ble_eq_true rfl) dX5_outside_15 ?_ ?_
      · rfl
      · refine zqi ?_
        unfold outR
        first
        | exact bI_t (decide_eq_true (by simp only [Int32.lt_iff_toInt_lt, Int32.le_iff_toInt_le] at c2 c7 ⊢; omega))
        | exact bI_f (decide_eq_false (by simp only [Int32.lt_iff_toInt_lt, Int32.le_iff_toInt_le] at c2 c7 ⊢; omega))
