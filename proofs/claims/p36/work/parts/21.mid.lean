set_option maxHeartbeats 800000 in
set_option maxRecDepth 100000 in
theorem c_X4_keepFrom (l : Launch) (D : va_G) (y : Nat → ClassId) (a : Nat → Nat) (cap clr : Int32) (t : Nat) (hom mov : Int32) (wm : Int64) (tb tf ts : Int32) (nw : Nat) (wf wt : Nat → Int32) (nb : Nat) (bw bl bi bb : Nat → Int32) (no : Nat) (od ow ol ork ob olf oco : Nat → Int32) (pn pb pm : Int32) (pcd pw pli : Nat → Int32) (h : Int32) (hw : nw ≤ 6) : zP l D y yX4_keepFrom cX4_keepFrom 4 (some .int) 0 0 0 0 [Value.ref (a 2), Value.int h] (wB a y cap clr (nI t) hom mov wm tb tf ts (nI nw) wf wt (nI nb) bw bl bi bb (nI no) od ow ol ork ob olf oco pn pb pm pcd pw pli) (fun o9 w9 => (True) ∧ o9 = some (Value.int (nI ((kp wf wt h nw).2.2))) ∧ w9 = wB a y cap clr (nI t) hom mov wm tb tf ts (nI ((kp wf wt h nw).2.2)) ((kp wf wt h nw).1) ((kp wf wt h nw).2.1) (nI nb) bw bl bi bb (nI no) od ow ol ork ob olf oco pn pb pm pcd pw pli) := by
  refine zP.of (by decide +kernel) (Nat.le_of_ble_eq_true rfl) ?_
  intro p e s m args below meth c A ls hx hb hr hta hown hlocks hml hin hN hK hP hD hS hA hl
  refine z_gen (fun G hG => ?_)
  have hl : lv_has ls 4 [(0, Value.ref (a 2)), (1, Value.int h)] := hl
  refine lv_iconst (v := (0 : Int32)) hx hb dX4_keepFrom_0 (by decide) ?_
  refine lv_istore_n (lv' := [(2, Value.int (0 : Int32)), (0, Value.ref (a 2)), (1, Value.int h)]) hx hb dX4_keepFrom_1 rfl hl (by decide) rfl (fun ls hl => ?_)
  refine lv_iconst (v := (0 : Int32)) hx hb dX4_keepFrom_2 (by decide) ?_
  refine lv_istore_n (lv' := [(3, Value.int (0 : Int32)), (2, Value.int (0 : Int32)), (0, Value.ref (a 2)), (1, Value.int h)]) hx hb dX4_keepFrom_3 rfl hl (by decide) rfl (fun ls hl => ?_)
  have LP4 : ∀ (n : Nat) (k : Nat), (k ≤ nw) → nw - k < n → ∀ (H : Heap) (locs : List Loc) (ls : Array Slot), va_P D vwCl (wB a y cap clr (nI t) hom mov wm tb tf ts (nI nw) ((kp wf wt h k).1) ((kp wf wt h k).2.1) (nI nb) bw bl bi bb (nI no) od ow ol ork ob olf oco pn pb pm pcd pw pli) H → va_D A (wB a y cap clr (nI t) hom mov wm tb tf ts (nI nw) ((kp wf wt h k).1) ((kp wf wt h k).2.1) (nI nb) bw bl bi bb (nI no) od ow ol ork ob olf oco pn pb pm pcd pw pli) → va_S A s.heap H locs → lv_has ls 4 [(3, Value.int (nI k)), (2, Value.int (nI ((kp wf wt h k).2.2))), (0, Value.ref (a 2)), (1, Value.int h)] → W p l e ({ frames := 0, cells := 0, slots := 0, locals := 0 } : Room) s m args below meth c H locs 0 0 G (F0 m 4 ls []) := by
    intro n
    induction n with
    | zero => intro k hk hn; exact absurd hn (Nat.not_lt_zero _)
    | succ n ih4 =>
      intro k hk hn H locs ls hP hD hS hl
      refine lv_iload_n hx hb dX4_keepFrom_4 rfl (lv_at hl 0 rfl) ?_
      refine lv_aload_n hx hb dX4_keepFrom_5 rfl (lv_at hl 2 rfl) ?_
      refine gB4_count hx hb hta hown hK hP wd_2_23 dX4_keepFrom_6 ?_
      refine lv_icmp_ge (tgt := 55) hx hb dX4_keepFrom_9 (by decide) (fun c9 => ?_) (fun c9 => ?_)
      · have c9 : nw ≤ k := (nI_leI (a := nw) (b := k) (by omega) (by omega)).mp c9
        refine lv_aload_n hx hb dX4_keepFrom_55 rfl (lv_at hl 2 rfl) ?_
        refine lv_iload_n hx hb dX4_keepFrom_56 rfl (lv_at hl 1 rfl) ?_
        refine pB4_count hx hb hta hown hK hP hD hS wd_2_23 dX4_keepFrom_57 (fun H locs hP hD hS => ?_)
        refine lv_aload_n hx hb dX4_keepFrom_60 rfl (lv_at hl 2 rfl) ?_
        refine gB4_count hx hb hta hown hK hP wd_2_23 dX4_keepFrom_61 ?_
        refine z_iret hG hx hb hr hlocks hP hD hS (Nat.le_of_ble_eq_true rfl) (Nat.le_of_ble_eq_true rfl) dX4_keepFrom_64 ?_
        obtain rfl : k = nw := by omega
        exact ⟨trivial, rfl, rfl⟩
      · have c9 : ¬ nw ≤ k := fun z => c9 ((nI_leI (a := nw) (b := k) (by omega) (by omega)).mpr z)
        have hkl := kp_le wf wt h k
        refine lv_aload_n hx hb dX4_keepFrom_12 rfl (lv_at hl 2 rfl) ?_
        refine gB4_to hx hb hta hown hK hP wd_2_22 dX4_keepFrom_13 ?_
        refine lv_iload_n hx hb dX4_keepFrom_16 rfl (lv_at hl 0 rfl) ?_
        refine aB_wt hx hb hK hP k rfl (by omega) dX4_keepFrom_17 ?_
        refine lv_iload_n hx hb dX4_keepFrom_18 rfl (lv_at hl 3 rfl) ?_
        refine lv_icmp_le (tgt := 49) hx hb dX4_keepFrom_19 (by decide) (fun c19 => ?_) (fun c19 => ?_)
        · refine lv_iinc (v := nI (k + 1)) (lv' := [(3, Value.int (nI (k + 1))), (2, Value.int (nI ((kp wf wt h k).2.2))), (0, Value.ref (a 2)), (1, Value.int h)]) hx hb dX4_keepFrom_49 hl (k := 0) rfl (nI_add k 1) (by decide) rfl (fun ls hl => ?_)
          refine lv_goto (tgt := 4) hx hb dX4_keepFrom_52 (by decide) ?_
          have eq1_0 : nI ((kp wf wt h k).2.2) = nI ((kp wf wt h (k + 1)).2.2) := by
            first
            | with_reducible rfl
            | rw [kp_t c19]
            | rw [kp_f c19]
          have hl := lv_sub hl [0, 1, 2, 3] rfl
          have hl : lv_has ls 4 [(3, Value.int (nI (k + 1))), (2, Value.int (nI ((kp wf wt h k).2.2))), (0, Value.ref (a 2)), (1, Value.int h)] := hl
          have hl : lv_has ls 4 [(3, Value.int (nI (k + 1))), (2, Value.int (nI ((kp wf wt h (k + 1)).2.2))), (0, Value.ref (a 2)), (1, Value.int h)] := lv_as hl (congrArg (fun z => [(3, Value.int (nI (k + 1))), (2, Value.int z), (0, Value.ref (a 2)), (1, Value.int h)]) eq1_0)
          have ew2_wf : (kp wf wt h k).1 = (kp wf wt h (k + 1)).1 := by
            first
            | with_reducible rfl
            | rw [kp_t c19]
            | rw [kp_f c19]
          have ew2_wf := congrArg (fun z => wB a y cap clr (nI t) hom mov wm tb tf ts (nI nw) z ((kp wf wt h k).2.1) (nI nb) bw bl bi bb (nI no) od ow ol ork ob olf oco pn pb pm pcd pw pli) ew2_wf
          have hP : va_P D vwCl (wB a y cap clr (nI t) hom mov wm tb tf ts (nI nw) ((kp wf wt h (k + 1)).1) ((kp wf wt h k).2.1) (nI nb) bw bl bi bb (nI no) od ow ol ork ob olf oco pn pb pm pcd pw pli) _ := zw_P ew2_wf hP
          have hD : va_D A (wB a y cap clr (nI t) hom mov wm tb tf ts (nI nw) ((kp wf wt h (k + 1)).1) ((kp wf wt h k).2.1) (nI nb) bw bl bi bb (nI no) od ow ol ork ob olf oco pn pb pm pcd pw pli) := zw_D ew2_wf hD
          have ew3_wt : (kp wf wt h k).2.1 = (kp wf wt h (k + 1)).2.1 := by
            first
            | with_reducible rfl
            | rw [kp_t c19]
            | rw [kp_f c19]
          have ew3_wt := congrArg (fun z => wB a y cap clr (nI t) hom mov wm tb tf ts (nI nw) ((kp wf wt h (k + 1)).1) z (nI nb) bw bl bi bb (nI no) od ow ol ork ob olf oco pn pb pm pcd pw pli) ew3_wt
          have hP : va_P D vwCl (wB a y cap clr (nI t) hom mov wm tb tf ts (nI nw) ((kp wf wt h (k + 1)).1) ((kp wf wt h (k + 1)).2.1) (nI nb) bw bl bi bb (nI no) od ow ol ork ob olf oco pn pb pm pcd pw pli) _ := zw_P ew3_wt hP
          have hD : va_D A (wB a y cap clr (nI t) hom mov wm tb tf ts (nI nw) ((kp wf wt h (k + 1)).1) ((kp wf wt h (k + 1)).2.1) (nI nb) bw bl bi bb (nI no) od ow ol ork ob olf oco pn pb pm pcd pw pli) := zw_D ew3_wt hD
          exact ih4 (k + 1) (by omega) (by omega) _ _ _ hP hD hS hl
        · refine lv_aload_n hx hb dX4_keepFrom_22 rfl (lv_at hl 2 rfl) ?_
          refine gB4_from hx hb hta hown hK hP wd_2_21 dX4_keepFrom_23 ?_
          refine lv_iload_n hx hb dX4_keepFrom_26 rfl (lv_at hl 1 rfl) ?_
          refine lv_aload_n hx hb dX4_keepFrom_27 rfl (lv_at hl 2 rfl) ?_
          refine gB4_from hx hb hta hown hK hP wd_2_21 dX4_keepFrom_28 ?_
          refine lv_iload_n hx hb dX4_keepFrom_31 rfl (lv_at hl 0 rfl) ?_
          refine aB_wf hx hb hK hP k rfl (by omega) dX4_keepFrom_32 ?_
          refine sB_wf hx hb hK hP hD hS ((kp wf wt h k).2.2) rfl (by omega) dX4_keepFrom_33 (fun H locs hP hD hS => ?_)
          refine lv_aload_n hx hb dX4_keepFrom_34 rfl (lv_at hl 2 rfl) ?_
          refine gB4_to hx hb hta hown hK hP wd_2_22 dX4_keepFrom_35 ?_
          refine lv_iload_n hx hb dX4_keepFrom_38 rfl (lv_at hl 1 rfl) ?_
          refine lv_aload_n hx hb dX4_keepFrom_39 rfl (lv_at hl 2 rfl) ?_
          refine gB4_to hx hb hta hown hK hP wd_2_22 dX4_keepFrom_40 ?_
          refine lv_iload_n hx hb dX4_keepFrom_43 rfl (lv_at hl 0 rfl) ?_
          refine aB_wt hx hb hK hP k rfl (by omega) dX4_keepFrom_44 ?_
          refine sB_wt hx hb hK hP hD hS ((kp wf wt h k).2.2) rfl (by omega) dX4_keepFrom_45 (fun H locs hP hD hS => ?_)
          refine lv_iinc (v := nI (((kp wf wt h k).2.2) + 1)) (lv' := [(2, Value.int (nI (((kp wf wt h k).2.2) + 1))), (3, Value.int (nI k)), (0, Value.ref (a 2)), (1, Value.int h)]) hx hb dX4_keepFrom_46 hl (k := 1) rfl (nI_add ((kp wf wt h k).2.2) 1) (by decide) rfl (fun ls hl => ?_)
          refine lv_iinc (v := nI (k + 1)) (lv' := [(3, Value.int (nI (k + 1))), (2, Value.int (nI (((kp wf wt h k).2.2) + 1))), (0, Value.ref (a 2)), (1, Value.int h)]) hx hb dX4_keepFrom_49 hl (k := 1) rfl (nI_add k 1) (by decide) rfl (fun ls hl => ?_)
          refine lv_goto (tgt := 4) hx hb dX4_keepFrom_52 (by decide) ?_
          have eq4_0 : nI (((kp wf wt h k).2.2) + 1) = nI ((kp wf wt h (k + 1)).2.2) := by
            first
            | with_reducible rfl
            | rw [kp_t c19]
            | rw [kp_f c19]
          have hl := lv_sub hl [0, 1, 2, 3] rfl
          have hl : lv_has ls 4 [(3, Value.int (nI (k + 1))), (2, Value.int (nI (((kp wf wt h k).2.2) + 1))), (0, Value.ref (a 2)), (1, Value.int h)] := hl
          have hl : lv_has ls 4 [(3, Value.int (nI (k + 1))), (2, Value.int (nI ((kp wf wt h (k + 1)).2.2))), (0, Value.ref (a 2)), (1, Value.int h)] := lv_as hl (congrArg (fun z => [(3, Value.int (nI (k + 1))), (2, Value.int z), (0, Value.ref (a 2)), (1, Value.int h)]) eq4_0)
          have ew5_wf : upd ((kp wf wt h k).1) ((kp wf wt h k).2.2) (((kp wf wt h k).1) k) = (kp wf wt h (k + 1)).1 := by
            first
            | with_reducible rfl
            | rw [kp_t c19]
            | rw [kp_f c19]
          have ew5_wf := congrArg (fun z => wB a y cap clr (nI t) hom mov wm tb tf ts (nI nw) z (upd ((kp wf wt h k).2.1) ((kp wf wt h k).2.2) (((kp wf wt h k).2.1) k)) (nI nb) bw bl bi bb (nI no) od ow ol ork ob olf oco pn pb pm pcd pw pli) ew5_wf
          have hP : va_P D vwCl (wB a y cap clr (nI t) hom mov wm tb tf ts (nI nw) ((kp wf wt h (k + 1)).1) (upd ((kp wf wt h k).2.1) ((kp wf wt h k).2.2) (((kp wf wt h k).2.1) k)) (nI nb) bw bl bi bb (nI no) od ow ol ork ob olf oco pn pb pm pcd pw pli) _ := zw_P ew5_wf hP
          have hD : va_D A (wB a y cap clr (nI t) hom mov wm tb tf ts (nI nw) ((kp wf wt h (k + 1)).1) (upd ((kp wf wt h k).2.1) ((kp wf wt h k).2.2) (((kp wf wt h k).2.1) k)) (nI nb) bw bl bi bb (nI no) od ow ol ork ob olf oco pn pb pm pcd pw pli) := zw_D ew5_wf hD
          have ew6_wt : upd ((kp wf wt h k).2.1) ((kp wf wt h k).2.2) (((kp wf wt h k).2.1) k) = (kp wf wt h (k + 1)).2.1 := by
            first
            | with_reducible rfl
            | rw [kp_t c19]
            | rw [kp_f c19]
          have ew6_wt := congrArg (fun z => wB a y cap clr (nI t) hom mov wm tb tf ts (nI nw) ((kp wf wt h (k + 1)).1) z (nI nb) bw bl bi bb (nI no) od ow ol ork ob olf oco pn pb pm pcd pw pli) ew6_wt
          have hP : va_P D vwCl (wB a y cap clr (nI t) hom mov wm tb tf ts (nI nw) ((kp wf wt h (k + 1)).1) ((kp wf wt h (k + 1)).2.1) (nI nb) bw bl bi bb (nI no) od ow ol ork ob olf oco pn pb pm pcd pw pli) _ := zw_P ew6_wt hP
          have hD : va_D A (wB a y cap clr (nI t) hom mov wm tb tf ts (nI nw) ((kp wf wt h (k + 1)).1) ((kp wf wt h (k + 1)).2.1) (nI nb) bw bl bi bb (nI no) od ow ol ork ob olf oco pn pb pm pcd pw pli) := zw_D ew6_wt hD
          exact ih4 (k + 1) (by omega) (by omega) _ _ _ hP hD hS hl
  have eq7_0 : (0 : Int32) = nI 0 := by
    rfl
  have eq8_1 : (0 : Int32) = nI ((kp wf wt h 0).2.2) := by
    rfl
  have hl := lv_sub hl [0, 1, 2, 3] rfl
  have hl : lv_has ls 4 [(3, Value.int (0 : Int32)), (2, Value.int (0 : Int32)), (0, Value.ref (a 2)), (1, Value.int h)] := hl
  have hl : lv_has ls 4 [(3, Value.int (nI 0)), (2, Value.int (0 : Int32)), (0, Value.ref (a 2)), (1, Value.int h)] := lv_as hl (congrArg (fun z => [(3, Value.int z), (2, Value.int (0 : Int32)), (0, Value.ref (a 2)), (1, Value.int h)]) eq7_0)
  have hl : lv_has ls 4 [(3, Value.int (nI 0)), (2, Value.int (nI ((kp wf wt h 0).2.2))), (0, Value.ref (a 2)), (1, Value.int h)] := lv_as hl (congrArg (fun z => [(3, Value.int (nI 0)), (2, Value.int z), (0, Value.ref (a 2)), (1, Value.int h)]) eq8_1)
  have ew9_wf : wf = (kp wf wt h 0).1 := by
    rfl
  have ew9_wf := congrArg (fun z => wB a y cap clr (nI t) hom mov wm tb tf ts (nI nw) z wt (nI nb) bw bl bi bb (nI no) od ow ol ork ob olf oco pn pb pm pcd pw pli) ew9_wf
  have hP : va_P D vwCl (wB a y cap clr (nI t) hom mov wm tb tf ts (nI nw) ((kp wf wt h 0).1) wt (nI nb) bw bl bi bb (nI no) od ow ol ork ob olf oco pn pb pm pcd pw pli) _ := zw_P ew9_wf hP
  have hD : va_D A (wB a y cap clr (nI t) hom mov wm tb tf ts (nI nw) ((kp wf wt h 0).1) wt (nI nb) bw bl bi bb (nI no) od ow ol ork ob olf oco pn pb pm pcd pw pli) := zw_D ew9_wf hD
  have ew10_wt : wt = (kp wf wt h 0).2.1 := by
    rfl
  have ew10_wt := congrArg (fun z => wB a y cap clr (nI t) hom mov wm tb tf ts (nI nw) ((kp wf wt h 0).1) z (nI nb) bw bl bi bb (nI no) od ow ol ork ob olf oco pn pb pm pcd pw pli) ew10_wt
  have hP : va_P D vwCl (wB a y cap clr (nI t) hom mov wm tb tf ts (nI nw) ((kp wf wt h 0).1) ((kp wf wt h 0).2.1) (nI nb) bw bl bi bb (nI no) od ow ol ork ob olf oco pn pb pm pcd pw pli) _ := zw_P ew10_wt hP
  have hD : va_D A (wB a y cap clr (nI t) hom mov wm tb tf ts (nI nw) ((kp wf wt h 0).1) ((kp wf wt h 0).2.1) (nI nb) bw bl bi bb (nI no) od ow ol ork ob olf oco pn pb pm pcd pw pli) := zw_D ew10_wt hD
  exact LP4 (nw - 0 + 1) 0 (by omega) (Nat.lt_succ_self _) _ _ _ hP hD hS hl
set_option maxHeartbeats 800000 in
set_option maxRecDepth 100000 in
theorem c_X0_append (l : Launch) (D : va_G) (y : Nat → ClassId) (a : Nat → Nat) (cap clr : Int32) (t : Nat) (hom mov : Int32) (wm : Int64) (tb tf ts : Int32) (nw : Nat) (wf wt : Nat → Int32) (nb : Nat) (bw bl bi bb : Nat → Int32) (no : Nat) (od ow ol ork ob olf oco : Nat → Int32) (pn pb pm : Int32) (pcd pw pli : Nat → Int32) (fr : Int32) (g : Int32) (h : Int32) (hb6 : nb < 6) : zP l D y yX0_append cX0_append 5 (some .int) 1 0 0 21 [Value.ref (a 3), Value.int fr, Value.int g, Value.int h] (wB a y cap clr (nI t) hom mov wm tb tf ts (nI nw) wf wt (nI nb) bw bl bi bb (nI no) od ow ol ork ob olf oco pn pb pm pcd pw pli) (fun o9 w9 => o9 = some (Value.int (nI nb)) ∧ w9 = wB a y cap clr (nI t) hom mov wm tb tf ts (nI nw) wf wt (nI (nb + 1)) (upd bw nb g) (upd bl nb h) (upd bi nb (biF bi nb fr)) (upd bb nb (-1 : Int32)) (nI no) od ow ol ork ob olf oco pn pb pm pcd pw pli) := by
  refine zP.of (by decide +kernel) (Nat.le_of_ble_eq_true rfl) ?_
  intro p e s m args below meth c A ls hx hb hr hta hown hlocks hml hin hN hK hP hD hS hA hl
  refine z_gen (fun G hG => ?_)
  have hl : lv_has ls 5 [(0, Value.ref (a 3)), (1, Value.int fr), (2, Value.int g), (3, Value.int h)] := hl
  refine lv_aload_n hx hb dX0_append_0 rfl (lv_at hl 0 rfl) ?_
  refine gB0_count hx hb hta hown hK hP wd_3_7 dX0_append_1 ?_
  refine lv_istore (lv' := [(4, Value.int (nI nb)), (0, Value.ref (a 3)), (1, Value.int fr), (2, Value.int g), (3, Value.int h)]) hx hb dX0_append_4 hl (by decide) rfl (fun ls hl => ?_)
  refine lv_iload hx hb dX0_append_6 (lv_at hl 0 rfl) ?_
  refine lv_bipush (v := (6 : Int32)) hx hb dX0_append_8 (by decide) ?_
  refine lv_icmp_ge (tgt := 76) hx hb dX0_append_10 (by decide) (fun c10 => ?_) (fun c10 => ?_)
  · have c10 : 6 ≤ nb := (nI_leI (a := 6) (b := nb) (by omega) (by omega)).mp c10
    exact absurd c10 (by omega)
  · have c10 : ¬ 6 ≤ nb := fun z => c10 ((nI_leI (a := 6) (b := nb) (by omega) (by omega)).mpr z)
    refine lv_aload_n hx hb dX0_append_13 rfl (lv_at hl 1 rfl) ?_
    refine gB0_weight hx hb hta hown hK hP wd_3_3 dX0_append_14 ?_
    refine lv_iload hx hb dX0_append_17 (lv_at hl 0 rfl) ?_
    refine lv_iload_n hx hb dX0_append_19 rfl (lv_at hl 3 rfl) ?_
    refine sB_bw hx hb hK hP hD hS nb rfl (by omega) dX0_append_20 (fun H locs hP hD hS => ?_)
    refine lv_aload_n hx hb dX0_append_21 rfl (lv_at hl 1 rfl) ?_
    refine gB0_length hx hb hta hown hK hP wd_3_4 dX0_append_22 ?_
    refine lv_iload hx hb dX0_append_25 (lv_at hl 0 rfl) ?_
    refine lv_iload_n hx hb dX0_append_27 rfl (lv_at hl 4 rfl) ?_
    refine sB_bl hx hb hK hP hD hS nb rfl (by omega) dX0_append_28 (fun H locs hP hD hS => ?_)
    refine lv_aload_n hx hb dX0_append_29 rfl (lv_at hl 1 rfl) ?_
    refine gB0_inFront hx hb hta hown hK hP wd_3_5 dX0_append_30 ?_
    refine lv_iload hx hb dX0_append_33 (lv_at hl 0 rfl) ?_
    refine lv_aload_n hx hb dX0_append_35 rfl (lv_at hl 1 rfl) ?_
    refine lv_iload_n hx hb dX0_append_36 rfl (lv_at hl 2 rfl) ?_
    refine z_callV (As := [Value.int fr]) (rest := [Value.int (nI nb), Value.ref (a 10)]) hx hb hml hown hta zm_X0_has wd_5_19 (c_X0_has l D y a cap clr t hom mov wm tb tf ts nw wf wt nb (upd bw nb g) (upd bl nb h) bi bb no od ow ol ork ob olf oco pn pb pm pcd pw pli fr (by omega)) hN hK hP hD hS hA 3 rfl rfl rfl hl rfl (Nat.le_of_ble_eq_true rfl) ⟨Nat.le_of_ble_eq_true rfl, Nat.le_of_ble_eq_true rfl⟩ ⟨Nat.le_of_ble_eq_true rfl, Nat.le_of_ble_eq_true rfl⟩ dX0_append_37 (fun v w' H locs hq hP hD hS => ?_)
    obtain ⟨rfl, rfl⟩ := hq
    refine lv_if_eq (tgt := 56) hx hb dX0_append_40 (by decide) (fun c40 => ?_) (fun c40 => ?_)
    · have c40 := bI_0 c40
      refine lv_iconst (v := (0 : Int32)) hx hb dX0_append_56 (by decide) ?_
      refine zr_top (y := biF bi nb fr) (by first | (rw [biF, if_pos c40, ej, nI_clamp (by omega)]) | (rw [biF, c40]; rfl)) ?_
      refine sB_bi hx hb hK hP hD hS nb rfl (by omega) dX0_append_57 (fun H locs hP hD hS => ?_)
      refine lv_aload_n hx hb dX0_append_58 rfl (lv_at hl 1 rfl) ?_
      refine gB0_boat hx hb hta hown hK hP wd_3_6 dX0_append_59 ?_
      refine lv_iload hx hb dX0_append_62 (lv_at hl 0 rfl) ?_
      refine lv_iconst (v := (-1 : Int32)) hx hb dX0_append_64 (by decide) ?_
      refine sB_bb hx hb hK hP hD hS nb rfl (by omega) dX0_append_65 (fun H locs hP hD hS => ?_)
      refine lv_aload_n hx hb dX0_append_66 rfl (lv_at hl 1 rfl) ?_
      refine lv_dup hx hb dX0_append_67 rfl ?_
      refine gB0_count hx hb hta hown hK hP wd_3_7 dX0_append_68 ?_
      refine lv_iconst (v := (1 : Int32)) hx hb dX0_append_71 (by decide) ?_
      refine lv_iadd hx hb dX0_append_72 ?_
      refine zr_top (y := nI (nb + 1)) (nI_add nb 1) ?_
      refine pB0_count hx hb hta hown hK hP hD hS wd_3_7 dX0_append_73 (fun H locs hP hD hS => ?_)
      refine lv_iload hx hb dX0_append_76 (lv_at hl 0 rfl) ?_
      refine z_iret hG hx hb hr hlocks hP hD hS (Nat.le_of_ble_eq_true rfl) (Nat.le_of_ble_eq_true rfl) dX0_append_78 ?_
      refine zqi ?_
      rfl
    · have c40 := bI_1 c40
      obtain ⟨j, hj, ej⟩ := (inB_iff (by omega)).mp c40
      refine lv_aload_n hx hb dX0_append_43 rfl (lv_at hl 1 rfl) ?_
      refine gB0_inFront hx hb hta hown hK hP wd_3_5 dX0_append_44 ?_
      refine lv_iload_n hx hb dX0_append_47 rfl (lv_at hl 2 rfl) ?_
      refine aB_bi hx hb hK hP j ej (by omega) dX0_append_48 ?_
      refine lv_iconst (v := (1 : Int32)) hx hb dX0_append_49 (by decide) ?_
      refine lv_iload_n hx hb dX0_append_50 rfl (lv_at hl 2 rfl) ?_
      refine lv_ishl hx hb dX0_append_51 ?_
      refine lv_ior hx hb dX0_append_52 ?_
      refine lv_goto (tgt := 57) hx hb dX0_append_53 (by decide) ?_
      refine zr_top (y := biF bi nb fr) (by first | (rw [biF, if_pos c40, ej, nI_clamp (by omega)]) | (rw [biF, c40]; rfl)) ?_
      refine sB_bi hx hb hK hP hD hS nb rfl (by omega) dX0_append_57 (fun H locs hP hD hS => ?_)
      refine lv_aload_n hx hb dX0_append_58 rfl (lv_at hl 1 rfl) ?_
      refine gB0_boat hx hb hta hown hK hP wd_3_6 dX0_append_59 ?_
      refine lv_iload hx hb dX0_append_62 (lv_at hl 0 rfl) ?_
      refine lv_iconst (v := (-1 : Int32)) hx hb dX0_append_64 (by decide) ?_
      refine sB_bb hx hb hK hP hD hS nb rfl (by omega) dX0_append_65 (fun H locs hP hD hS => ?_)
      refine lv_aload_n hx hb dX0_append_66 rfl (lv_at hl 1 rfl) ?_
      refine lv_dup hx hb dX0_append_67 rfl ?_
      refine gB0_count hx hb hta hown hK hP wd_3_7 dX0_append_68 ?_
      refine lv_iconst (v := (1 : Int32)) hx hb dX0_append_71 (by decide) ?_
      refine lv_iadd hx hb dX0_append_72 ?_
      refine zr_top (y := nI (nb + 1)) (nI_add nb 1) ?_
      refine pB0_count hx hb hta hown hK hP hD hS wd_3_7 dX0_append_73 (fun H locs hP hD hS => ?_)
      refine lv_iload hx hb dX0_append_76 (lv_at hl 0 rfl) ?_
      refine z_iret hG hx hb hr hlocks hP hD hS (Nat.le_of_ble_eq_true rfl) (Nat.le_of_ble_eq_true rfl) dX0_append_78 ?_
      refine zqi ?_
      rfl
set_option maxHeartbeats 800000 in
set_option maxRecDepth 100000 in
theorem c_X1_append (l : Launch) (D : va_G) (y : Nat → ClassId) (a : Nat → Nat) (cap clr : Int32) (t : Nat) (hom mov : Int32) (wm : Int64) (tb tf ts : Int32) (nw : Nat) (wf wt : Nat → Int32) (nb : Nat) (bw bl bi bb : Nat → Int32) (no : Nat) (od ow ol ork ob olf oco : Nat → Int32) (pn pb pm : Int32) (pcd pw pli : Nat → Int32) (f : Int32) (g : Int32) (h : Int32) (r : Int32) (hb8 : no < 8) : zP l D y yX1_append cX1_append 6 (some .int) 0 0 0 0 [Value.ref (a 4), Value.int f, Value.int g, Value.int h, Value.int r] (wB a y cap clr (nI t) hom mov wm tb tf ts (nI nw) wf wt (nI nb) bw bl bi bb (nI no) od ow ol ork ob olf oco pn pb pm pcd pw pli) (fun o9 w9 => o9 = some (Value.int (nI no)) ∧ w9 = wB a y cap clr (nI t) hom mov wm tb tf ts (nI nw) wf wt (nI nb) bw bl bi bb (nI (no + 1)) (upd od no f) (upd ow no g) (upd ol no h) (upd ork no r) (upd ob no (-1 : Int32)) olf oco pn pb pm pcd pw pli) := by
  refine zP.of (by decide +kernel) (Nat.le_of_ble_eq_true rfl) ?_
  intro p e s m args below meth c A ls hx hb hr hta hown hlocks hml hin hN hK hP hD hS hA hl
  refine z_gen (fun G hG => ?_)
  have hl : lv_has ls 6 [(0, Value.ref (a 4)), (1, Value.int f), (2, Value.int g), (3, Value.int h), (4, Value.int r)] := hl
  refine lv_aload_n hx hb dX1_append_0 rfl (lv_at hl 0 rfl) ?_
  refine gB1_count hx hb hta hown hK hP wd_3_18 dX1_append_1 ?_
  refine lv_istore (lv' := [(5, Value.int (nI no)), (0, Value.ref (a 4)), (1, Value.int f), (2, Value.int g), (3, Value.int h), (4, Value.int r)]) hx hb dX1_append_4 hl (by decide) rfl (fun ls hl => ?_)
  refine lv_iload hx hb dX1_append_6 (lv_at hl 0 rfl) ?_
  refine lv_bipush (v := (8 : Int32)) hx hb dX1_append_8 (by decide) ?_
  refine lv_icmp_ge (tgt := 64) hx hb dX1_append_10 (by decide) (fun c10 => ?_) (fun c10 => ?_)
  · have c10 : 8 ≤ no := (nI_leI (a := 8) (b := no) (by omega) (by omega)).mp c10
    exact absurd c10 (by omega)
  · have c10 : ¬ 8 ≤ no := fun z => c10 ((nI_leI (a := 8) (b := no) (by omega) (by omega)).mpr z)
    refine lv_aload_n hx hb dX1_append_13 rfl (lv_at hl 1 rfl) ?_
    refine gB1_draught hx hb hta hown hK hP wd_3_11 dX1_append_14 ?_
    refine lv_iload hx hb dX1_append_17 (lv_at hl 0 rfl) ?_
    refine lv_iload_n hx hb dX1_append_19 rfl (lv_at hl 2 rfl) ?_
    refine sB_od hx hb hK hP hD hS no rfl (by omega) dX1_append_20 (fun H locs hP hD hS => ?_)
    refine lv_aload_n hx hb dX1_append_21 rfl (lv_at hl 1 rfl) ?_
    refine gB1_weight hx hb hta hown hK hP wd_3_12 dX1_append_22 ?_
    refine lv_iload hx hb dX1_append_25 (lv_at hl 0 rfl) ?_
    refine lv_iload_n hx hb dX1_append_27 rfl (lv_at hl 3 rfl) ?_
    refine sB_ow hx hb hK hP hD hS no rfl (by omega) dX1_append_28 (fun H locs hP hD hS => ?_)
    refine lv_aload_n hx hb dX1_append_29 rfl (lv_at hl 1 rfl) ?_
    refine gB1_length hx hb hta hown hK hP wd_3_13 dX1_append_30 ?_
    refine lv_iload hx hb dX1_append_33 (lv_at hl 0 rfl) ?_
    refine lv_iload_n hx hb dX1_append_35 rfl (lv_at hl 4 rfl) ?_
    refine sB_ol hx hb hK hP hD hS no rfl (by omega) dX1_append_36 (fun H locs hP hD hS => ?_)
    refine lv_aload_n hx hb dX1_append_37 rfl (lv_at hl 1 rfl) ?_
    refine gB1_rank hx hb hta hown hK hP wd_3_14 dX1_append_38 ?_
    refine lv_iload hx hb dX1_append_41 (lv_at hl 0 rfl) ?_
    refine lv_iload hx hb dX1_append_43 (lv_at hl 5 rfl) ?_
    refine sB_ork hx hb hK hP hD hS no rfl (by omega) dX1_append_45 (fun H locs hP hD hS => ?_)
    refine lv_aload_n hx hb dX1_append_46 rfl (lv_at hl 1 rfl) ?_
    refine gB1_berth hx hb hta hown hK hP wd_3_15 dX1_append_47 ?_
    refine lv_iload hx hb dX1_append_50 (lv_at hl 0 rfl) ?_
    refine lv_iconst (v := (-1 : Int32)) hx hb dX1_append_52 (by decide) ?_
    refine sB_ob hx hb hK hP hD hS no rfl (by omega) dX1_append_53 (fun H locs hP hD hS => ?_)
    refine lv_aload_n hx hb dX1_append_54 rfl (lv_at hl 1 rfl) ?_
    refine lv_dup hx hb dX1_append_55 rfl ?_
    refine gB1_count hx hb hta hown hK hP wd_3_18 dX1_append_56 ?_
    refine lv_iconst (v := (1 : Int32)) hx hb dX1_append_59 (by decide) ?_
    refine lv_iadd hx hb dX1_append_60 ?_
    refine zr_top (y := nI (no + 1)) (nI_add no 1) ?_
    refine pB1_count hx hb hta hown hK hP hD hS wd_3_18 dX1_append_61 (fun H locs hP hD hS => ?_)
    refine lv_iload hx hb dX1_append_64 (lv_at hl 0 rfl) ?_
    refine z_iret hG hx hb hr hlocks hP hD hS (Nat.le_of_ble_eq_true rfl) (Nat.le_of_ble_eq_true rfl) dX1_append_66 ?_
    refine zqi ?_
    rfl
set_option maxHeartbeats 800000 in
set_option maxRecDepth 100000 in
theorem c_X1_dryOneHour (l : Launch) (D : va_G) (y : Nat → ClassId) (a : Nat → Nat) (cap clr : Int32) (t : Nat) (hom mov : Int32) (wm : Int64) (tb tf ts : Int32) (nw : Nat) (wf wt : Nat → Int32) (nb : Nat) (bw bl bi bb : Nat → Int32) (no : Nat) (od ow ol ork ob olf oco : Nat → Int32) (pn pb pm : Int32) (pcd pw pli : Nat → Int32)  (hb8 : no ≤ 8) : zP l D y yX1_dryOneHour cX1_dryOneHour 2 none 0 0 0 0 [Value.ref (a 4)] (wB a y cap clr (nI t) hom mov wm tb tf ts (nI nw) wf wt (nI nb) bw bl bi bb (nI no) od ow ol ork ob olf oco pn pb pm pcd pw pli) (fun o9 w9 => o9 = none ∧ w9 = wB a y cap clr (nI t) hom mov wm tb tf ts (nI nw) wf wt (nI nb) bw bl bi bb (nI no) od ow ol ork ob (dry1 olf no) oco pn pb pm pcd pw pli) := by
  refine zP.of (by decide +kernel) (Nat.le_of_ble_eq_true rfl) ?_
  intro p e s m args below meth c A ls hx hb hr hta hown hlocks hml hin hN hK hP hD hS hA hl
  refine z_gen (fun G hG => ?_)
  have hl : lv_has ls 2 [(0, Value.ref (a 4))] := hl
  refine lv_iconst (v := (0 : Int32)) hx hb dX1_dryOneHour_0 (by decide) ?_
  refine lv_istore_n (lv' := [(1, Value.int (0 : Int32)), (0, Value.ref (a 4))]) hx hb dX1_dryOneHour_1 rfl hl (by decide) rfl (fun ls hl => ?_)
  have LP2 : ∀ (n : Nat) (k : Nat), (k ≤ no) → no - k < n → ∀ (H : Heap) (locs : List Loc) (ls : Array Slot), va_P D vwCl (wB a y cap clr (nI t) hom mov wm tb tf ts (nI nw) wf wt (nI nb) bw bl bi bb (nI no) od ow ol ork ob (dry1 olf k) oco pn pb pm pcd pw pli) H → va_D A (wB a y cap clr (nI t) hom mov wm tb tf ts (nI nw) wf wt (nI nb) bw bl bi bb (nI no) od ow ol ork ob (dry1 olf k) oco pn pb pm pcd pw pli) → va_S A s.heap H locs → lv_has ls 2 [(1, Value.int (nI k)), (0, Value.ref (a 4))] → W p l e ({ frames := 0, cells := 0, slots := 0, locals := 0 } : Room) s m args below meth c H locs 0 0 G (F0 m 2 ls []) := by
    intro n
    induction n with
    | zero => intro k hk hn; exact absurd hn (Nat.not_lt_zero _)
    | succ n ih2 =>
      intro k hk hn H locs ls hP hD hS hl
      refine lv_iload_n hx hb dX1_dryOneHour_2 rfl (lv_at hl 0 rfl) ?_
      refine lv_aload_n hx hb dX1_dryOneHour_3 rfl (lv_at hl 1 rfl) ?_
      refine gB1_count hx hb hta hown hK hP wd_3_18 dX1_dryOneHour_4 ?_
      refine lv_icmp_ge (tgt := 35) hx hb dX1_dryOneHour_7 (by decide) (fun c7 => ?_) (fun c7 => ?_)
      · have c7 : no ≤ k := (nI_leI (a := no) (b := k) (by omega) (by omega)).mp c7
        refine z_vret hG hx hb hr hlocks hP hD hS (Nat.le_of_ble_eq_true rfl) (Nat.le_of_ble_eq_true rfl) dX1_dryOneHour_35 ?_
        obtain rfl : k = no := by omega
        exact ⟨rfl, rfl⟩
      · have c7 : ¬ no ≤ k := fun z => c7 ((nI_leI (a := no) (b := k) (by omega) (by omega)).mpr z)
        refine lv_aload_n hx hb dX1_dryOneHour_10 rfl (lv_at hl 1 rfl) ?_
        refine gB1_left hx hb hta hown hK hP wd_3_16 dX1_dryOneHour_11 ?_
        refine lv_iload_n hx hb dX1_dryOneHour_14 rfl (lv_at hl 0 rfl) ?_
        refine aB_olf hx hb hK hP k rfl (by omega) dX1_dryOneHour_15 ?_
        refine lv_if_le (tgt := 29) hx hb dX1_dryOneHour_16 (by decide) (fun c16 => ?_) (fun c16 => ?_)
        · refine lv_iinc (v := nI (k + 1)) (lv' := [(1, Value.int (nI (k + 1))), (0, Value.ref (a 4))]) hx hb dX1_dryOneHour_29 hl (k := 0) rfl (nI_add k 1) (by decide) rfl (fun ls hl => ?_)
          refine lv_goto (tgt := 2) hx hb dX1_dryOneHour_32 (by decide) ?_
          have hl := lv_sub hl [0, 1] rfl
          have ew1_olf : dry1 olf k = dry1 olf (k + 1) := by
            first
            | with_reducible rfl
            | rw [dry1, if_pos c16]
            | rw [dry1, if_neg c16]
          have ew1_olf := congrArg (fun z => wB a y cap clr (nI t) hom mov wm tb tf ts (nI nw) wf wt (nI nb) bw bl bi bb (nI no) od ow ol ork ob z oco pn pb pm pcd pw pli) ew1_olf
          have hP : va_P D vwCl (wB a y cap clr (nI t) hom mov wm tb tf ts (nI nw) wf wt (nI nb) bw bl bi bb (nI no) od ow ol ork ob (dry1 olf (k + 1)) oco pn pb pm pcd pw pli) _ := zw_P ew1_olf hP
          have hD : va_D A (wB a y cap clr (nI t) hom mov wm tb tf ts (nI nw) wf wt (nI nb) bw bl bi bb (nI no) od ow ol ork ob (dry1 olf (k + 1)) oco pn pb pm pcd pw pli) := zw_D ew1_olf hD
          exact ih2 (k + 1) (by omega) (by omega) _ _ _ hP hD hS hl
        · refine lv_aload_n hx hb dX1_dryOneHour_19 rfl (lv_at hl 1 rfl) ?_
          refine gB1_left hx hb hta hown hK hP wd_3_16 dX1_dryOneHour_20 ?_
          refine lv_iload_n hx hb dX1_dryOneHour_23 rfl (lv_at hl 0 rfl) ?_
          refine lv_dup2_11 hx hb dX1_dryOneHour_24 rfl rfl ?_
          refine aB_olf hx hb hK hP k rfl (by omega) dX1_dryOneHour_25 ?_
          refine lv_iconst (v := (1 : Int32)) hx hb dX1_dryOneHour_26 (by decide) ?_
          refine lv_isub hx hb dX1_dryOneHour_27 ?_
          refine sB_olf hx hb hK hP hD hS k rfl (by omega) dX1_dryOneHour_28 (fun H locs hP hD hS => ?_)
          refine lv_iinc (v := nI (k + 1)) (lv' := [(1, Value.int (nI (k + 1))), (0, Value.ref (a 4))]) hx hb dX1_dryOneHour_29 hl (k := 0) rfl (nI_add k 1) (by decide) rfl (fun ls hl => ?_)
          refine lv_goto (tgt := 2) hx hb dX1_dryOneHour_32 (by decide) ?_
          have hl := lv_sub hl [0, 1] rfl
          have ew2_olf : upd (dry1 olf k) k (((dry1 olf k) k) - (1 : Int32)) = dry1 olf (k + 1) := by
            first
            | with_reducible rfl
            | rw [dry1, if_pos c16]
            | rw [dry1, if_neg c16]
          have ew2_olf := congrArg (fun z => wB a y cap clr (nI t) hom mov wm tb tf ts (nI nw) wf wt (nI nb) bw bl bi bb (nI no) od ow ol ork ob z oco pn pb pm pcd pw pli) ew2_olf
          have hP : va_P D vwCl (wB a y cap clr (nI t) hom mov wm tb tf ts (nI nw) wf wt (nI nb) bw bl bi bb (nI no) od ow ol ork ob (dry1 olf (k + 1)) oco pn pb pm pcd pw pli) _ := zw_P ew2_olf hP
          have hD : va_D A (wB a y cap clr (nI t) hom mov wm tb tf ts (nI nw) wf wt (nI nb) bw bl bi bb (nI no) od ow ol ork ob (dry1 olf (k + 1)) oco pn pb pm pcd pw pli) := zw_D ew2_olf hD
          exact ih2 (k + 1) (by omega) (by omega) _ _ _ hP hD hS hl
  have eq3_0 : (0 : Int32) = nI 0 := by
    rfl
  have hl := lv_sub hl [0, 1] rfl
  have hl : lv_has ls 2 [(1, Value.int (0 : Int32)), (0, Value.ref (a 4))] := hl
  have hl : lv_has ls 2 [(1, Value.int (nI 0)), (0, Value.ref (a 4))] := lv_as hl (congrArg (fun z => [(1, Value.int z), (0, Value.ref (a 4))]) eq3_0)
  have ew4_olf : olf = dry1 olf 0 := by
    rfl
  have ew4_olf := congrArg (fun z => wB a y cap clr (nI t) hom mov wm tb tf ts (nI nw) wf wt (nI nb) bw bl bi bb (nI no) od ow ol ork ob z oco pn pb pm pcd pw pli) ew4_olf
  have hP : va_P D vwCl (wB a y cap clr (nI t) hom mov wm tb tf ts (nI nw) wf wt (nI nb) bw bl bi bb (nI no) od ow ol ork ob (dry1 olf 0) oco pn pb pm pcd pw pli) _ := zw_P ew4_olf hP
  have hD : va_D A (wB a y cap clr (nI t) hom mov wm tb tf ts (nI nw) wf wt (nI nb) bw bl bi bb (nI no) od ow ol ork ob (dry1 olf 0) oco pn pb pm pcd pw pli) := zw_D ew4_olf hD
  exact LP2 (no - 0 + 1) 0 (by omega) (Nat.lt_succ_self _) _ _ _ hP hD hS hl
