set_option maxHeartbeats 800000 in
set_option maxRecDepth 100000 in
theorem c_X2_put (l : Launch) (D : va_G) (y : Nat → ClassId) (a : Nat → Nat) (cap clr : Int32) (t : Nat) (hom mov : Int32) (wm : Int64) (tb tf ts : Int32) (nw : Nat) (wf wt : Nat → Int32) (nb : Nat) (bw bl bi bb : Nat → Int32) (no : Nat) (od ow ol ork ob olf oco : Nat → Int32) (pn pb pm : Int32) (pcd pw pli : Nat → Int32) (i : Int32) (j : Nat) (v : Int32)  : zP l D y yX2_put cX2_put 3 (some .int) 0 0 0 0 [Value.int i, Value.int (nI j), Value.int v] (wB a y cap clr (nI t) hom mov wm tb tf ts (nI nw) wf wt (nI nb) bw bl bi bb (nI no) od ow ol ork ob olf oco pn pb pm pcd pw pli) (fun o9 w9 => o9 = some (Value.int (putE i j v)) ∧ w9 = wB a y cap clr (nI t) hom mov wm tb tf ts (nI nw) wf wt (nI nb) bw bl bi bb (nI no) od ow ol ork ob olf oco pn pb pm pcd pw pli) := by
  refine zP.of (by decide +kernel) (Nat.le_of_ble_eq_true rfl) ?_
  intro p e s m args below meth c A ls hx hb hr hta hown hlocks hml hin hN hK hP hD hS hA hl
  refine z_gen (fun G hG => ?_)
  have hl : lv_has ls 3 [(0, Value.int i), (1, Value.int (nI j)), (2, Value.int v)] := hl
  refine lv_iload_n hx hb dX2_put_0 rfl (lv_at hl 0 rfl) ?_
  refine lv_bipush (v := (7 : Int32)) hx hb dX2_put_1 (by decide) ?_
  refine lv_iconst (v := (3 : Int32)) hx hb dX2_put_3 (by decide) ?_
  refine lv_iload_n hx hb dX2_put_4 rfl (lv_at hl 1 rfl) ?_
  refine lv_imul hx hb dX2_put_5 ?_
  refine lv_ishl hx hb dX2_put_6 ?_
  refine lv_iconst (v := (-1 : Int32)) hx hb dX2_put_7 (by decide) ?_
  refine lv_ixor hx hb dX2_put_8 ?_
  refine lv_iand hx hb dX2_put_9 ?_
  refine lv_iload_n hx hb dX2_put_10 rfl (lv_at hl 2 rfl) ?_
  refine lv_iconst (v := (3 : Int32)) hx hb dX2_put_11 (by decide) ?_
  refine lv_iload_n hx hb dX2_put_12 rfl (lv_at hl 1 rfl) ?_
  refine lv_imul hx hb dX2_put_13 ?_
  refine lv_ishl hx hb dX2_put_14 ?_
  refine lv_ior hx hb dX2_put_15 ?_
  refine z_iret hG hx hb hr hlocks hP hD hS (Nat.le_of_ble_eq_true rfl) (Nat.le_of_ble_eq_true rfl) dX2_put_16 ?_
  refine zqi ?_
  rfl
set_option maxHeartbeats 800000 in
set_option maxRecDepth 100000 in
theorem c_X2_berthAt (l : Launch) (D : va_G) (y : Nat → ClassId) (a : Nat → Nat) (cap clr : Int32) (t : Nat) (hom mov : Int32) (wm : Int64) (tb tf ts : Int32) (nw : Nat) (wf wt : Nat → Int32) (nb : Nat) (bw bl bi bb : Nat → Int32) (no : Nat) (od ow ol ork ob olf oco : Nat → Int32) (pn pb pm : Int32) (pcd pw pli : Nat → Int32) (i : Int32) (j : Nat)  : zP l D y yX2_berthAt cX2_berthAt 2 (some .int) 0 0 0 0 [Value.int i, Value.int (nI j)] (wB a y cap clr (nI t) hom mov wm tb tf ts (nI nw) wf wt (nI nb) bw bl bi bb (nI no) od ow ol ork ob olf oco pn pb pm pcd pw pli) (fun o9 w9 => o9 = some (Value.int (atE i j)) ∧ w9 = wB a y cap clr (nI t) hom mov wm tb tf ts (nI nw) wf wt (nI nb) bw bl bi bb (nI no) od ow ol ork ob olf oco pn pb pm pcd pw pli) := by
  refine zP.of (by decide +kernel) (Nat.le_of_ble_eq_true rfl) ?_
  intro p e s m args below meth c A ls hx hb hr hta hown hlocks hml hin hN hK hP hD hS hA hl
  refine z_gen (fun G hG => ?_)
  have hl : lv_has ls 2 [(0, Value.int i), (1, Value.int (nI j))] := hl
  refine lv_iload_n hx hb dX2_berthAt_0 rfl (lv_at hl 0 rfl) ?_
  refine lv_iconst (v := (3 : Int32)) hx hb dX2_berthAt_1 (by decide) ?_
  refine lv_iload_n hx hb dX2_berthAt_2 rfl (lv_at hl 1 rfl) ?_
  refine lv_imul hx hb dX2_berthAt_3 ?_
  refine lv_ishr hx hb dX2_berthAt_4 ?_
  refine lv_bipush (v := (7 : Int32)) hx hb dX2_berthAt_5 (by decide) ?_
  refine lv_iand hx hb dX2_berthAt_7 ?_
  refine z_iret hG hx hb hr hlocks hP hD hS (Nat.le_of_ble_eq_true rfl) (Nat.le_of_ble_eq_true rfl) dX2_berthAt_8 ?_
  refine zqi ?_
  rfl
set_option maxHeartbeats 800000 in
set_option maxRecDepth 100000 in
theorem c_J7_fill_53178 (l : Launch) (D : va_G) (y : Nat → ClassId) (a : Nat → Nat) (cap clr : Int32) (t : Nat) (hom mov : Int32) (wm : Int64) (tb tf ts : Int32) (nw : Nat) (wf wt : Nat → Int32) (nb : Nat) (bw bl bi bb : Nat → Int32) (no : Nat) (od ow ol ork ob olf oco : Nat → Int32) (pn pb pm : Int32) (pcd pw pli : Nat → Int32) (v : Int32)  : zP l D y yJ7_fill_53178 cJ7_fill_53178 4 none 0 0 0 0 [Value.ref (a 20), Value.int v] (wB a y cap clr (nI t) hom mov wm tb tf ts (nI nw) wf wt (nI nb) bw bl bi bb (nI no) od ow ol ork ob olf oco pn pb pm pcd pw pli) (fun o9 w9 => o9 = none ∧ w9 = wB a y cap clr (nI t) hom mov wm tb tf ts (nI nw) wf wt (nI nb) bw bl bi bb (nI no) od ow ol ork ob olf oco pn pb pm pcd (fun j => if j < 720 then v else pw j) pli) := by
  refine zP.of (by decide +kernel) (Nat.le_of_ble_eq_true rfl) ?_
  intro p e s m args below meth c A ls hx hb hr hta hown hlocks hml hin hN hK hP hD hS hA hl
  refine z_gen (fun G hG => ?_)
  have hl : lv_has ls 4 [(0, Value.ref (a 20)), (1, Value.int v)] := hl
  refine lv_iconst (v := (0 : Int32)) hx hb dJ7_fill_53178_0 (by decide) ?_
  refine lv_istore_n (lv' := [(2, Value.int (0 : Int32)), (0, Value.ref (a 20)), (1, Value.int v)]) hx hb dJ7_fill_53178_1 rfl hl (by decide) rfl (fun ls hl => ?_)
  refine lv_aload_n hx hb dJ7_fill_53178_2 rfl (lv_at hl 1 rfl) ?_
  refine lB_pw hx hb hK hP dJ7_fill_53178_3 ?_
  refine lv_istore_n (lv' := [(3, Value.int (nI 720)), (2, Value.int (0 : Int32)), (0, Value.ref (a 20)), (1, Value.int v)]) hx hb dJ7_fill_53178_4 rfl hl (by decide) rfl (fun ls hl => ?_)
  have LP5 : ∀ (n : Nat) (k : Nat), (k ≤ 720) → 720 - k < n → ∀ (H : Heap) (locs : List Loc) (ls : Array Slot), va_P D vwCl (wB a y cap clr (nI t) hom mov wm tb tf ts (nI nw) wf wt (nI nb) bw bl bi bb (nI no) od ow ol ork ob olf oco pn pb pm pcd (fun j => if j < k then v else pw j) pli) H → va_D A (wB a y cap clr (nI t) hom mov wm tb tf ts (nI nw) wf wt (nI nb) bw bl bi bb (nI no) od ow ol ork ob olf oco pn pb pm pcd (fun j => if j < k then v else pw j) pli) → va_S A s.heap H locs → lv_has ls 4 [(3, Value.int (nI 720)), (2, Value.int (nI k)), (0, Value.ref (a 20)), (1, Value.int v)] → W p l e ({ frames := 0, cells := 0, slots := 0, locals := 0 } : Room) s m args below meth c H locs 0 0 G (F0 m 5 ls []) := by
    intro n
    induction n with
    | zero => intro k hk hn; exact absurd hn (Nat.not_lt_zero _)
    | succ n ih5 =>
      intro k hk hn H locs ls hP hD hS hl
      refine lv_iload_n hx hb dJ7_fill_53178_5 rfl (lv_at hl 1 rfl) ?_
      refine lv_iload_n hx hb dJ7_fill_53178_6 rfl (lv_at hl 0 rfl) ?_
      refine lv_icmp_ge (tgt := 20) hx hb dJ7_fill_53178_7 (by decide) (fun c7 => ?_) (fun c7 => ?_)
      · have c7 : 720 ≤ k := (nI_leI (a := 720) (b := k) (by omega) (by omega)).mp c7
        refine z_vret hG hx hb hr hlocks hP hD hS (Nat.le_of_ble_eq_true rfl) (Nat.le_of_ble_eq_true rfl) dJ7_fill_53178_20 ?_
        (refine ⟨rfl, ?_⟩; rw [show k = 720 by omega])
      · have c7 : ¬ 720 ≤ k := fun z => c7 ((nI_leI (a := 720) (b := k) (by omega) (by omega)).mpr z)
        refine lv_aload_n hx hb dJ7_fill_53178_10 rfl (lv_at hl 2 rfl) ?_
        refine lv_iload_n hx hb dJ7_fill_53178_11 rfl (lv_at hl 1 rfl) ?_
        refine lv_iload_n hx hb dJ7_fill_53178_12 rfl (lv_at hl 3 rfl) ?_
        refine sB_pw hx hb hK hP hD hS k rfl (by omega) dJ7_fill_53178_13 (fun H locs hP hD hS => ?_)
        refine lv_iinc (v := nI (k + 1)) (lv' := [(2, Value.int (nI (k + 1))), (3, Value.int (nI 720)), (0, Value.ref (a 20)), (1, Value.int v)]) hx hb dJ7_fill_53178_14 hl (k := 1) rfl (nI_add k 1) (by decide) rfl (fun ls hl => ?_)
        refine lv_goto (tgt := 5) hx hb dJ7_fill_53178_17 (by decide) ?_
        have hl := lv_sub hl [1, 0, 2, 3] rfl
        have ew1_pw : upd (fun j => if j < k then v else pw j) k v = fun j => if j < (k + 1) then v else pw j := by
          first
          | with_reducible rfl
          | exact fill_step v pw k
        have ew1_pw := congrArg (fun z => wB a y cap clr (nI t) hom mov wm tb tf ts (nI nw) wf wt (nI nb) bw bl bi bb (nI no) od ow ol ork ob olf oco pn pb pm pcd z pli) ew1_pw
        have hP : va_P D vwCl (wB a y cap clr (nI t) hom mov wm tb tf ts (nI nw) wf wt (nI nb) bw bl bi bb (nI no) od ow ol ork ob olf oco pn pb pm pcd (fun j => if j < (k + 1) then v else pw j) pli) _ := zw_P ew1_pw hP
        have hD : va_D A (wB a y cap clr (nI t) hom mov wm tb tf ts (nI nw) wf wt (nI nb) bw bl bi bb (nI no) od ow ol ork ob olf oco pn pb pm pcd (fun j => if j < (k + 1) then v else pw j) pli) := zw_D ew1_pw hD
        exact ih5 (k + 1) (by omega) (by omega) _ _ _ hP hD hS hl
  have eq2_0 : (0 : Int32) = nI 0 := by
    rfl
  have hl := lv_sub hl [0, 1, 2, 3] rfl
  have hl : lv_has ls 4 [(3, Value.int (nI 720)), (2, Value.int (0 : Int32)), (0, Value.ref (a 20)), (1, Value.int v)] := hl
  have hl : lv_has ls 4 [(3, Value.int (nI 720)), (2, Value.int (nI 0)), (0, Value.ref (a 20)), (1, Value.int v)] := lv_as hl (congrArg (fun z => [(3, Value.int (nI 720)), (2, Value.int z), (0, Value.ref (a 20)), (1, Value.int v)]) eq2_0)
  have ew3_pw : pw = fun j => if j < 0 then v else pw j := by
    first
    | with_reducible rfl
    | exact funext fun j => (if_neg (Nat.not_lt_zero j)).symm
  have ew3_pw := congrArg (fun z => wB a y cap clr (nI t) hom mov wm tb tf ts (nI nw) wf wt (nI nb) bw bl bi bb (nI no) od ow ol ork ob olf oco pn pb pm pcd z pli) ew3_pw
  have hP : va_P D vwCl (wB a y cap clr (nI t) hom mov wm tb tf ts (nI nw) wf wt (nI nb) bw bl bi bb (nI no) od ow ol ork ob olf oco pn pb pm pcd (fun j => if j < 0 then v else pw j) pli) _ := zw_P ew3_pw hP
  have hD : va_D A (wB a y cap clr (nI t) hom mov wm tb tf ts (nI nw) wf wt (nI nb) bw bl bi bb (nI no) od ow ol ork ob olf oco pn pb pm pcd (fun j => if j < 0 then v else pw j) pli) := zw_D ew3_pw hD
  exact LP5 (720 - 0 + 1) 0 (by omega) (Nat.lt_succ_self _) _ _ _ hP hD hS hl
set_option maxHeartbeats 800000 in
set_option maxRecDepth 100000 in
theorem c_X2_clear (l : Launch) (D : va_G) (y : Nat → ClassId) (a : Nat → Nat) (cap clr : Int32) (t : Nat) (hom mov : Int32) (wm : Int64) (tb tf ts : Int32) (nw : Nat) (wf wt : Nat → Int32) (nb : Nat) (bw bl bi bb : Nat → Int32) (no : Nat) (od ow ol ork ob olf oco : Nat → Int32) (pn pb pm : Int32) (pcd pw pli : Nat → Int32) (f : Int32) (g : Int32)  : zP l D y yX2_clear cX2_clear 3 none 1 0 0 23 [Value.ref (a 5), Value.int f, Value.int g] (wB a y cap clr (nI t) hom mov wm tb tf ts (nI nw) wf wt (nI nb) bw bl bi bb (nI no) od ow ol ork ob olf oco pn pb pm pcd pw pli) (fun o9 w9 => o9 = none ∧ w9 = wB a y cap clr (nI t) hom mov wm tb tf ts (nI nw) wf wt (nI nb) bw bl bi bb (nI no) od ow ol ork ob olf oco (nI 0) f g pcd (fun j => if j < 720 then (1000000 : Int32) else pw j) pli) := by
  refine zP.of (by decide +kernel) (Nat.le_of_ble_eq_true rfl) ?_
  intro p e s m args below meth c A ls hx hb hr hta hown hlocks hml hin hN hK hP hD hS hA hl
  refine z_gen (fun G hG => ?_)
  have hl : lv_has ls 3 [(0, Value.ref (a 5)), (1, Value.int f), (2, Value.int g)] := hl
  refine lv_aload_n hx hb dX2_clear_0 rfl (lv_at hl 0 rfl) ?_
  refine lv_iload_n hx hb dX2_clear_1 rfl (lv_at hl 1 rfl) ?_
  refine pB2_berthed hx hb hta hown hK hP hD hS wd_4_7 dX2_clear_2 (fun H locs hP hD hS => ?_)
  refine lv_aload_n hx hb dX2_clear_5 rfl (lv_at hl 0 rfl) ?_
  refine lv_iload_n hx hb dX2_clear_6 rfl (lv_at hl 2 rfl) ?_
  refine pB2_berths hx hb hta hown hK hP hD hS wd_4_8 dX2_clear_7 (fun H locs hP hD hS => ?_)
  refine lv_aload_n hx hb dX2_clear_10 rfl (lv_at hl 0 rfl) ?_
  refine lv_iconst (v := (0 : Int32)) hx hb dX2_clear_11 (by decide) ?_
  refine pB2_listed hx hb hta hown hK hP hD hS wd_4_6 dX2_clear_12 (fun H locs hP hD hS => ?_)
  refine lv_aload_n hx hb dX2_clear_15 rfl (lv_at hl 0 rfl) ?_
  refine gB2_weight hx hb hta hown hK hP wd_4_4 dX2_clear_16 ?_
  refine lv_ldc (v := (1000000 : Int32)) hx hb hown (hta _ wd_30_11) dX2_clear_19 ?_
  refine z_callS (As := [Value.ref (a 20), Value.int (1000000 : Int32)]) (rest := []) hx hb hml hown hta zm_J7_fill_53178 wd_30_12 (c_J7_fill_53178 l D y a cap clr t hom mov wm tb tf ts nw wf wt nb bw bl bi bb no od ow ol ork ob olf oco (0 : Int32) f g pcd pw pli (1000000 : Int32)) hN hK hP hD hS hA rfl hl rfl (Nat.le_of_ble_eq_true rfl) ⟨Nat.le_of_ble_eq_true rfl, Nat.le_of_ble_eq_true rfl⟩ ⟨Nat.le_of_ble_eq_true rfl, Nat.le_of_ble_eq_true rfl⟩ dX2_clear_21 (fun v w' H locs hq hP hD hS => ?_)
  obtain ⟨rfl, rfl⟩ := hq
  refine z_vret hG hx hb hr hlocks hP hD hS (Nat.le_of_ble_eq_true rfl) (Nat.le_of_ble_eq_true rfl) dX2_clear_24 ?_
  exact ⟨rfl, rfl⟩
set_option maxHeartbeats 800000 in
set_option maxRecDepth 100000 in
theorem c_X2_occupiedAt (l : Launch) (D : va_G) (y : Nat → ClassId) (a : Nat → Nat) (cap clr : Int32) (t : Nat) (hom mov : Int32) (wm : Int64) (tb tf ts : Int32) (nw : Nat) (wf wt : Nat → Int32) (nb : Nat) (bw bl bi bb : Nat → Int32) (no : Nat) (od ow ol ork ob olf oco : Nat → Int32) (pn pb pm : Int32) (pcd pw pli : Nat → Int32) (i : Int32)  : zP l D y yX2_occupiedAt cX2_occupiedAt 4 (some .int) 1 0 0 21 [Value.ref (a 5), Value.int i] (wB a y cap clr (nI t) hom mov wm tb tf ts (nI nw) wf wt (nI nb) bw bl bi bb (nI no) od ow ol ork ob olf oco pn pb pm pcd pw pli) (fun o9 w9 => o9 = some (Value.int (ocA pb i 8)) ∧ w9 = wB a y cap clr (nI t) hom mov wm tb tf ts (nI nw) wf wt (nI nb) bw bl bi bb (nI no) od ow ol ork ob olf oco pn pb pm pcd pw pli) := by
  refine zP.of (by decide +kernel) (Nat.le_of_ble_eq_true rfl) ?_
  intro p e s m args below meth c A ls hx hb hr hta hown hlocks hml hin hN hK hP hD hS hA hl
  refine z_gen (fun G hG => ?_)
  have hl : lv_has ls 4 [(0, Value.ref (a 5)), (1, Value.int i)] := hl
  refine lv_iconst (v := (0 : Int32)) hx hb dX2_occupiedAt_0 (by decide) ?_
  refine lv_istore_n (lv' := [(2, Value.int (0 : Int32)), (0, Value.ref (a 5)), (1, Value.int i)]) hx hb dX2_occupiedAt_1 rfl hl (by decide) rfl (fun ls hl => ?_)
  refine lv_iconst (v := (0 : Int32)) hx hb dX2_occupiedAt_2 (by decide) ?_
  refine lv_istore_n (lv' := [(3, Value.int (0 : Int32)), (2, Value.int (0 : Int32)), (0, Value.ref (a 5)), (1, Value.int i)]) hx hb dX2_occupiedAt_3 rfl hl (by decide) rfl (fun ls hl => ?_)
  have LP4 : ∀ (n : Nat) (k : Nat), (k ≤ 8) → 8 - k < n → ∀ (H : Heap) (locs : List Loc) (ls : Array Slot), va_P D vwCl (wB a y cap clr (nI t) hom mov wm tb tf ts (nI nw) wf wt (nI nb) bw bl bi bb (nI no) od ow ol ork ob olf oco pn pb pm pcd pw pli) H → va_D A (wB a y cap clr (nI t) hom mov wm tb tf ts (nI nw) wf wt (nI nb) bw bl bi bb (nI no) od ow ol ork ob olf oco pn pb pm pcd pw pli) → va_S A s.heap H locs → lv_has ls 4 [(3, Value.int (nI k)), (2, Value.int (ocA pb i k)), (0, Value.ref (a 5)), (1, Value.int i)] → W p l e ({ frames := 1, cells := 0, slots := 0, locals := 21 } : Room) s m args below meth c H locs 0 0 G (F0 m 4 ls []) := by
    intro n
    induction n with
    | zero => intro k hk hn; exact absurd hn (Nat.not_lt_zero _)
    | succ n ih4 =>
      intro k hk hn H locs ls hP hD hS hl
      refine lv_iload_n hx hb dX2_occupiedAt_4 rfl (lv_at hl 0 rfl) ?_
      refine lv_bipush (v := (8 : Int32)) hx hb dX2_occupiedAt_5 (by decide) ?_
      refine lv_icmp_ge (tgt := 37) hx hb dX2_occupiedAt_7 (by decide) (fun c7 => ?_) (fun c7 => ?_)
      · have c7 : 8 ≤ k := (nI_leI (a := 8) (b := k) (by omega) (by omega)).mp c7
        refine lv_iload_n hx hb dX2_occupiedAt_37 rfl (lv_at hl 1 rfl) ?_
        refine z_iret hG hx hb hr hlocks hP hD hS (Nat.le_of_ble_eq_true rfl) (Nat.le_of_ble_eq_true rfl) dX2_occupiedAt_38 ?_
        refine zqi ?_
        rw [show k = 8 by omega]
      · have c7 : ¬ 8 ≤ k := fun z => c7 ((nI_leI (a := 8) (b := k) (by omega) (by omega)).mpr z)
        refine lv_aload_n hx hb dX2_occupiedAt_10 rfl (lv_at hl 2 rfl) ?_
        refine gB2_berthed hx hb hta hown hK hP wd_4_7 dX2_occupiedAt_11 ?_
        refine lv_iload_n hx hb dX2_occupiedAt_14 rfl (lv_at hl 0 rfl) ?_
        refine z_callN (As := [Value.int pb, Value.int (nI k)]) (rest := []) hx hb hml hown hta zm_X5_holds zn_holds (c_X5_holds l D y a cap clr t hom mov wm tb tf ts nw wf wt nb bw bl bi bb no od ow ol ork ob olf oco pn pb pm pcd pw pli pb (nI k)) hN hK hP hD hS hA rfl hl rfl (Nat.le_of_ble_eq_true rfl) ⟨Nat.le_of_ble_eq_true rfl, Nat.le_of_ble_eq_true rfl⟩ ⟨Nat.le_of_ble_eq_true rfl, Nat.le_of_ble_eq_true rfl⟩ dX2_occupiedAt_15 (fun v w' H locs hq hP hD hS => ?_)
        obtain ⟨rfl, rfl⟩ := hq
        refine lv_if_eq (tgt := 31) hx hb dX2_occupiedAt_18 (by decide) (fun c18 => ?_) (fun c18 => ?_)
        · have c18 := bI_0 c18
          refine lv_iinc (v := nI (k + 1)) (lv' := [(3, Value.int (nI (k + 1))), (2, Value.int (ocA pb i k)), (0, Value.ref (a 5)), (1, Value.int i)]) hx hb dX2_occupiedAt_31 hl (k := 0) rfl (nI_add k 1) (by decide) rfl (fun ls hl => ?_)
          refine lv_goto (tgt := 4) hx hb dX2_occupiedAt_34 (by decide) ?_
          have eq2_0 : ocA pb i k = ocA pb i (k + 1) := by
            first
            | with_reducible rfl
            | rw [ocA, if_pos c18]
            | (rw [ocA, c18]; rfl)
          have hl := lv_sub hl [0, 1, 2, 3] rfl
          have hl : lv_has ls 4 [(3, Value.int (nI (k + 1))), (2, Value.int (ocA pb i k)), (0, Value.ref (a 5)), (1, Value.int i)] := hl
          have hl : lv_has ls 4 [(3, Value.int (nI (k + 1))), (2, Value.int (ocA pb i (k + 1))), (0, Value.ref (a 5)), (1, Value.int i)] := lv_as hl (congrArg (fun z => [(3, Value.int (nI (k + 1))), (2, Value.int z), (0, Value.ref (a 5)), (1, Value.int i)]) eq2_0)
          exact ih4 (k + 1) (by omega) (by omega) _ _ _ hP hD hS hl
        · have c18 := bI_1 c18
          refine lv_iload_n hx hb dX2_occupiedAt_21 rfl (lv_at hl 1 rfl) ?_
          refine lv_iconst (v := (1 : Int32)) hx hb dX2_occupiedAt_22 (by decide) ?_
          refine lv_iload_n hx hb dX2_occupiedAt_23 rfl (lv_at hl 3 rfl) ?_
          refine lv_iload_n hx hb dX2_occupiedAt_24 rfl (lv_at hl 0 rfl) ?_
          refine z_callS (As := [Value.int i, Value.int (nI k)]) (rest := [Value.int (1 : Int32), Value.int (ocA pb i k)]) hx hb hml hown hta zm_X2_berthAt wd_31_0 (c_X2_berthAt l D y a cap clr t hom mov wm tb tf ts nw wf wt nb bw bl bi bb no od ow ol ork ob olf oco pn pb pm pcd pw pli i k) hN hK hP hD hS hA rfl hl rfl (Nat.le_of_ble_eq_true rfl) ⟨Nat.le_of_ble_eq_true rfl, Nat.le_of_ble_eq_true rfl⟩ ⟨Nat.le_of_ble_eq_true rfl, Nat.le_of_ble_eq_true rfl⟩ dX2_occupiedAt_25 (fun v w' H locs hq hP hD hS => ?_)
          obtain ⟨rfl, rfl⟩ := hq
          refine lv_ishl hx hb dX2_occupiedAt_28 ?_
          refine lv_ior hx hb dX2_occupiedAt_29 ?_
          refine lv_istore_n (lv' := [(2, Value.int ((ocA pb i k) ||| ((1 : Int32) <<< ((atE i k) &&& 31)))), (3, Value.int (nI k)), (0, Value.ref (a 5)), (1, Value.int i)]) hx hb dX2_occupiedAt_30 rfl hl (by decide) rfl (fun ls hl => ?_)
          refine lv_iinc (v := nI (k + 1)) (lv' := [(3, Value.int (nI (k + 1))), (2, Value.int ((ocA pb i k) ||| ((1 : Int32) <<< ((atE i k) &&& 31)))), (0, Value.ref (a 5)), (1, Value.int i)]) hx hb dX2_occupiedAt_31 hl (k := 1) rfl (nI_add k 1) (by decide) rfl (fun ls hl => ?_)
          refine lv_goto (tgt := 4) hx hb dX2_occupiedAt_34 (by decide) ?_
          have eq4_0 : (ocA pb i k) ||| ((1 : Int32) <<< ((atE i k) &&& 31)) = ocA pb i (k + 1) := by
            first
            | with_reducible rfl
            | rw [ocA, if_pos c18]
            | (rw [ocA, c18]; rfl)
          have hl := lv_sub hl [0, 1, 2, 3] rfl
          have hl : lv_has ls 4 [(3, Value.int (nI (k + 1))), (2, Value.int ((ocA pb i k) ||| ((1 : Int32) <<< ((atE i k) &&& 31)))), (0, Value.ref (a 5)), (1, Value.int i)] := hl
          have hl : lv_has ls 4 [(3, Value.int (nI (k + 1))), (2, Value.int (ocA pb i (k + 1))), (0, Value.ref (a 5)), (1, Value.int i)] := lv_as hl (congrArg (fun z => [(3, Value.int (nI (k + 1))), (2, Value.int z), (0, Value.ref (a 5)), (1, Value.int i)]) eq4_0)
          exact ih4 (k + 1) (by omega) (by omega) _ _ _ hP hD hS hl
  have eq5_0 : (0 : Int32) = nI 0 := by
    rfl
  have eq6_1 : (0 : Int32) = ocA pb i 0 := by
    rfl
  have hl := lv_sub hl [0, 1, 2, 3] rfl
  have hl : lv_has ls 4 [(3, Value.int (0 : Int32)), (2, Value.int (0 : Int32)), (0, Value.ref (a 5)), (1, Value.int i)] := hl
  have hl : lv_has ls 4 [(3, Value.int (nI 0)), (2, Value.int (0 : Int32)), (0, Value.ref (a 5)), (1, Value.int i)] := lv_as hl (congrArg (fun z => [(3, Value.int z), (2, Value.int (0 : Int32)), (0, Value.ref (a 5)), (1, Value.int i)]) eq5_0)
  have hl : lv_has ls 4 [(3, Value.int (nI 0)), (2, Value.int (ocA pb i 0)), (0, Value.ref (a 5)), (1, Value.int i)] := lv_as hl (congrArg (fun z => [(3, Value.int (nI 0)), (2, Value.int z), (0, Value.ref (a 5)), (1, Value.int i)]) eq6_1)
  exact LP4 (8 - 0 + 1) 0 (by omega) (Nat.lt_succ_self _) _ _ _ hP hD hS hl
set_option maxHeartbeats 800000 in
set_option maxRecDepth 100000 in
theorem c_X2_numberOf (l : Launch) (D : va_G) (y : Nat → ClassId) (a : Nat → Nat) (cap clr : Int32) (t : Nat) (hom mov : Int32) (wm : Int64) (tb tf ts : Int32) (nw : Nat) (wf wt : Nat → Int32) (nb : Nat) (bw bl bi bb : Nat → Int32) (no : Nat) (od ow ol ork ob olf oco : Nat → Int32) (pn pb pm : Int32) (pcd pw pli : Nat → Int32) (i : Int32)  : zP l D y yX2_numberOf cX2_numberOf 8 (some .int) 1 0 0 21 [Value.ref (a 5), Value.int i] (wB a y cap clr (nI t) hom mov wm tb tf ts (nI nw) wf wt (nI nb) bw bl bi bb (nI no) od ow ol ork ob olf oco pn pb pm pcd pw pli) (fun o9 w9 => o9 = some (Value.int ((nmI pb i pm 8).1)) ∧ w9 = wB a y cap clr (nI t) hom mov wm tb tf ts (nI nw) wf wt (nI nb) bw bl bi bb (nI no) od ow ol ork ob olf oco pn pb pm pcd pw pli) := by
  refine zP.of (by decide +kernel) (Nat.le_of_ble_eq_true rfl) ?_
  intro p e s m args below meth c A ls hx hb hr hta hown hlocks hml hin hN hK hP hD hS hA hl
  refine z_gen (fun G hG => ?_)
  have hl : lv_has ls 8 [(0, Value.ref (a 5)), (1, Value.int i)] := hl
  refine lv_iconst (v := (0 : Int32)) hx hb dX2_numberOf_0 (by decide) ?_
  refine lv_istore_n (lv' := [(2, Value.int (0 : Int32)), (0, Value.ref (a 5)), (1, Value.int i)]) hx hb dX2_numberOf_1 rfl hl (by decide) rfl (fun ls hl => ?_)
  refine lv_iconst (v := (0 : Int32)) hx hb dX2_numberOf_2 (by decide) ?_
  refine lv_istore_n (lv' := [(3, Value.int (0 : Int32)), (2, Value.int (0 : Int32)), (0, Value.ref (a 5)), (1, Value.int i)]) hx hb dX2_numberOf_3 rfl hl (by decide) rfl (fun ls hl => ?_)
  refine lv_aload_n hx hb dX2_numberOf_4 rfl (lv_at hl 2 rfl) ?_
  refine gB2_berths hx hb hta hown hK hP wd_4_8 dX2_numberOf_5 ?_
  refine lv_istore (lv' := [(4, Value.int pm), (3, Value.int (0 : Int32)), (2, Value.int (0 : Int32)), (0, Value.ref (a 5)), (1, Value.int i)]) hx hb dX2_numberOf_8 hl (by decide) rfl (fun ls hl => ?_)
  refine lv_iconst (v := (0 : Int32)) hx hb dX2_numberOf_10 (by decide) ?_
  refine lv_istore (lv' := [(5, Value.int (0 : Int32)), (4, Value.int pm), (3, Value.int (0 : Int32)), (2, Value.int (0 : Int32)), (0, Value.ref (a 5)), (1, Value.int i)]) hx hb dX2_numberOf_11 hl (by decide) rfl (fun ls hl => ?_)
  have LP13 : ∀ (n : Nat) (k : Nat), (k ≤ 8) → 8 - k < n → ∀ (H : Heap) (locs : List Loc) (ls : Array Slot), va_P D vwCl (wB a y cap clr (nI t) hom mov wm tb tf ts (nI nw) wf wt (nI nb) bw bl bi bb (nI no) od ow ol ork ob olf oco pn pb pm pcd pw pli) H → va_D A (wB a y cap clr (nI t) hom mov wm tb tf ts (nI nw) wf wt (nI nb) bw bl bi bb (nI no) od ow ol ork ob olf oco pn pb pm pcd pw pli) → va_S A s.heap H locs → lv_has ls 8 [(5, Value.int (nI k)), (4, Value.int ((nmI pb i pm k).2.2)), (3, Value.int ((nmI pb i pm k).2.1)), (2, Value.int ((nmI pb i pm k).1)), (0, Value.ref (a 5)), (1, Value.int i)] → W p l e ({ frames := 1, cells := 0, slots := 0, locals := 21 } : Room) s m args below meth c H locs 0 0 G (F0 m 13 ls []) := by
    intro n
    induction n with
    | zero => intro k hk hn; exact absurd hn (Nat.not_lt_zero _)
    | succ n ih13 =>
      intro k hk hn H locs ls hP hD hS hl
      refine lv_iload hx hb dX2_numberOf_13 (lv_at hl 0 rfl) ?_
      refine lv_bipush (v := (8 : Int32)) hx hb dX2_numberOf_15 (by decide) ?_
      refine lv_icmp_ge (tgt := 80) hx hb dX2_numberOf_17 (by decide) (fun c17 => ?_) (fun c17 => ?_)
      · have c17 : 8 ≤ k := (nI_leI (a := 8) (b := k) (by omega) (by omega)).mp c17
        refine lv_iload_n hx hb dX2_numberOf_80 rfl (lv_at hl 3 rfl) ?_
        refine z_iret hG hx hb hr hlocks hP hD hS (Nat.le_of_ble_eq_true rfl) (Nat.le_of_ble_eq_true rfl) dX2_numberOf_81 ?_
        refine zqi ?_
        rw [show k = 8 by omega]
      · have c17 : ¬ 8 ≤ k := fun z => c17 ((nI_leI (a := 8) (b := k) (by omega) (by omega)).mpr z)
        refine lv_aload_n hx hb dX2_numberOf_20 rfl (lv_at hl 4 rfl) ?_
        refine gB2_berthed hx hb hta hown hK hP wd_4_7 dX2_numberOf_21 ?_
        refine lv_iload hx hb dX2_numberOf_24 (lv_at hl 0 rfl) ?_
        refine z_callN (As := [Value.int pb, Value.int (nI k)]) (rest := []) hx hb hml hown hta zm_X5_holds zn_holds (c_X5_holds l D y a cap clr t hom mov wm tb tf ts nw wf wt nb bw bl bi bb no od ow ol ork ob olf oco pn pb pm pcd pw pli pb (nI k)) hN hK hP hD hS hA rfl hl rfl (Nat.le_of_ble_eq_true rfl) ⟨Nat.le_of_ble_eq_true rfl, Nat.le_of_ble_eq_true rfl⟩ ⟨Nat.le_of_ble_eq_true rfl, Nat.le_of_ble_eq_true rfl⟩ dX2_numberOf_26 (fun v w' H locs hq hP hD hS => ?_)
        obtain ⟨rfl, rfl⟩ := hq
        refine lv_if_eq (tgt := 74) hx hb dX2_numberOf_29 (by decide) (fun c29 => ?_) (fun c29 => ?_)
        · have c29 := bI_0 c29
          refine lv_iinc (v := nI (k + 1)) (lv' := [(5, Value.int (nI (k + 1))), (4, Value.int ((nmI pb i pm k).2.2)), (3, Value.int ((nmI pb i pm k).2.1)), (2, Value.int ((nmI pb i pm k).1)), (0, Value.ref (a 5)), (1, Value.int i)]) hx hb dX2_numberOf_74 hl (k := 0) rfl (nI_add k 1) (by decide) rfl (fun ls hl => ?_)
          refine lv_goto (tgt := 13) hx hb dX2_numberOf_77 (by decide) ?_
          have eq2_0 : (nmI pb i pm k).2.2 = (nmI pb i pm (k + 1)).2.2 := by
            first
            | with_reducible rfl
            | (rw [nmI_1 c29])
            | (rw [nmI_0 c29])
          have eq3_1 : (nmI pb i pm k).2.1 = (nmI pb i pm (k + 1)).2.1 := by
            first
            | with_reducible rfl
            | (rw [nmI_1 c29])
            | (rw [nmI_0 c29])
          have eq4_2 : (nmI pb i pm k).1 = (nmI pb i pm (k + 1)).1 := by
            first
            | with_reducible rfl
            | (rw [nmI_1 c29])
            | (rw [nmI_0 c29])
          have hl := lv_sub hl [0, 1, 2, 3, 4, 5] rfl
          have hl : lv_has ls 8 [(5, Value.int (nI (k + 1))), (4, Value.int ((nmI pb i pm k).2.2)), (3, Value.int ((nmI pb i pm k).2.1)), (2, Value.int ((nmI pb i pm k).1)), (0, Value.ref (a 5)), (1, Value.int i)] := hl
          have hl : lv_has ls 8 [(5, Value.int (nI (k + 1))), (4, Value.int ((nmI pb i pm (k + 1)).2.2)), (3, Value.int ((nmI pb i pm k).2.1)), (2, Value.int ((nmI pb i pm k).1)), (0, Value.ref (a 5)), (1, Value.int i)] := lv_as hl (congrArg (fun z => [(5, Value.int (nI (k + 1))), (4, Value.int z), (3, Value.int ((nmI pb i pm k).2.1)), (2, Value.int ((nmI pb i pm k).1)), (0, Value.ref (a 5)), (1, Value.int i)]) eq2_0)
          have hl : lv_has ls 8 [(5, Value.int (nI (k + 1))), (4, Value.int ((nmI pb i pm (k + 1)).2.2)), (3, Value.int ((nmI pb i pm (k + 1)).2.1)), (2, Value.int ((nmI pb i pm k).1)), (0, Value.ref (a 5)), (1, Value.int i)] := lv_as hl (congrArg (fun z => [(5, Value.int (nI (k + 1))), (4, Value.int ((nmI pb i pm (k + 1)).2.2)), (3, Value.int z), (2, Value.int ((nmI pb i pm k).1)), (0, Value.ref (a 5)), (1, Value.int i)]) eq3_1)
          have hl : lv_has ls 8 [(5, Value.int (nI (k + 1))), (4, Value.int ((nmI pb i pm (k + 1)).2.2)), (3, Value.int ((nmI pb i pm (k + 1)).2.1)), (2, Value.int ((nmI pb i pm (k + 1)).1)), (0, Value.ref (a 5)), (1, Value.int i)] := lv_as hl (congrArg (fun z => [(5, Value.int (nI (k + 1))), (4, Value.int ((nmI pb i pm (k + 1)).2.2)), (3, Value.int ((nmI pb i pm (k + 1)).2.1)), (2, Value.int z), (0, Value.ref (a 5)), (1, Value.int i)]) eq4_2)
          exact ih13 (k + 1) (by omega) (by omega) _ _ _ hP hD hS hl
        · have c29 := bI_1 c29
          refine lv_iload_n hx hb dX2_numberOf_32 rfl (lv_at hl 5 rfl) ?_
          refine lv_iload hx hb dX2_numberOf_33 (lv_at hl 0 rfl) ?_
          refine z_callS (As := [Value.int i, Value.int (nI k)]) (rest := []) hx hb hml hown hta zm_X2_berthAt wd_31_0 (c_X2_berthAt l D y a cap clr t hom mov wm tb tf ts nw wf wt nb bw bl bi bb no od ow ol ork ob olf oco pn pb pm pcd pw pli i k) hN hK hP hD hS hA rfl hl rfl (Nat.le_of_ble_eq_true rfl) ⟨Nat.le_of_ble_eq_true rfl, Nat.le_of_ble_eq_true rfl⟩ ⟨Nat.le_of_ble_eq_true rfl, Nat.le_of_ble_eq_true rfl⟩ dX2_numberOf_35 (fun v w' H locs hq hP hD hS => ?_)
          obtain ⟨rfl, rfl⟩ := hq
          refine lv_istore (lv' := [(6, Value.int (atE i k)), (5, Value.int (nI k)), (4, Value.int ((nmI pb i pm k).2.2)), (3, Value.int ((nmI pb i pm k).2.1)), (2, Value.int ((nmI pb i pm k).1)), (0, Value.ref (a 5)), (1, Value.int i)]) hx hb dX2_numberOf_38 hl (by decide) rfl (fun ls hl => ?_)
          refine lv_iload_n hx hb dX2_numberOf_40 rfl (lv_at hl 3 rfl) ?_
          refine lv_iconst (v := (1 : Int32)) hx hb dX2_numberOf_41 (by decide) ?_
          refine lv_iload hx hb dX2_numberOf_42 (lv_at hl 0 rfl) ?_
          refine lv_ishl hx hb dX2_numberOf_44 ?_
          refine lv_iconst (v := (1 : Int32)) hx hb dX2_numberOf_45 (by decide) ?_
          refine lv_isub hx hb dX2_numberOf_46 ?_
          refine lv_iand hx hb dX2_numberOf_47 ?_
          refine z_callS (As := [Value.int (((nmI pb i pm k).2.1) &&& (((1 : Int32) <<< ((atE i k) &&& 31)) - (1 : Int32)))]) (rest := []) hx hb hml hown hta zm_J6_bitCount_0f7a4 wd_31_3 (c_J6_bitCount_0f7a4 l D y a cap clr t hom mov wm tb tf ts nw wf wt nb bw bl bi bb no od ow ol ork ob olf oco pn pb pm pcd pw pli (((nmI pb i pm k).2.1) &&& (((1 : Int32) <<< ((atE i k) &&& 31)) - (1 : Int32)))) hN hK hP hD hS hA rfl hl rfl (Nat.le_of_ble_eq_true rfl) ⟨Nat.le_of_ble_eq_true rfl, Nat.le_of_ble_eq_true rfl⟩ ⟨Nat.le_of_ble_eq_true rfl, Nat.le_of_ble_eq_true rfl⟩ dX2_numberOf_48 (fun v w' H locs hq hP hD hS => ?_)
          obtain ⟨rfl, rfl⟩ := hq
          refine lv_istore (lv' := [(7, Value.int (bcE (((nmI pb i pm k).2.1) &&& (((1 : Int32) <<< ((atE i k) &&& 31)) - (1 : Int32))))), (6, Value.int (atE i k)), (5, Value.int (nI k)), (4, Value.int ((nmI pb i pm k).2.2)), (3, Value.int ((nmI pb i pm k).2.1)), (2, Value.int ((nmI pb i pm k).1)), (0, Value.ref (a 5)), (1, Value.int i)]) hx hb dX2_numberOf_51 hl (by decide) rfl (fun ls hl => ?_)
          refine lv_iload_n hx hb dX2_numberOf_53 rfl (lv_at hl 5 rfl) ?_
          refine lv_iload hx hb dX2_numberOf_54 (lv_at hl 3 rfl) ?_
          refine lv_imul hx hb dX2_numberOf_56 ?_
          refine lv_iload hx hb dX2_numberOf_57 (lv_at hl 1 rfl) ?_
          refine lv_iadd hx hb dX2_numberOf_59 ?_
          refine lv_iload hx hb dX2_numberOf_60 (lv_at hl 0 rfl) ?_
          refine lv_isub hx hb dX2_numberOf_62 ?_
          refine lv_istore_n (lv' := [(2, Value.int (((((nmI pb i pm k).1) * ((nmI pb i pm k).2.2)) + (atE i k)) - (bcE (((nmI pb i pm k).2.1) &&& (((1 : Int32) <<< ((atE i k) &&& 31)) - (1 : Int32)))))), (7, Value.int (bcE (((nmI pb i pm k).2.1) &&& (((1 : Int32) <<< ((atE i k) &&& 31)) - (1 : Int32))))), (6, Value.int (atE i k)), (5, Value.int (nI k)), (4, Value.int ((nmI pb i pm k).2.2)), (3, Value.int ((nmI pb i pm k).2.1)), (0, Value.ref (a 5)), (1, Value.int i)]) hx hb dX2_numberOf_63 rfl hl (by decide) rfl (fun ls hl => ?_)
          refine lv_iload_n hx hb dX2_numberOf_64 rfl (lv_at hl 5 rfl) ?_
          refine lv_iconst (v := (1 : Int32)) hx hb dX2_numberOf_65 (by decide) ?_
          refine lv_iload hx hb dX2_numberOf_66 (lv_at hl 2 rfl) ?_
          refine lv_ishl hx hb dX2_numberOf_68 ?_
          refine lv_ior hx hb dX2_numberOf_69 ?_
          refine lv_istore_n (lv' := [(3, Value.int (((nmI pb i pm k).2.1) ||| ((1 : Int32) <<< ((atE i k) &&& 31)))), (2, Value.int (((((nmI pb i pm k).1) * ((nmI pb i pm k).2.2)) + (atE i k)) - (bcE (((nmI pb i pm k).2.1) &&& (((1 : Int32) <<< ((atE i k) &&& 31)) - (1 : Int32)))))), (7, Value.int (bcE (((nmI pb i pm k).2.1) &&& (((1 : Int32) <<< ((atE i k) &&& 31)) - (1 : Int32))))), (6, Value.int (atE i k)), (5, Value.int (nI k)), (4, Value.int ((nmI pb i pm k).2.2)), (0, Value.ref (a 5)), (1, Value.int i)]) hx hb dX2_numberOf_70 rfl hl (by decide) rfl (fun ls hl => ?_)
          refine lv_iinc (v := ((nmI pb i pm k).2.2) + (-1 : Int32)) (lv' := [(4, Value.int (((nmI pb i pm k).2.2) + (-1 : Int32))), (3, Value.int (((nmI pb i pm k).2.1) ||| ((1 : Int32) <<< ((atE i k) &&& 31)))), (2, Value.int (((((nmI pb i pm k).1) * ((nmI pb i pm k).2.2)) + (atE i k)) - (bcE (((nmI pb i pm k).2.1) &&& (((1 : Int32) <<< ((atE i k) &&& 31)) - (1 : Int32)))))), (7, Value.int (bcE (((nmI pb i pm k).2.1) &&& (((1 : Int32) <<< ((atE i k) &&& 31)) - (1 : Int32))))), (6, Value.int (atE i k)), (5, Value.int (nI k)), (0, Value.ref (a 5)), (1, Value.int i)]) hx hb dX2_numberOf_71 hl (k := 5) rfl rfl (by decide) rfl (fun ls hl => ?_)
          refine lv_iinc (v := nI (k + 1)) (lv' := [(5, Value.int (nI (k + 1))), (4, Value.int (((nmI pb i pm k).2.2) + (-1 : Int32))), (3, Value.int (((nmI pb i pm k).2.1) ||| ((1 : Int32) <<< ((atE i k) &&& 31)))), (2, Value.int (((((nmI pb i pm k).1) * ((nmI pb i pm k).2.2)) + (atE i k)) - (bcE (((nmI pb i pm k).2.1) &&& (((1 : Int32) <<< ((atE i k) &&& 31)) - (1 : Int32)))))), (7, Value.int (bcE (((nmI pb i pm k).2.1) &&& (((1 : Int32) <<< ((atE i k) &&& 31)) - (1 : Int32))))), (6, Value.int (atE i k)), (0, Value.ref (a 5)), (1, Value.int i)]) hx hb dX2_numberOf_74 hl (k := 5) rfl (nI_add k 1) (by decide) rfl (fun ls hl => ?_)
          refine lv_goto (tgt := 13) hx hb dX2_numberOf_77 (by decide) ?_
          have eq7_0 : ((nmI pb i pm k).2.2) + (-1 : Int32) = (nmI pb i pm (k + 1)).2.2 := by
            first
            | with_reducible rfl
            | (rw [nmI_1 c29])
            | (rw [nmI_0 c29])
          have eq8_1 : ((nmI pb i pm k).2.1) ||| ((1 : Int32) <<< ((atE i k) &&& 31)) = (nmI pb i pm (k + 1)).2.1 := by
            first
            | with_reducible rfl
            | (rw [nmI_1 c29])
            | (rw [nmI_0 c29])
          have eq9_2 : ((((nmI pb i pm k).1) * ((nmI pb i pm k).2.2)) + (atE i k)) - (bcE (((nmI pb i pm k).2.1) &&& (((1 : Int32) <<< ((atE i k) &&& 31)) - (1 : Int32)))) = (nmI pb i pm (k + 1)).1 := by
            first
            | with_reducible rfl
            | (rw [nmI_1 c29])
            | (rw [nmI_0 c29])
          have hl := lv_sub hl [0, 1, 2, 3, 6, 7] rfl
          have hl : lv_has ls 8 [(5, Value.int (nI (k + 1))), (4, Value.int (((nmI pb i pm k).2.2) + (-1 : Int32))), (3, Value.int (((nmI pb i pm k).2.1) ||| ((1 : Int32) <<< ((atE i k) &&& 31)))), (2, Value.int (((((nmI pb i pm k).1) * ((nmI pb i pm k).2.2)) + (atE i k)) - (bcE (((nmI pb i pm k).2.1) &&& (((1 : Int32) <<< ((atE i k) &&& 31)) - (1 : Int32)))))), (0, Value.ref (a 5)), (1, Value.int i)] := hl
          have hl : lv_has ls 8 [(5, Value.int (nI (k + 1))), (4, Value.int ((nmI pb i pm (k + 1)).2.2)), (3, Value.int (((nmI pb i pm k).2.1) ||| ((1 : Int32) <<< ((atE i k) &&& 31)))), (2, Value.int (((((nmI pb i pm k).1) * ((nmI pb i pm k).2.2)) + (atE i k)) - (bcE (((nmI pb i pm k).2.1) &&& (((1 : Int32) <<< ((atE i k) &&& 31)) - (1 : Int32)))))), (0, Value.ref (a 5)), (1, Value.int i)] := lv_as hl (congrArg (fun z => [(5, Value.int (nI (k + 1))), (4, Value.int z), (3, Value.int (((nmI pb i pm k).2.1) ||| ((1 : Int32) <<< ((atE i k) &&& 31)))), (2, Value.int (((((nmI pb i pm k).1) * ((nmI pb i pm k).2.2)) + (atE i k)) - (bcE (((nmI pb i pm k).2.1) &&& (((1 : Int32) <<< ((atE i k) &&& 31)) - (1 : Int32)))))), (0, Value.ref (a 5)), (1, Value.int i)]) eq7_0)
          have hl : lv_has ls 8 [(5, Value.int (nI (k + 1))), (4, Value.int ((nmI pb i pm (k + 1)).2.2)), (3, Value.int ((nmI pb i pm (k + 1)).2.1)), (2, Value.int (((((nmI pb i pm k).1) * ((nmI pb i pm k).2.2)) + (atE i k)) - (bcE (((nmI pb i pm k).2.1) &&& (((1 : Int32) <<< ((atE i k) &&& 31)) - (1 : Int32)))))), (0, Value.ref (a 5)), (1, Value.int i)] := lv_as hl (congrArg (fun z => [(5, Value.int (nI (k + 1))), (4, Value.int ((nmI pb i pm (k + 1)).2.2)), (3, Value.int z), (2, Value.int (((((nmI pb i pm k).1) * ((nmI pb i pm k).2.2)) + (atE i k)) - (bcE (((nmI pb i pm k).2.1) &&& (((1 : Int32) <<< ((atE i k) &&& 31)) - (1 : Int32)))))), (0, Value.ref (a 5)), (1, Value.int i)]) eq8_1)
          have hl : lv_has ls 8 [(5, Value.int (nI (k + 1))), (4, Value.int ((nmI pb i pm (k + 1)).2.2)), (3, Value.int ((nmI pb i pm (k + 1)).2.1)), (2, Value.int ((nmI pb i pm (k + 1)).1)), (0, Value.ref (a 5)), (1, Value.int i)] := lv_as hl (congrArg (fun z => [(5, Value.int (nI (k + 1))), (4, Value.int ((nmI pb i pm (k + 1)).2.2)), (3, Value.int ((nmI pb i pm (k + 1)).2.1)), (2, Value.int z), (0, Value.ref (a 5)), (1, Value.int i)]) eq9_2)
          exact ih13 (k + 1) (by omega) (by omega) _ _ _ hP hD hS hl
  have eq10_0 : (0 : Int32) = nI 0 := by
    rfl
  have eq11_1 : pm = (nmI pb i pm 0).2.2 := by
    rfl
  have eq12_2 : (0 : Int32) = (nmI pb i pm 0).2.1 := by
    rfl
  have eq13_3 : (0 : Int32) = (nmI pb i pm 0).1 := by
    rfl
  have hl := lv_sub hl [0, 1, 2, 3, 4, 5] rfl
  have hl : lv_has ls 8 [(5, Value.int (0 : Int32)), (4, Value.int pm), (3, Value.int (0 : Int32)), (2, Value.int (0 : Int32)), (0, Value.ref (a 5)), (1, Value.int i)] := hl
  have hl : lv_has ls 8 [(5, Value.int (nI 0)), (4, Value.int pm), (3, Value.int (0 : Int32)), (2, Value.int (0 : Int32)), (0, Value.ref (a 5)), (1, Value.int i)] := lv_as hl (congrArg (fun z => [(5, Value.int z), (4, Value.int pm), (3, Value.int (0 : Int32)), (2, Value.int (0 : Int32)), (0, Value.ref (a 5)), (1, Value.int i)]) eq10_0)
  have hl : lv_has ls 8 [(5, Value.int (nI 0)), (4, Value.int ((nmI pb i pm 0).2.2)), (3, Value.int (0 : Int32)), (2, Value.int (0 : Int32)), (0, Value.ref (a 5)), (1, Value.int i)] := lv_as hl (congrArg (fun z => [(5, Value.int (nI 0)), (4, Value.int z), (3, Value.int (0 : Int32)), (2, Value.int (0 : Int32)), (0, Value.ref (a 5)), (1, Value.int i)]) eq11_1)
  have hl : lv_has ls 8 [(5, Value.int (nI 0)), (4, Value.int ((nmI pb i pm 0).2.2)), (3, Value.int ((nmI pb i pm 0).2.1)), (2, Value.int (0 : Int32)), (0, Value.ref (a 5)), (1, Value.int i)] := lv_as hl (congrArg (fun z => [(5, Value.int (nI 0)), (4, Value.int ((nmI pb i pm 0).2.2)), (3, Value.int z), (2, Value.int (0 : Int32)), (0, Value.ref (a 5)), (1, Value.int i)]) eq12_2)
  have hl : lv_has ls 8 [(5, Value.int (nI 0)), (4, Value.int ((nmI pb i pm 0).2.2)), (3, Value.int ((nmI pb i pm 0).2.1)), (2, Value.int ((nmI pb i pm 0).1)), (0, Value.ref (a 5)), (1, Value.int i)] := lv_as hl (congrArg (fun z => [(5, Value.int (nI 0)), (4, Value.int ((nmI pb i pm 0).2.2)), (3, Value.int ((nmI pb i pm 0).2.1)), (2, Value.int z), (0, Value.ref (a 5)), (1, Value.int i)]) eq13_3)
  exact LP13 (8 - 0 + 1) 0 (by omega) (Nat.lt_succ_self _) _ _ _ hP hD hS hl
set_option maxHeartbeats 800000 in
set_option maxRecDepth 100000 in
theorem c_X2_reach (l : Launch) (D : va_G) (y : Nat → ClassId) (a : Nat → Nat) (cap clr : Int32) (t : Nat) (hom mov : Int32) (wm : Int64) (tb tf ts : Int32) (nw : Nat) (wf wt : Nat → Int32) (nb : Nat) (bw bl bi bb : Nat → Int32) (no : Nat) (od ow ol ork ob olf oco : Nat → Int32) (nl : Nat) (pb pm : Int32) (pcd pw pli : Nat → Int32) (i : Int32) (v : Int32) (q9 : Nat) (hq9 : (nmI pb i pm 8).1 = nI q9) (hq : q9 < 720) (hnl : pw q9 = 1000000 → nl < 720) (hn9 : nl ≤ 720) : zP l D y yX2_reach cX2_reach 4 (some .boolean) 2 0 0 48 [Value.ref (a 5), Value.int i, Value.int v] (wB a y cap clr (nI t) hom mov wm tb tf ts (nI nw) wf wt (nI nb) bw bl bi bb (nI no) od ow ol ork ob olf oco (nI nl) pb pm pcd pw pli) (fun o9 w9 => ∃ (pcd9 : Nat → Int32) (pw9 : Nat → Int32) (pli9 : Nat → Int32) (nl9 : Nat) (r9 : Bool), (rchR pcd pw pli nl i v q9 pcd9 pw9 pli9 nl9 r9) ∧ o9 = some (Value.int (bI r9)) ∧ w9 = wB a y cap clr (nI t) hom mov wm tb tf ts (nI nw) wf wt (nI nb) bw bl bi bb (nI no) od ow ol ork ob olf oco (nI nl9) pb pm pcd9 pw9 pli9) := by
  refine zP.of (by decide +kernel) (Nat.le_of_ble_eq_true rfl) ?_
  intro p e s m args below meth c A ls hx hb hr hta hown hlocks hml hin hN hK hP hD hS hA hl
  refine z_gen (fun G hG => ?_)
  have hl : lv_has ls 4 [(0, Value.ref (a 5)), (1, Value.int i), (2, Value.int v)] := hl
  refine lv_aload_n hx hb dX2_reach_0 rfl (lv_at hl 0 rfl) ?_
  refine lv_iload_n hx hb dX2_reach_1 rfl (lv_at hl 1 rfl) ?_
  refine z_callV (As := [Value.int i]) (rest := []) hx hb hml hown hta zm_X2_numberOf wd_30_20 (c_X2_numberOf l D y a cap clr t hom mov wm tb tf ts nw wf wt nb bw bl bi bb no od ow ol ork ob olf oco (nI nl) pb pm pcd pw pli i) hN hK hP hD hS hA 5 rfl rfl rfl hl rfl (Nat.le_of_ble_eq_true rfl) ⟨Nat.le_of_ble_eq_true rfl, Nat.le_of_ble_eq_true rfl⟩ ⟨Nat.le_of_ble_eq_true rfl, Nat.le_of_ble_eq_true rfl⟩ dX2_reach_2 (fun v w' H locs hq hP hD hS => ?_)
  obtain ⟨rfl, rfl⟩ := hq
  refine zr_top (y := nI q9) hq9 ?_
  refine lv_istore_n (lv' := [(3, Value.int (nI q9)), (0, Value.ref (a 5)), (1, Value.int i), (2, Value.int v)]) hx hb dX2_reach_5 rfl hl (by decide) rfl (fun ls hl => ?_)
  refine lv_iload_n hx hb dX2_reach_6 rfl (lv_at hl 0 rfl) ?_
  refine lv_if_lt (tgt := 27) hx hb dX2_reach_7 (by decide) (fun c7 => ?_) (fun c7 => ?_)
  · have c7 : q9 < 0 := (nI_ltI (a := q9) (b := 0) (by omega) (by omega)).mp c7
    refine lv_iconst (v := (0 : Int32)) hx hb dX2_reach_27 (by decide) ?_
    refine z_zret hG hx hb hr hlocks hP hD hS (Nat.le_of_ble_eq_true rfl) (Nat.le_of_ble_eq_true rfl) dX2_reach_28 ?_ ?_
    · rfl
    · first
      | exact absurd c7 (by omega)
      | exact absurd c14 (by omega)
      | exact ⟨pcd, pw, pli, nl, false, Or.inl ⟨Int32.not_lt.mpr (Int32.not_lt.mp (fun z => c24 z)), rfl, rfl, rfl, rfl, rfl⟩, rfl, rfl⟩
  · have c7 : ¬ q9 < 0 := fun z => c7 ((nI_ltI (a := q9) (b := 0) (by omega) (by omega)).mpr z)
    refine lv_iload_n hx hb dX2_reach_10 rfl (lv_at hl 0 rfl) ?_
    refine lv_sipush (v := (720 : Int32)) hx hb dX2_reach_11 (by decide) ?_
    refine lv_icmp_ge (tgt := 27) hx hb dX2_reach_14 (by decide) (fun c14 => ?_) (fun c14 => ?_)
    · have c14 : 720 ≤ q9 := (nI_leI (a := 720) (b := q9) (by omega) (by omega)).mp c14
      refine lv_iconst (v := (0 : Int32)) hx hb dX2_reach_27 (by decide) ?_
      refine z_zret hG hx hb hr hlocks hP hD hS (Nat.le_of_ble_eq_true rfl) (Nat.le_of_ble_eq_true rfl) dX2_reach_28 ?_ ?_
      · rfl
      · first
        | exact absurd c7 (by omega)
        | exact absurd c14 (by omega)
        | exact ⟨pcd, pw, pli, nl, false, Or.inl ⟨Int32.not_lt.mpr (Int32.not_lt.mp (fun z => c24 z)), rfl, rfl, rfl, rfl, rfl⟩, rfl, rfl⟩
    · have c14 : ¬ 720 ≤ q9 := fun z => c14 ((nI_leI (a := 720) (b := q9) (by omega) (by omega)).mpr z)
      refine lv_iload_n hx hb dX2_reach_17 rfl (lv_at hl 3 rfl) ?_
      refine lv_aload_n hx hb dX2_reach_18 rfl (lv_at hl 1 rfl) ?_
      refine gB2_weight hx hb hta hown hK hP wd_4_4 dX2_reach_19 ?_
      refine lv_iload_n hx hb dX2_reach_22 rfl (lv_at hl 0 rfl) ?_
      refine aB_pw hx hb hK hP q9 rfl (by omega) dX2_reach_23 ?_
      refine lv_icmp_lt (tgt := 29) hx hb dX2_reach_24 (by decide) (fun c24 => ?_) (fun c24 => ?_)
      · refine lv_aload_n hx hb dX2_reach_29 rfl (lv_at hl 1 rfl) ?_
        refine gB2_weight hx hb hta hown hK hP wd_4_4 dX2_reach_30 ?_
        refine lv_iload_n hx hb dX2_reach_33 rfl (lv_at hl 0 rfl) ?_
        refine aB_pw hx hb hK hP q9 rfl (by omega) dX2_reach_34 ?_
        refine lv_ldc (v := (1000000 : Int32)) hx hb hown (hta _ wd_30_11) dX2_reach_35 ?_
        refine lv_icmp_ne (tgt := 77) hx hb dX2_reach_37 (by decide) (fun c37 => ?_) (fun c37 => ?_)
        · refine lv_aload_n hx hb dX2_reach_77 rfl (lv_at hl 1 rfl) ?_
          refine gB2_weight hx hb hta hown hK hP wd_4_4 dX2_reach_78 ?_
          refine lv_iload_n hx hb dX2_reach_81 rfl (lv_at hl 0 rfl) ?_
          refine lv_iload_n hx hb dX2_reach_82 rfl (lv_at hl 3 rfl) ?_
          refine sB_pw hx hb hK hP hD hS q9 rfl (by omega) dX2_reach_83 (fun H locs hP hD hS => ?_)
          refine lv_iconst (v := (1 : Int32)) hx hb dX2_reach_84 (by decide) ?_
          refine z_zret hG hx hb hr hlocks hP hD hS (Nat.le_of_ble_eq_true rfl) (Nat.le_of_ble_eq_true rfl) dX2_reach_85 ?_ ?_
          · rfl
          · first
            | exact ⟨_, _, _, _, true, Or.inr ⟨c24, rfl, rfl, Or.inl ⟨c37, rfl, rfl, rfl⟩⟩, rfl, rfl⟩
            | exact ⟨_, _, _, _, true, Or.inr ⟨c24, rfl, rfl, Or.inr ⟨c37, rfl, rfl, rfl⟩⟩, rfl, rfl⟩
            | exact absurd (hnl c37) (by omega)
        · refine lv_aload_n hx hb dX2_reach_40 rfl (lv_at hl 1 rfl) ?_
          refine gB2_listed hx hb hta hown hK hP wd_4_6 dX2_reach_41 ?_
          refine lv_sipush (v := (720 : Int32)) hx hb dX2_reach_44 (by decide) ?_
          refine lv_icmp_ge (tgt := 77) hx hb dX2_reach_47 (by decide) (fun c47 => ?_) (fun c47 => ?_)
          · have c47 : 720 ≤ nl := (nI_leI (a := 720) (b := nl) (by omega) (by omega)).mp c47
            refine lv_aload_n hx hb dX2_reach_77 rfl (lv_at hl 1 rfl) ?_
            refine gB2_weight hx hb hta hown hK hP wd_4_4 dX2_reach_78 ?_
            refine lv_iload_n hx hb dX2_reach_81 rfl (lv_at hl 0 rfl) ?_
            refine lv_iload_n hx hb dX2_reach_82 rfl (lv_at hl 3 rfl) ?_
            refine sB_pw hx hb hK hP hD hS q9 rfl (by omega) dX2_reach_83 (fun H locs hP hD hS => ?_)
            refine lv_iconst (v := (1 : Int32)) hx hb dX2_reach_84 (by decide) ?_
            refine z_zret hG hx hb hr hlocks hP hD hS (Nat.le_of_ble_eq_true rfl) (Nat.le_of_ble_eq_true rfl) dX2_reach_85 ?_ ?_
            · rfl
            · first
              | exact ⟨_, _, _, _, true, Or.inr ⟨c24, rfl, rfl, Or.inl ⟨c37, rfl, rfl, rfl⟩⟩, rfl, rfl⟩
              | exact ⟨_, _, _, _, true, Or.inr ⟨c24, rfl, rfl, Or.inr ⟨c37, rfl, rfl, rfl⟩⟩, rfl, rfl⟩
              | exact absurd (hnl c37) (by omega)
          · have c47 : ¬ 720 ≤ nl := fun z => c47 ((nI_leI (a := 720) (b := nl) (by omega) (by omega)).mpr z)
            refine lv_aload_n hx hb dX2_reach_50 rfl (lv_at hl 1 rfl) ?_
            refine gB2_list hx hb hta hown hK hP wd_4_5 dX2_reach_51 ?_
            refine lv_aload_n hx hb dX2_reach_54 rfl (lv_at hl 1 rfl) ?_
            refine gB2_listed hx hb hta hown hK hP wd_4_6 dX2_reach_55 ?_
            refine lv_iload_n hx hb dX2_reach_58 rfl (lv_at hl 0 rfl) ?_
            refine sB_pli hx hb hK hP hD hS nl rfl (by omega) dX2_reach_59 (fun H locs hP hD hS => ?_)
            refine lv_aload_n hx hb dX2_reach_60 rfl (lv_at hl 1 rfl) ?_
            refine lv_dup hx hb dX2_reach_61 rfl ?_
            refine gB2_listed hx hb hta hown hK hP wd_4_6 dX2_reach_62 ?_
            refine lv_iconst (v := (1 : Int32)) hx hb dX2_reach_65 (by decide) ?_
            refine lv_iadd hx hb dX2_reach_66 ?_
            refine zr_top (y := nI (nl + 1)) (nI_add nl 1) ?_
            refine pB2_listed hx hb hta hown hK hP hD hS wd_4_6 dX2_reach_67 (fun H locs hP hD hS => ?_)
            refine lv_aload_n hx hb dX2_reach_70 rfl (lv_at hl 1 rfl) ?_
            refine gB2_code hx hb hta hown hK hP wd_4_3 dX2_reach_71 ?_
            refine lv_iload_n hx hb dX2_reach_74 rfl (lv_at hl 0 rfl) ?_
            refine lv_iload_n hx hb dX2_reach_75 rfl (lv_at hl 2 rfl) ?_
            refine sB_pcd hx hb hK hP hD hS q9 rfl (by omega) dX2_reach_76 (fun H locs hP hD hS => ?_)
            refine lv_aload_n hx hb dX2_reach_77 rfl (lv_at hl 1 rfl) ?_
            refine gB2_weight hx hb hta hown hK hP wd_4_4 dX2_reach_78 ?_
            refine lv_iload_n hx hb dX2_reach_81 rfl (lv_at hl 0 rfl) ?_
            refine lv_iload_n hx hb dX2_reach_82 rfl (lv_at hl 3 rfl) ?_
            refine sB_pw hx hb hK hP hD hS q9 rfl (by omega) dX2_reach_83 (fun H locs hP hD hS => ?_)
            refine lv_iconst (v := (1 : Int32)) hx hb dX2_reach_84 (by decide) ?_
            refine z_zret hG hx hb hr hlocks hP hD hS (Nat.le_of_ble_eq_true rfl) (Nat.le_of_ble_eq_true rfl) dX2_reach_85 ?_ ?_
            · rfl
            · first
              | exact ⟨_, _, _, _, true, Or.inr ⟨c24, rfl, rfl, Or.inl ⟨c37, rfl, rfl, rfl⟩⟩, rfl, rfl⟩
              | exact ⟨_, _, _, _, true, Or.inr ⟨c24, rfl, rfl, Or.inr ⟨c37, rfl, rfl, rfl⟩⟩, rfl, rfl⟩
              | exact absurd (hnl c37) (by omega)
      · refine lv_iconst (v := (0 : Int32)) hx hb dX2_reach_27 (by decide) ?_
        refine z_zret hG hx hb hr hlocks hP hD hS (Nat.le_of_ble_eq_true rfl) (Nat.le_of_ble_eq_true rfl) dX2_reach_28 ?_ ?_
        · rfl
        · first
          | exact absurd c7 (by omega)
          | exact absurd c14 (by omega)
          | exact ⟨pcd, pw, pli, nl, false, Or.inl ⟨Int32.not_lt.mpr (Int32.not_lt.mp (fun z => c24 z)), rfl, rfl, rfl, rfl, rfl⟩, rfl, rfl⟩
set_option maxHeartbeats 800000 in
set_option maxRecDepth 100000 in
theorem c_X2_takeLeast (l : Launch) (D : va_G) (y : Nat → ClassId) (a : Nat → Nat) (cap clr : Int32) (t : Nat) (hom mov : Int32) (wm : Int64) (tb tf ts : Int32) (nw : Nat) (wf wt : Nat → Int32) (nb : Nat) (bw bl bi bb : Nat → Int32) (no : Nat) (od ow ol ork ob olf oco : Nat → Int32) (nl : Nat) (pb pm : Int32) (pcd pw pli : Nat → Int32)  (hn0 : 0 < nl) (hn7 : nl ≤ 720) (hli : ∀ i, i < nl → ∃ x, x < 720 ∧ pli i = nI x) : zP l D y yX2_takeLeast cX2_takeLeast 3 (some .int) 0 0 0 0 [Value.ref (a 5)] (wB a y cap clr (nI t) hom mov wm tb tf ts (nI nw) wf wt (nI nb) bw bl bi bb (nI no) od ow ol ork ob olf oco (nI nl) pb pm pcd pw pli) (fun o9 w9 => ∃ (i9 : Nat) (q9 : Nat) (pli9 : Nat → Int32), (tkR pw pli nl i9 q9 pli9) ∧ o9 = some (Value.int (nI q9)) ∧ w9 = wB a y cap clr (nI t) hom mov wm tb tf ts (nI nw) wf wt (nI nb) bw bl bi bb (nI no) od ow ol ork ob olf oco (nI (nl - 1)) pb pm pcd pw pli9) := by
  refine zP.of (by decide +kernel) (Nat.le_of_ble_eq_true rfl) ?_
  intro p e s m args below meth c A ls hx hb hr hta hown hlocks hml hin hN hK hP hD hS hA hl
  refine z_gen (fun G hG => ?_)
  have hl : lv_has ls 3 [(0, Value.ref (a 5))] := hl
  refine lv_iconst (v := (0 : Int32)) hx hb dX2_takeLeast_0 (by decide) ?_
  refine lv_istore_n (lv' := [(1, Value.int (0 : Int32)), (0, Value.ref (a 5))]) hx hb dX2_takeLeast_1 rfl hl (by decide) rfl (fun ls hl => ?_)
  refine lv_iconst (v := (1 : Int32)) hx hb dX2_takeLeast_2 (by decide) ?_
  refine lv_istore_n (lv' := [(2, Value.int (1 : Int32)), (1, Value.int (0 : Int32)), (0, Value.ref (a 5))]) hx hb dX2_takeLeast_3 rfl hl (by decide) rfl (fun ls hl => ?_)
  have LP4 : ∀ (n : Nat) (i9 : Nat) (k : Nat), (k ≤ nl) → (1 ≤ k) → (i9 < nl) → (∀ x z, x < k → pli x = nI z → z < 720 → ∀ u, pli i9 = nI u → u < 720 → pw u ≤ pw z) → nl - k < n → ∀ (H : Heap) (locs : List Loc) (ls : Array Slot), va_P D vwCl (wB a y cap clr (nI t) hom mov wm tb tf ts (nI nw) wf wt (nI nb) bw bl bi bb (nI no) od ow ol ork ob olf oco (nI nl) pb pm pcd pw pli) H → va_D A (wB a y cap clr (nI t) hom mov wm tb tf ts (nI nw) wf wt (nI nb) bw bl bi bb (nI no) od ow ol ork ob olf oco (nI nl) pb pm pcd pw pli) → va_S A s.heap H locs → lv_has ls 3 [(2, Value.int (nI k)), (1, Value.int (nI i9)), (0, Value.ref (a 5))] → W p l e ({ frames := 0, cells := 0, slots := 0, locals := 0 } : Room) s m args below meth c H locs 0 0 G (F0 m 4 ls []) := by
    intro n
    induction n with
    | zero => intro i9 k hk hk1 hi9 hmin hn; exact absurd hn (Nat.not_lt_zero _)
    | succ n ih4 =>
      intro i9 k hk hk1 hi9 hmin hn H locs ls hP hD hS hl
      refine lv_iload_n hx hb dX2_takeLeast_4 rfl (lv_at hl 0 rfl) ?_
      refine lv_aload_n hx hb dX2_takeLeast_5 rfl (lv_at hl 2 rfl) ?_
      refine gB2_listed hx hb hta hown hK hP wd_4_6 dX2_takeLeast_6 ?_
      refine lv_icmp_ge (tgt := 45) hx hb dX2_takeLeast_9 (by decide) (fun c9 => ?_) (fun c9 => ?_)
      · have c9 : nl ≤ k := (nI_leI (a := nl) (b := k) (by omega) (by omega)).mp c9
        refine lv_aload_n hx hb dX2_takeLeast_45 rfl (lv_at hl 2 rfl) ?_
        refine gB2_list hx hb hta hown hK hP wd_4_5 dX2_takeLeast_46 ?_
        obtain ⟨q9, hqb, hq9⟩ := hli i9 hi9
        refine lv_iload_n hx hb dX2_takeLeast_49 rfl (lv_at hl 1 rfl) ?_
        refine aB_pli hx hb hK hP i9 rfl (by omega) dX2_takeLeast_50 ?_
        refine zr_top (y := nI q9) hq9 ?_
        refine lv_istore_n (lv' := [(2, Value.int (nI q9)), (1, Value.int (nI i9)), (0, Value.ref (a 5))]) hx hb dX2_takeLeast_51 rfl hl (by decide) rfl (fun ls hl => ?_)
        refine lv_aload_n hx hb dX2_takeLeast_52 rfl (lv_at hl 2 rfl) ?_
        refine gB2_listed hx hb hta hown hK hP wd_4_6 dX2_takeLeast_53 ?_
        refine lv_if_le (tgt := 84) hx hb dX2_takeLeast_56 (by decide) (fun c56 => ?_) (fun c56 => ?_)
        · have c56 : nl ≤ 0 := (nI_leI (a := nl) (b := 0) (by omega) (by omega)).mp c56
          refine lv_iload_n hx hb dX2_takeLeast_84 rfl (lv_at hl 0 rfl) ?_
          refine z_iret hG hx hb hr hlocks hP hD hS (Nat.le_of_ble_eq_true rfl) (Nat.le_of_ble_eq_true rfl) dX2_takeLeast_85 ?_
          first
          | exact absurd c56 (by omega)
          | exact ⟨i9, q9, _, ⟨hi9, hq9, hqb, fun x z hx hz hz7 => hmin x z (by omega) hz hz7 q9 hq9 hqb, rfl⟩, rfl, rfl⟩
        · have c56 : ¬ nl ≤ 0 := fun z => c56 ((nI_leI (a := nl) (b := 0) (by omega) (by omega)).mpr z)
          refine lv_aload_n hx hb dX2_takeLeast_59 rfl (lv_at hl 2 rfl) ?_
          refine lv_dup hx hb dX2_takeLeast_60 rfl ?_
          refine gB2_listed hx hb hta hown hK hP wd_4_6 dX2_takeLeast_61 ?_
          refine lv_iconst (v := (1 : Int32)) hx hb dX2_takeLeast_64 (by decide) ?_
          refine lv_isub hx hb dX2_takeLeast_65 ?_
          refine zr_top (y := nI (nl - 1)) (pk_sub (b := 1) (by omega)) ?_
          refine pB2_listed hx hb hta hown hK hP hD hS wd_4_6 dX2_takeLeast_66 (fun H locs hP hD hS => ?_)
          refine lv_aload_n hx hb dX2_takeLeast_69 rfl (lv_at hl 2 rfl) ?_
          refine gB2_list hx hb hta hown hK hP wd_4_5 dX2_takeLeast_70 ?_
          refine lv_iload_n hx hb dX2_takeLeast_73 rfl (lv_at hl 1 rfl) ?_
          refine lv_aload_n hx hb dX2_takeLeast_74 rfl (lv_at hl 2 rfl) ?_
          refine gB2_list hx hb hta hown hK hP wd_4_5 dX2_takeLeast_75 ?_
          refine lv_aload_n hx hb dX2_takeLeast_78 rfl (lv_at hl 2 rfl) ?_
          refine gB2_listed hx hb hta hown hK hP wd_4_6 dX2_takeLeast_79 ?_
          refine aB_pli hx hb hK hP (nl - 1) rfl (by omega) dX2_takeLeast_82 ?_
          refine sB_pli hx hb hK hP hD hS i9 rfl (by omega) dX2_takeLeast_83 (fun H locs hP hD hS => ?_)
          refine lv_iload_n hx hb dX2_takeLeast_84 rfl (lv_at hl 0 rfl) ?_
          refine z_iret hG hx hb hr hlocks hP hD hS (Nat.le_of_ble_eq_true rfl) (Nat.le_of_ble_eq_true rfl) dX2_takeLeast_85 ?_
          first
          | exact absurd c56 (by omega)
          | exact ⟨i9, q9, _, ⟨hi9, hq9, hqb, fun x z hx hz hz7 => hmin x z (by omega) hz hz7 q9 hq9 hqb, rfl⟩, rfl, rfl⟩
      · have c9 : ¬ nl ≤ k := fun z => c9 ((nI_leI (a := nl) (b := k) (by omega) (by omega)).mpr z)
        refine lv_aload_n hx hb dX2_takeLeast_12 rfl (lv_at hl 2 rfl) ?_
        refine gB2_weight hx hb hta hown hK hP wd_4_4 dX2_takeLeast_13 ?_
        refine lv_aload_n hx hb dX2_takeLeast_16 rfl (lv_at hl 2 rfl) ?_
        refine gB2_list hx hb hta hown hK hP wd_4_5 dX2_takeLeast_17 ?_
        refine lv_iload_n hx hb dX2_takeLeast_20 rfl (lv_at hl 0 rfl) ?_
        obtain ⟨z9, ezb, ez⟩ := hli k (by omega)
        refine aB_pli hx hb hK hP k rfl (by omega) dX2_takeLeast_21 ?_
        refine aB_pw hx hb hK hP z9 ez ezb dX2_takeLeast_22 ?_
        refine lv_aload_n hx hb dX2_takeLeast_23 rfl (lv_at hl 2 rfl) ?_
        refine gB2_weight hx hb hta hown hK hP wd_4_4 dX2_takeLeast_24 ?_
        refine lv_aload_n hx hb dX2_takeLeast_27 rfl (lv_at hl 2 rfl) ?_
        refine gB2_list hx hb hta hown hK hP wd_4_5 dX2_takeLeast_28 ?_
        refine lv_iload_n hx hb dX2_takeLeast_31 rfl (lv_at hl 1 rfl) ?_
        obtain ⟨y9, eyb, ey⟩ := hli i9 hi9
        refine aB_pli hx hb hK hP i9 rfl (by omega) dX2_takeLeast_32 ?_
        refine aB_pw hx hb hK hP y9 ey eyb dX2_takeLeast_33 ?_
        refine lv_icmp_ge (tgt := 39) hx hb dX2_takeLeast_34 (by decide) (fun c34 => ?_) (fun c34 => ?_)
        · refine lv_iinc (v := nI (k + 1)) (lv' := [(2, Value.int (nI (k + 1))), (1, Value.int (nI i9)), (0, Value.ref (a 5))]) hx hb dX2_takeLeast_39 hl (k := 0) rfl (nI_add k 1) (by decide) rfl (fun ls hl => ?_)
          refine lv_goto (tgt := 4) hx hb dX2_takeLeast_42 (by decide) ?_
          have hl := lv_sub hl [0, 1, 2] rfl
          have hv1_hmin : ∀ x z, x < (k + 1) → pli x = nI z → z < 720 → ∀ u, pli i9 = nI u → u < 720 → pw u ≤ pw z := by
            first
            | exact tk_keep hmin ez ezb ey eyb (Int32.not_lt.mp c34)
            | exact tk_new hmin ez ezb ey eyb (Int32.not_le.mp c34)
            | exact tk_new hmin ez ezb ey eyb c34
            | exact tk_keep hmin ez ezb ey eyb c34
          exact ih4 i9 (k + 1) (by omega) (by omega) (by omega) hv1_hmin (by omega) _ _ _ hP hD hS hl
        · refine lv_iload_n hx hb dX2_takeLeast_37 rfl (lv_at hl 0 rfl) ?_
          refine lv_istore_n (lv' := [(1, Value.int (nI k)), (2, Value.int (nI k)), (0, Value.ref (a 5))]) hx hb dX2_takeLeast_38 rfl hl (by decide) rfl (fun ls hl => ?_)
          refine lv_iinc (v := nI (k + 1)) (lv' := [(2, Value.int (nI (k + 1))), (1, Value.int (nI k)), (0, Value.ref (a 5))]) hx hb dX2_takeLeast_39 hl (k := 1) rfl (nI_add k 1) (by decide) rfl (fun ls hl => ?_)
          refine lv_goto (tgt := 4) hx hb dX2_takeLeast_42 (by decide) ?_
          have hl := lv_sub hl [0, 1, 2] rfl
          have hv2_hmin : ∀ x z, x < (k + 1) → pli x = nI z → z < 720 → ∀ u, pli k = nI u → u < 720 → pw u ≤ pw z := by
            first
            | exact tk_keep hmin ez ezb ey eyb (Int32.not_lt.mp c34)
            | exact tk_new hmin ez ezb ey eyb (Int32.not_le.mp c34)
            | exact tk_new hmin ez ezb ey eyb c34
            | exact tk_keep hmin ez ezb ey eyb c34
          exact ih4 k (k + 1) (by omega) (by omega) (by omega) hv2_hmin (by omega) _ _ _ hP hD hS hl
  have eq3_0 : (1 : Int32) = nI 1 := by
    rfl
  have eq4_1 : (0 : Int32) = nI 0 := by
    rfl
  have hl := lv_sub hl [0, 1, 2] rfl
  have hl : lv_has ls 3 [(2, Value.int (1 : Int32)), (1, Value.int (0 : Int32)), (0, Value.ref (a 5))] := hl
  have hl : lv_has ls 3 [(2, Value.int (nI 1)), (1, Value.int (0 : Int32)), (0, Value.ref (a 5))] := lv_as hl (congrArg (fun z => [(2, Value.int z), (1, Value.int (0 : Int32)), (0, Value.ref (a 5))]) eq3_0)
  have hl : lv_has ls 3 [(2, Value.int (nI 1)), (1, Value.int (nI 0)), (0, Value.ref (a 5))] := lv_as hl (congrArg (fun z => [(2, Value.int (nI 1)), (1, Value.int z), (0, Value.ref (a 5))]) eq4_1)
  have hv5_hmin : ∀ x z, x < 1 → pli x = nI z → z < 720 → ∀ u, pli 0 = nI u → u < 720 → pw u ≤ pw z := by
    intro x z hx hz hz7 u hu hu7
    obtain rfl : x = 0 := by omega
    rw [hz] at hu
    rw [(nI_eq (by omega) (by omega)).mp hu]; exact Int32.le_refl _
  exact LP4 (nl - 1 + 1) 0 1 (by omega) (by omega) (by omega) hv5_hmin (Nat.lt_succ_self _) _ _ _ hP hD hS hl
