set_option maxHeartbeats 800000 in
set_option maxRecDepth 100000 in
/-- the JDK counts bits -/
theorem c_J6_bitCount_0f7a4 (l : Launch) (D : va_G) (y : Nat → ClassId) (a : Nat → Nat) (cap clr : Int32) (t : Nat) (hom mov : Int32) (wm : Int64) (tb tf ts : Int32) (nw : Nat) (wf wt : Nat → Int32) (nb : Nat) (bw bl bi bb : Nat → Int32) (no : Nat) (od ow ol ork ob olf oco : Nat → Int32) (pn pb pm : Int32) (pcd pw pli : Nat → Int32) (i : Int32)  : zP l D y yJ6_bitCount_0f7a4 cJ6_bitCount_0f7a4 1 (some .int) 0 0 0 0 [Value.int i] (wB a y cap clr (nI t) hom mov wm tb tf ts (nI nw) wf wt (nI nb) bw bl bi bb (nI no) od ow ol ork ob olf oco pn pb pm pcd pw pli) (fun o9 w9 => o9 = some (Value.int (bcE i)) ∧ w9 = wB a y cap clr (nI t) hom mov wm tb tf ts (nI nw) wf wt (nI nb) bw bl bi bb (nI no) od ow ol ork ob olf oco pn pb pm pcd pw pli) := by
  refine zP.of (by decide +kernel) (Nat.le_of_ble_eq_true rfl) ?_
  intro p e s m args below meth c A ls hx hb hr hta hown hlocks hml hin hN hK hP hD hS hA hl
  refine z_gen (fun G hG => ?_)
  have hl : lv_has ls 1 [(0, Value.int i)] := hl
  refine lv_iload_n hx hb dJ6_bitCount_0f7a4_0 rfl (lv_at hl 0 rfl) ?_
  refine lv_iload_n hx hb dJ6_bitCount_0f7a4_1 rfl (lv_at hl 0 rfl) ?_
  refine lv_iconst (v := (1 : Int32)) hx hb dJ6_bitCount_0f7a4_2 (by decide) ?_
  refine lv_iushr (v := ((i).toUInt32 >>> (((1 : Int32)).toUInt32 &&& Int32.toUInt32 31)).toInt32) hx hb dJ6_bitCount_0f7a4_3 rfl ?_
  refine lv_ldcw (v := (1431655765 : Int32)) hx hb hown (hta _ wd_31_7) dJ6_bitCount_0f7a4_4 ?_
  refine lv_iand hx hb dJ6_bitCount_0f7a4_7 ?_
  refine lv_isub hx hb dJ6_bitCount_0f7a4_8 ?_
  refine lv_istore_n (lv' := [(0, Value.int (i - ((((i).toUInt32 >>> (((1 : Int32)).toUInt32 &&& Int32.toUInt32 31)).toInt32) &&& (1431655765 : Int32))))]) hx hb dJ6_bitCount_0f7a4_9 rfl hl (by decide) rfl (fun ls hl => ?_)
  refine lv_iload_n hx hb dJ6_bitCount_0f7a4_10 rfl (lv_at hl 0 rfl) ?_
  refine lv_ldcw (v := (858993459 : Int32)) hx hb hown (hta _ wd_31_8) dJ6_bitCount_0f7a4_11 ?_
  refine lv_iand hx hb dJ6_bitCount_0f7a4_14 ?_
  refine lv_iload_n hx hb dJ6_bitCount_0f7a4_15 rfl (lv_at hl 0 rfl) ?_
  refine lv_iconst (v := (2 : Int32)) hx hb dJ6_bitCount_0f7a4_16 (by decide) ?_
  refine lv_iushr (v := ((i - ((((i).toUInt32 >>> (((1 : Int32)).toUInt32 &&& Int32.toUInt32 31)).toInt32) &&& (1431655765 : Int32))).toUInt32 >>> (((2 : Int32)).toUInt32 &&& Int32.toUInt32 31)).toInt32) hx hb dJ6_bitCount_0f7a4_17 rfl ?_
  refine lv_ldcw (v := (858993459 : Int32)) hx hb hown (hta _ wd_31_8) dJ6_bitCount_0f7a4_18 ?_
  refine lv_iand hx hb dJ6_bitCount_0f7a4_21 ?_
  refine lv_iadd hx hb dJ6_bitCount_0f7a4_22 ?_
  refine lv_istore_n (lv' := [(0, Value.int (((i - ((((i).toUInt32 >>> (((1 : Int32)).toUInt32 &&& Int32.toUInt32 31)).toInt32) &&& (1431655765 : Int32))) &&& (858993459 : Int32)) + ((((i - ((((i).toUInt32 >>> (((1 : Int32)).toUInt32 &&& Int32.toUInt32 31)).toInt32) &&& (1431655765 : Int32))).toUInt32 >>> (((2 : Int32)).toUInt32 &&& Int32.toUInt32 31)).toInt32) &&& (858993459 : Int32))))]) hx hb dJ6_bitCount_0f7a4_23 rfl hl (by decide) rfl (fun ls hl => ?_)
  refine lv_iload_n hx hb dJ6_bitCount_0f7a4_24 rfl (lv_at hl 0 rfl) ?_
  refine lv_iload_n hx hb dJ6_bitCount_0f7a4_25 rfl (lv_at hl 0 rfl) ?_
  refine lv_iconst (v := (4 : Int32)) hx hb dJ6_bitCount_0f7a4_26 (by decide) ?_
  refine lv_iushr (v := ((((i - ((((i).toUInt32 >>> (((1 : Int32)).toUInt32 &&& Int32.toUInt32 31)).toInt32) &&& (1431655765 : Int32))) &&& (858993459 : Int32)) + ((((i - ((((i).toUInt32 >>> (((1 : Int32)).toUInt32 &&& Int32.toUInt32 31)).toInt32) &&& (1431655765 : Int32))).toUInt32 >>> (((2 : Int32)).toUInt32 &&& Int32.toUInt32 31)).toInt32) &&& (858993459 : Int32))).toUInt32 >>> (((4 : Int32)).toUInt32 &&& Int32.toUInt32 31)).toInt32) hx hb dJ6_bitCount_0f7a4_27 rfl ?_
  refine lv_iadd hx hb dJ6_bitCount_0f7a4_28 ?_
  refine lv_ldcw (v := (252645135 : Int32)) hx hb hown (hta _ wd_31_9) dJ6_bitCount_0f7a4_29 ?_
  refine lv_iand hx hb dJ6_bitCount_0f7a4_32 ?_
  refine lv_istore_n (lv' := [(0, Value.int (((((i - ((((i).toUInt32 >>> (((1 : Int32)).toUInt32 &&& Int32.toUInt32 31)).toInt32) &&& (1431655765 : Int32))) &&& (858993459 : Int32)) + ((((i - ((((i).toUInt32 >>> (((1 : Int32)).toUInt32 &&& Int32.toUInt32 31)).toInt32) &&& (1431655765 : Int32))).toUInt32 >>> (((2 : Int32)).toUInt32 &&& Int32.toUInt32 31)).toInt32) &&& (858993459 : Int32))) + (((((i - ((((i).toUInt32 >>> (((1 : Int32)).toUInt32 &&& Int32.toUInt32 31)).toInt32) &&& (1431655765 : Int32))) &&& (858993459 : Int32)) + ((((i - ((((i).toUInt32 >>> (((1 : Int32)).toUInt32 &&& Int32.toUInt32 31)).toInt32) &&& (1431655765 : Int32))).toUInt32 >>> (((2 : Int32)).toUInt32 &&& Int32.toUInt32 31)).toInt32) &&& (858993459 : Int32))).toUInt32 >>> (((4 : Int32)).toUInt32 &&& Int32.toUInt32 31)).toInt32)) &&& (252645135 : Int32)))]) hx hb dJ6_bitCount_0f7a4_33 rfl hl (by decide) rfl (fun ls hl => ?_)
  refine lv_iload_n hx hb dJ6_bitCount_0f7a4_34 rfl (lv_at hl 0 rfl) ?_
  refine lv_iload_n hx hb dJ6_bitCount_0f7a4_35 rfl (lv_at hl 0 rfl) ?_
  refine lv_bipush (v := (8 : Int32)) hx hb dJ6_bitCount_0f7a4_36 (by decide) ?_
  refine lv_iushr (v := ((((((i - ((((i).toUInt32 >>> (((1 : Int32)).toUInt32 &&& Int32.toUInt32 31)).toInt32) &&& (1431655765 : Int32))) &&& (858993459 : Int32)) + ((((i - ((((i).toUInt32 >>> (((1 : Int32)).toUInt32 &&& Int32.toUInt32 31)).toInt32) &&& (1431655765 : Int32))).toUInt32 >>> (((2 : Int32)).toUInt32 &&& Int32.toUInt32 31)).toInt32) &&& (858993459 : Int32))) + (((((i - ((((i).toUInt32 >>> (((1 : Int32)).toUInt32 &&& Int32.toUInt32 31)).toInt32) &&& (1431655765 : Int32))) &&& (858993459 : Int32)) + ((((i - ((((i).toUInt32 >>> (((1 : Int32)).toUInt32 &&& Int32.toUInt32 31)).toInt32) &&& (1431655765 : Int32))).toUInt32 >>> (((2 : Int32)).toUInt32 &&& Int32.toUInt32 31)).toInt32) &&& (858993459 : Int32))).toUInt32 >>> (((4 : Int32)).toUInt32 &&& Int32.toUInt32 31)).toInt32)) &&& (252645135 : Int32)).toUInt32 >>> (((8 : Int32)).toUInt32 &&& Int32.toUInt32 31)).toInt32) hx hb dJ6_bitCount_0f7a4_38 rfl ?_
  refine lv_iadd hx hb dJ6_bitCount_0f7a4_39 ?_
  refine lv_istore_n (lv' := [(0, Value.int ((((((i - ((((i).toUInt32 >>> (((1 : Int32)).toUInt32 &&& Int32.toUInt32 31)).toInt32) &&& (1431655765 : Int32))) &&& (858993459 : Int32)) + ((((i - ((((i).toUInt32 >>> (((1 : Int32)).toUInt32 &&& Int32.toUInt32 31)).toInt32) &&& (1431655765 : Int32))).toUInt32 >>> (((2 : Int32)).toUInt32 &&& Int32.toUInt32 31)).toInt32) &&& (858993459 : Int32))) + (((((i - ((((i).toUInt32 >>> (((1 : Int32)).toUInt32 &&& Int32.toUInt32 31)).toInt32) &&& (1431655765 : Int32))) &&& (858993459 : Int32)) + ((((i - ((((i).toUInt32 >>> (((1 : Int32)).toUInt32 &&& Int32.toUInt32 31)).toInt32) &&& (1431655765 : Int32))).toUInt32 >>> (((2 : Int32)).toUInt32 &&& Int32.toUInt32 31)).toInt32) &&& (858993459 : Int32))).toUInt32 >>> (((4 : Int32)).toUInt32 &&& Int32.toUInt32 31)).toInt32)) &&& (252645135 : Int32)) + (((((((i - ((((i).toUInt32 >>> (((1 : Int32)).toUInt32 &&& Int32.toUInt32 31)).toInt32) &&& (1431655765 : Int32))) &&& (858993459 : Int32)) + ((((i - ((((i).toUInt32 >>> (((1 : Int32)).toUInt32 &&& Int32.toUInt32 31)).toInt32) &&& (1431655765 : Int32))).toUInt32 >>> (((2 : Int32)).toUInt32 &&& Int32.toUInt32 31)).toInt32) &&& (858993459 : Int32))) + (((((i - ((((i).toUInt32 >>> (((1 : Int32)).toUInt32 &&& Int32.toUInt32 31)).toInt32) &&& (1431655765 : Int32))) &&& (858993459 : Int32)) + ((((i - ((((i).toUInt32 >>> (((1 : Int32)).toUInt32 &&& Int32.toUInt32 31)).toInt32) &&& (1431655765 : Int32))).toUInt32 >>> (((2 : Int32)).toUInt32 &&& Int32.toUInt32 31)).toInt32) &&& (858993459 : Int32))).toUInt32 >>> (((4 : Int32)).toUInt32 &&& Int32.toUInt32 31)).toInt32)) &&& (252645135 : Int32)).toUInt32 >>> (((8 : Int32)).toUInt32 &&& Int32.toUInt32 31)).toInt32)))]) hx hb dJ6_bitCount_0f7a4_40 rfl hl (by decide) rfl (fun ls hl => ?_)
  refine lv_iload_n hx hb dJ6_bitCount_0f7a4_41 rfl (lv_at hl 0 rfl) ?_
  refine lv_iload_n hx hb dJ6_bitCount_0f7a4_42 rfl (lv_at hl 0 rfl) ?_
  refine lv_bipush (v := (16 : Int32)) hx hb dJ6_bitCount_0f7a4_43 (by decide) ?_
  refine lv_iushr (v := (((((((i - ((((i).toUInt32 >>> (((1 : Int32)).toUInt32 &&& Int32.toUInt32 31)).toInt32) &&& (1431655765 : Int32))) &&& (858993459 : Int32)) + ((((i - ((((i).toUInt32 >>> (((1 : Int32)).toUInt32 &&& Int32.toUInt32 31)).toInt32) &&& (1431655765 : Int32))).toUInt32 >>> (((2 : Int32)).toUInt32 &&& Int32.toUInt32 31)).toInt32) &&& (858993459 : Int32))) + (((((i - ((((i).toUInt32 >>> (((1 : Int32)).toUInt32 &&& Int32.toUInt32 31)).toInt32) &&& (1431655765 : Int32))) &&& (858993459 : Int32)) + ((((i - ((((i).toUInt32 >>> (((1 : Int32)).toUInt32 &&& Int32.toUInt32 31)).toInt32) &&& (1431655765 : Int32))).toUInt32 >>> (((2 : Int32)).toUInt32 &&& Int32.toUInt32 31)).toInt32) &&& (858993459 : Int32))).toUInt32 >>> (((4 : Int32)).toUInt32 &&& Int32.toUInt32 31)).toInt32)) &&& (252645135 : Int32)) + (((((((i - ((((i).toUInt32 >>> (((1 : Int32)).toUInt32 &&& Int32.toUInt32 31)).toInt32) &&& (1431655765 : Int32))) &&& (858993459 : Int32)) + ((((i - ((((i).toUInt32 >>> (((1 : Int32)).toUInt32 &&& Int32.toUInt32 31)).toInt32) &&& (1431655765 : Int32))).toUInt32 >>> (((2 : Int32)).toUInt32 &&& Int32.toUInt32 31)).toInt32) &&& (858993459 : Int32))) + (((((i - ((((i).toUInt32 >>> (((1 : Int32)).toUInt32 &&& Int32.toUInt32 31)).toInt32) &&& (1431655765 : Int32))) &&& (858993459 : Int32)) + ((((i - ((((i).toUInt32 >>> (((1 : Int32)).toUInt32 &&& Int32.toUInt32 31)).toInt32) &&& (1431655765 : Int32))).toUInt32 >>> (((2 : Int32)).toUInt32 &&& Int32.toUInt32 31)).toInt32) &&& (858993459 : Int32))).toUInt32 >>> (((4 : Int32)).toUInt32 &&& Int32.toUInt32 31)).toInt32)) &&& (252645135 : Int32)).toUInt32 >>> (((8 : Int32)).toUInt32 &&& Int32.toUInt32 31)).toInt32)).toUInt32 >>> (((16 : Int32)).toUInt32 &&& Int32.toUInt32 31)).toInt32) hx hb dJ6_bitCount_0f7a4_45 rfl ?_
  refine lv_iadd hx hb dJ6_bitCount_0f7a4_46 ?_
  refine lv_istore_n (lv' := [(0, Value.int (((((((i - ((((i).toUInt32 >>> (((1 : Int32)).toUInt32 &&& Int32.toUInt32 31)).toInt32) &&& (1431655765 : Int32))) &&& (858993459 : Int32)) + ((((i - ((((i).toUInt32 >>> (((1 : Int32)).toUInt32 &&& Int32.toUInt32 31)).toInt32) &&& (1431655765 : Int32))).toUInt32 >>> (((2 : Int32)).toUInt32 &&& Int32.toUInt32 31)).toInt32) &&& (858993459 : Int32))) + (((((i - ((((i).toUInt32 >>> (((1 : Int32)).toUInt32 &&& Int32.toUInt32 31)).toInt32) &&& (1431655765 : Int32))) &&& (858993459 : Int32)) + ((((i - ((((i).toUInt32 >>> (((1 : Int32)).toUInt32 &&& Int32.toUInt32 31)).toInt32) &&& (1431655765 : Int32))).toUInt32 >>> (((2 : Int32)).toUInt32 &&& Int32.toUInt32 31)).toInt32) &&& (858993459 : Int32))).toUInt32 >>> (((4 : Int32)).toUInt32 &&& Int32.toUInt32 31)).toInt32)) &&& (252645135 : Int32)) + (((((((i - ((((i).toUInt32 >>> (((1 : Int32)).toUInt32 &&& Int32.toUInt32 31)).toInt32) &&& (1431655765 : Int32))) &&& (858993459 : Int32)) + ((((i - ((((i).toUInt32 >>> (((1 : Int32)).toUInt32 &&& Int32.toUInt32 31)).toInt32) &&& (1431655765 : Int32))).toUInt32 >>> (((2 : Int32)).toUInt32 &&& Int32.toUInt32 31)).toInt32) &&& (858993459 : Int32))) + (((((i - ((((i).toUInt32 >>> (((1 : Int32)).toUInt32 &&& Int32.toUInt32 31)).toInt32) &&& (1431655765 : Int32))) &&& (858993459 : Int32)) + ((((i - ((((i).toUInt32 >>> (((1 : Int32)).toUInt32 &&& Int32.toUInt32 31)).toInt32) &&& (1431655765 : Int32))).toUInt32 >>> (((2 : Int32)).toUInt32 &&& Int32.toUInt32 31)).toInt32) &&& (858993459 : Int32))).toUInt32 >>> (((4 : Int32)).toUInt32 &&& Int32.toUInt32 31)).toInt32)) &&& (252645135 : Int32)).toUInt32 >>> (((8 : Int32)).toUInt32 &&& Int32.toUInt32 31)).toInt32)) + ((((((((i - ((((i).toUInt32 >>> (((1 : Int32)).toUInt32 &&& Int32.toUInt32 31)).toInt32) &&& (1431655765 : Int32))) &&& (858993459 : Int32)) + ((((i - ((((i).toUInt32 >>> (((1 : Int32)).toUInt32 &&& Int32.toUInt32 31)).toInt32) &&& (1431655765 : Int32))).toUInt32 >>> (((2 : Int32)).toUInt32 &&& Int32.toUInt32 31)).toInt32) &&& (858993459 : Int32))) + (((((i - ((((i).toUInt32 >>> (((1 : Int32)).toUInt32 &&& Int32.toUInt32 31)).toInt32) &&& (1431655765 : Int32))) &&& (858993459 : Int32)) + ((((i - ((((i).toUInt32 >>> (((1 : Int32)).toUInt32 &&& Int32.toUInt32 31)).toInt32) &&& (1431655765 : Int32))).toUInt32 >>> (((2 : Int32)).toUInt32 &&& Int32.toUInt32 31)).toInt32) &&& (858993459 : Int32))).toUInt32 >>> (((4 : Int32)).toUInt32 &&& Int32.toUInt32 31)).toInt32)) &&& (252645135 : Int32)) + (((((((i - ((((i).toUInt32 >>> (((1 : Int32)).toUInt32 &&& Int32.toUInt32 31)).toInt32) &&& (1431655765 : Int32))) &&& (858993459 : Int32)) + ((((i - ((((i).toUInt32 >>> (((1 : Int32)).toUInt32 &&& Int32.toUInt32 31)).toInt32) &&& (1431655765 : Int32))).toUInt32 >>> (((2 : Int32)).toUInt32 &&& Int32.toUInt32 31)).toInt32) &&& (858993459 : Int32))) + (((((i - ((((i).toUInt32 >>> (((1 : Int32)).toUInt32 &&& Int32.toUInt32 31)).toInt32) &&& (1431655765 : Int32))) &&& (858993459 : Int32)) + ((((i - ((((i).toUInt32 >>> (((1 : Int32)).toUInt32 &&& Int32.toUInt32 31)).toInt32) &&& (1431655765 : Int32))).toUInt32 >>> (((2 : Int32)).toUInt32 &&& Int32.toUInt32 31)).toInt32) &&& (858993459 : Int32))).toUInt32 >>> (((4 : Int32)).toUInt32 &&& Int32.toUInt32 31)).toInt32)) &&& (252645135 : Int32)).toUInt32 >>> (((8 : Int32)).toUInt32 &&& Int32.toUInt32 31)).toInt32)).toUInt32 >>> (((16 : Int32)).toUInt32 &&& Int32.toUInt32 31)).toInt32)))]) hx hb dJ6_bitCount_0f7a4_47 rfl hl (by decide) rfl (fun ls hl => ?_)
  refine lv_iload_n hx hb dJ6_bitCount_0f7a4_48 rfl (lv_at hl 0 rfl) ?_
  refine lv_bipush (v := (63 : Int32)) hx hb dJ6_bitCount_0f7a4_49 (by decide) ?_
  refine lv_iand hx hb dJ6_bitCount_0f7a4_51 ?_
  refine z_iret hG hx hb hr hlocks hP hD hS (Nat.le_of_ble_eq_true rfl) (Nat.le_of_ble_eq_true rfl) dJ6_bitCount_0f7a4_52 ?_
  refine zqi ?_
  rfl
set_option maxHeartbeats 800000 in
set_option maxRecDepth 100000 in
theorem c_X5_usedShare (l : Launch) (hlt : l.stackTraces = false) (D : va_G) (y : Nat → ClassId) (a : Nat → Nat) (cap clr : Int32) (t : Nat) (hom mov : Int32) (wm : Int64) (tb tf ts : Int32) (nw : Nat) (wf wt : Nat → Int32) (nb : Nat) (bw bl bi bb : Nat → Int32) (no : Nat) (od ow ol ork ob olf oco : Nat → Int32) (pn pb pm : Int32) (pcd pw pli : Nat → Int32)  (hb6 : nb ≤ 6) : zX l D y yX5_usedShare cX5_usedShare 1 (some .float) 7 1 6 95 [Value.ref (a 0)] (wB a y cap clr (nI t) hom mov wm tb tf ts (nI nw) wf wt (nI nb) bw bl bi bb (nI no) od ow ol ork ob olf oco pn pb pm pcd pw pli) (fun o9 w9 => (usC nb = 0) ∧ o9 = some (Value.float (usF (ocC bb nb) nb)) ∧ w9 = wB a y cap clr (nI t) hom mov wm tb tf ts (nI nw) wf wt (nI nb) bw bl bi bb (nI no) od ow ol ork ob olf oco pn pb pm pcd pw pli) (fun E => (E = "java/lang/ArithmeticException" ∧ (usC nb = 1))) := by
  refine zX.of (by decide +kernel) (Nat.le_of_ble_eq_true rfl) ?_
  intro p e s m args below meth c A ls hx hb hr hta hown hlocks hml hex hN hK hP hD hS hA hl
  refine z_gen (fun G hG => ?_)
  have hl : lv_has ls 1 [(0, Value.ref (a 0))] := hl
  refine lv_aload_n hx hb dX5_usedShare_0 rfl (lv_at hl 0 rfl) ?_
  refine gB5_berths hx hb hta hown hK hP wd_2_1 dX5_usedShare_1 ?_
  refine gB0_count hx hb hta hown hK hP wd_6_7 dX5_usedShare_4 ?_
  refine lv_if_ne (tgt := 20) hx hb dX5_usedShare_7 (by decide) (fun c7 => ?_) (fun c7 => ?_)
  · have c7 : ¬ nb = 0 := fun z => c7 ((nI_eq (a := nb) (b := 0) (by omega) (by omega)).mpr z)
    refine lv_aload_n hx hb dX5_usedShare_20 rfl (lv_at hl 0 rfl) ?_
    refine gB5_berths hx hb hta hown hK hP wd_2_1 dX5_usedShare_21 ?_
    refine z_callV (As := []) (rest := []) hx hb hml hown hta zm_X0_occupied wd_16_17 (c_X0_occupied l D y a cap clr t hom mov wm tb tf ts nw wf wt nb bw bl bi bb no od ow ol ork ob olf oco pn pb pm pcd pw pli (by omega)) hN hK hP hD hS hA 3 rfl rfl rfl hl rfl (Nat.le_of_ble_eq_true rfl) ⟨Nat.le_of_ble_eq_true rfl, Nat.le_of_ble_eq_true rfl⟩ ⟨Nat.le_of_ble_eq_true rfl, Nat.le_of_ble_eq_true rfl⟩ dX5_usedShare_24 (fun v w' H locs hq hP hD hS => ?_)
    obtain ⟨rfl, rfl⟩ := hq
    refine z_callS (As := [Value.int (nI (occN bb nb))]) (rest := []) hx hb hml hown hta zm_J6_bitCount_0f7a4 wd_35_8 (c_J6_bitCount_0f7a4 l D y a cap clr t hom mov wm tb tf ts nw wf wt nb bw bl bi bb no od ow ol ork ob olf oco pn pb pm pcd pw pli (nI (occN bb nb))) hN hK hP hD hS hA rfl hl rfl (Nat.le_of_ble_eq_true rfl) ⟨Nat.le_of_ble_eq_true rfl, Nat.le_of_ble_eq_true rfl⟩ ⟨Nat.le_of_ble_eq_true rfl, Nat.le_of_ble_eq_true rfl⟩ dX5_usedShare_27 (fun v w' H locs hq hP hD hS => ?_)
    obtain ⟨rfl, rfl⟩ := hq
    refine zr_top (y := nI (ocC bb nb)) (bc_occ bb nb hb6) ?_
    refine lv_i2f hx hb dX5_usedShare_30 ?_
    refine lv_aload_n hx hb dX5_usedShare_31 rfl (lv_at hl 0 rfl) ?_
    refine gB5_berths hx hb hta hown hK hP wd_2_1 dX5_usedShare_32 ?_
    refine gB0_count hx hb hta hown hK hP wd_6_7 dX5_usedShare_35 ?_
    refine lv_i2f hx hb dX5_usedShare_38 ?_
    refine lv_fdiv hx hb dX5_usedShare_39 (nn_fdiv (fun z => c7 ((nI_eq (a := nb) (b := 0) (by omega) (by omega)).mp z))) ?_
    refine z_fretX hG hx hb hr hlocks hP hD hS (Nat.le_of_ble_eq_true rfl) (Nat.le_of_ble_eq_true rfl) dX5_usedShare_40 ?_
    refine ⟨?_, congrArg (fun z => some (Value.float z)) ?_, ?_⟩
    · rw [usC, if_neg c7]
    · rfl
    · rfl
  · have c7 : nb = 0 := (nI_eq (a := nb) (b := 0) (by omega) (by omega)).mp c7
    refine zt_ArithmeticException_238 (ik := 236) (ic := 240) hlt hG hx hb hown hta hN hP hS hl hml hex hlocks rfl rfl (Nat.le_of_ble_eq_true rfl) (Nat.le_of_ble_eq_true rfl) (Nat.le_of_ble_eq_true rfl) (Nat.le_of_ble_eq_true rfl) (Nat.le_of_ble_eq_true rfl) (Nat.le_of_ble_eq_true rfl) dX5_usedShare_10 dX5_usedShare_13 dX5_usedShare_14 dX5_usedShare_16 dX5_usedShare_19 ?_
    exact ⟨rfl, by simp [usC, c7]⟩
set_option maxHeartbeats 800000 in
set_option maxRecDepth 100000 in
theorem c_X5_meanDraught (l : Launch) (hlt : l.stackTraces = false) (D : va_G) (y : Nat → ClassId) (a : Nat → Nat) (cap clr : Int32) (t : Nat) (hom mov : Int32) (wm : Int64) (tb tf ts : Int32) (nw : Nat) (wf wt : Nat → Int32) (nb : Nat) (bw bl bi bb : Nat → Int32) (no : Nat) (od ow ol ork ob olf oco : Nat → Int32) (pn pb pm : Int32) (pcd pw pli : Nat → Int32)  (hb8 : no ≤ 8) : zX l D y yX5_meanDraught cX5_meanDraught 2 (some .double) 7 1 6 95 [Value.ref (a 0)] (wB a y cap clr (nI t) hom mov wm tb tf ts (nI nw) wf wt (nI nb) bw bl bi bb (nI no) od ow ol ork ob olf oco pn pb pm pcd pw pli) (fun o9 w9 => (usC (cntW ob no) = 0) ∧ o9 = some (Value.double (mdF (sumW ob od no) (cntW ob no))) ∧ w9 = wB a y cap clr (nI t) hom mov wm tb tf ts (nI nw) wf wt (nI nb) bw bl bi bb (nI no) od ow ol ork ob olf oco pn pb pm pcd pw pli) (fun E => (E = "java/lang/ArithmeticException" ∧ (usC (cntW ob no) = 1))) := by
  have hcw := cntW_le ob no
  refine zX.of (by decide +kernel) (Nat.le_of_ble_eq_true rfl) ?_
  intro p e s m args below meth c A ls hx hb hr hta hown hlocks hml hex hN hK hP hD hS hA hl
  refine z_gen (fun G hG => ?_)
  have hl : lv_has ls 2 [(0, Value.ref (a 0))] := hl
  refine lv_aload_n hx hb dX5_meanDraught_0 rfl (lv_at hl 0 rfl) ?_
  refine gB5_boats hx hb hta hown hK hP wd_2_5 dX5_meanDraught_1 ?_
  refine z_callV (As := []) (rest := []) hx hb hml hown hta zm_X1_countWaiting wd_22_9 (c_X1_countWaiting l D y a cap clr t hom mov wm tb tf ts nw wf wt nb bw bl bi bb no od ow ol ork ob olf oco pn pb pm pcd pw pli (by omega)) hN hK hP hD hS hA 4 rfl rfl rfl hl rfl (Nat.le_of_ble_eq_true rfl) ⟨Nat.le_of_ble_eq_true rfl, Nat.le_of_ble_eq_true rfl⟩ ⟨Nat.le_of_ble_eq_true rfl, Nat.le_of_ble_eq_true rfl⟩ dX5_meanDraught_4 (fun v w' H locs hq hP hD hS => ?_)
  obtain ⟨rfl, rfl⟩ := hq
  refine lv_istore_n (lv' := [(1, Value.int (nI (cntW ob no))), (0, Value.ref (a 0))]) hx hb dX5_meanDraught_7 rfl hl (by decide) rfl (fun ls hl => ?_)
  refine lv_iload_n hx hb dX5_meanDraught_8 rfl (lv_at hl 0 rfl) ?_
  refine lv_if_ne (tgt := 22) hx hb dX5_meanDraught_9 (by decide) (fun c9 => ?_) (fun c9 => ?_)
  · have c9 : ¬ (cntW ob no) = 0 := fun z => c9 ((nI_eq (a := (cntW ob no)) (b := 0) (by omega) (by omega)).mpr z)
    refine lv_aload_n hx hb dX5_meanDraught_22 rfl (lv_at hl 1 rfl) ?_
    refine gB5_boats hx hb hta hown hK hP wd_2_5 dX5_meanDraught_23 ?_
    refine z_callV (As := []) (rest := []) hx hb hml hown hta zm_X1_sumWaitingDraughts wd_35_20 (c_X1_sumWaitingDraughts l D y a cap clr t hom mov wm tb tf ts nw wf wt nb bw bl bi bb no od ow ol ork ob olf oco pn pb pm pcd pw pli (by omega)) hN hK hP hD hS hA 4 rfl rfl rfl hl rfl (Nat.le_of_ble_eq_true rfl) ⟨Nat.le_of_ble_eq_true rfl, Nat.le_of_ble_eq_true rfl⟩ ⟨Nat.le_of_ble_eq_true rfl, Nat.le_of_ble_eq_true rfl⟩ dX5_meanDraught_26 (fun v w' H locs hq hP hD hS => ?_)
    obtain ⟨rfl, rfl⟩ := hq
    refine lv_i2d hx hb dX5_meanDraught_29 ?_
    refine lv_iload_n hx hb dX5_meanDraught_30 rfl (lv_at hl 0 rfl) ?_
    refine lv_i2d hx hb dX5_meanDraught_31 ?_
    refine lv_ddiv hx hb dX5_meanDraught_32 (nn_ddiv (fun z => c9 ((nI_eq (a := cntW ob no) (b := 0) (by omega) (by omega)).mp z))) ?_
    refine z_dretX hG hx hb hr hlocks hP hD hS (Nat.le_of_ble_eq_true rfl) (Nat.le_of_ble_eq_true rfl) dX5_meanDraught_33 ?_
    refine ⟨?_, congrArg (fun z => some (Value.double z)) ?_, ?_⟩
    · rw [usC, if_neg c9]
    · rfl
    · rfl
  · have c9 : (cntW ob no) = 0 := (nI_eq (a := (cntW ob no)) (b := 0) (by omega) (by omega)).mp c9
    refine zt_ArithmeticException_194 (ik := 236) (ic := 240) hlt hG hx hb hown hta hN hP hS hl hml hex hlocks rfl rfl (Nat.le_of_ble_eq_true rfl) (Nat.le_of_ble_eq_true rfl) (Nat.le_of_ble_eq_true rfl) (Nat.le_of_ble_eq_true rfl) (Nat.le_of_ble_eq_true rfl) (Nat.le_of_ble_eq_true rfl) dX5_meanDraught_12 dX5_meanDraught_15 dX5_meanDraught_16 dX5_meanDraught_18 dX5_meanDraught_21 ?_
    exact ⟨rfl, by simp [usC, c9]⟩
set_option maxHeartbeats 800000 in
set_option maxRecDepth 100000 in
theorem c_X6_usedShare (l : Launch) (D : va_G) (y : Nat → ClassId) (a : Nat → Nat) (mth : Int32) (t : Nat) (tb tf ts cap clr mov hom : Int32) (wm : Int64) (nw : Nat) (wf wt : Nat → Int32) (nb : Nat) (fr bw bl : Nat → Int32) (no : Nat) (od ow ol ork olf oco at_ aw : Nat → Int32) (mp : Int32) (mpl msh msl mwa mse : Nat → Int32)  (hb6 : nb ≤ 6) (hb8 : no ≤ 8) : zP l D y yX6_usedShare cX6_usedShare 3 (some .float) 1 0 0 23 [Value.ref (a 0)] (wM a y mth (nI t) tb tf ts cap clr mov hom wm (nI nw) wf wt (nI nb) fr bw bl (nI no) od ow ol ork olf oco at_ aw mp mpl msh msl mwa mse) (fun o9 w9 => (usC nb = 0 ∧ o9 = some (Value.float (usF (ocC (fun k => fI (baM at_ (nI k) no)) nb) nb)) ∧ w9 = wM a y (0 : Int32) (nI t) tb tf ts cap clr mov hom wm (nI nw) wf wt (nI nb) fr bw bl (nI no) od ow ol ork olf oco at_ aw mp mpl msh msl mwa mse) ∨ (usC nb ≠ 0 ∧ ∃ r9, o9 = some (Value.float r9) ∧ w9 = wM a y (nI (usC nb)) (nI t) tb tf ts cap clr mov hom wm (nI nw) wf wt (nI nb) fr bw bl (nI no) od ow ol ork olf oco at_ aw mp mpl msh msl mwa mse)) := by
  refine zP.of (by decide +kernel) (Nat.le_of_ble_eq_true rfl) ?_
  intro p e s m args below meth c A ls hx hb hr hta hown hlocks hml hin hN hK hP hD hS hA hl
  refine z_gen (fun G hG => ?_)
  have hl : lv_has ls 3 [(0, Value.ref (a 0))] := hl
  refine lv_aload_n hx hb dX6_usedShare_0 rfl (lv_at hl 0 rfl) ?_
  refine lv_aload_n hx hb dX6_usedShare_1 rfl (lv_at hl 0 rfl) ?_
  refine gM6_berths hx hb hta hown hK hP wd_7_0 dX6_usedShare_2 ?_
  refine lv_if_ne (tgt := 12) hx hb dX6_usedShare_5 (by decide) (fun c5 => ?_) (fun c5 => ?_)
  · have c5 : ¬ nb = 0 := fun z => c5 ((nI_eq (a := nb) (b := 0) (by omega) (by omega)).mpr z)
    refine lv_iconst (v := (0 : Int32)) hx hb dX6_usedShare_12 (by decide) ?_
    refine pM6_thrown hx hb hta hown hK hP hD hS wd_7_12 dX6_usedShare_13 (fun H locs hP hD hS => ?_)
    refine lv_iconst (v := (0 : Int32)) hx hb dX6_usedShare_16 (by decide) ?_
    refine lv_istore_n (lv' := [(1, Value.int (0 : Int32)), (0, Value.ref (a 0))]) hx hb dX6_usedShare_17 rfl hl (by decide) rfl (fun ls hl => ?_)
    refine lv_iconst (v := (0 : Int32)) hx hb dX6_usedShare_18 (by decide) ?_
    refine lv_istore_n (lv' := [(2, Value.int (0 : Int32)), (1, Value.int (0 : Int32)), (0, Value.ref (a 0))]) hx hb dX6_usedShare_19 rfl hl (by decide) rfl (fun ls hl => ?_)
    have LP20 : ∀ (n : Nat) (k : Nat), (k ≤ nb) → nb - k < n → ∀ (H : Heap) (locs : List Loc) (ls : Array Slot), va_P D vwCl (wM a y (0 : Int32) (nI t) tb tf ts cap clr mov hom wm (nI nw) wf wt (nI nb) fr bw bl (nI no) od ow ol ork olf oco at_ aw mp mpl msh msl mwa mse) H → va_D A (wM a y (0 : Int32) (nI t) tb tf ts cap clr mov hom wm (nI nw) wf wt (nI nb) fr bw bl (nI no) od ow ol ork olf oco at_ aw mp mpl msh msl mwa mse) → va_S A s.heap H locs → lv_has ls 3 [(2, Value.int (nI k)), (1, Value.int (nI (ocC (fun k => fI (baM at_ (nI k) no)) k))), (0, Value.ref (a 0))] → W p l e ({ frames := 1, cells := 0, slots := 0, locals := 23 } : Room) s m args below meth c H locs 0 0 G (F0 m 20 ls []) := by
      intro n
      induction n with
      | zero => intro k hk hn; exact absurd hn (Nat.not_lt_zero _)
      | succ n ih20 =>
        intro k hk hn H locs ls hP hD hS hl
        refine lv_iload_n hx hb dX6_usedShare_20 rfl (lv_at hl 0 rfl) ?_
        refine lv_aload_n hx hb dX6_usedShare_21 rfl (lv_at hl 2 rfl) ?_
        refine gM6_berths hx hb hta hown hK hP wd_7_0 dX6_usedShare_22 ?_
        refine lv_icmp_ge (tgt := 51) hx hb dX6_usedShare_25 (by decide) (fun c25 => ?_) (fun c25 => ?_)
        · have c25 : nb ≤ k := (nI_leI (a := nb) (b := k) (by omega) (by omega)).mp c25
          refine lv_aload_n hx hb dX6_usedShare_51 rfl (lv_at hl 2 rfl) ?_
          refine gM6_thrown hx hb hta hown hK hP wd_7_12 dX6_usedShare_52 ?_
          refine lv_if_ne (tgt := 69) hx hb dX6_usedShare_55 (by decide) (fun c55 => ?_) (fun c55 => ?_)
          · exact absurd c55 (by decide)
          · refine lv_iload_n hx hb dX6_usedShare_58 rfl (lv_at hl 1 rfl) ?_
            refine lv_i2f hx hb dX6_usedShare_59 ?_
            refine lv_aload_n hx hb dX6_usedShare_60 rfl (lv_at hl 2 rfl) ?_
            refine gM6_berths hx hb hta hown hK hP wd_7_0 dX6_usedShare_61 ?_
            refine lv_i2f hx hb dX6_usedShare_64 ?_
            refine lv_fdiv hx hb dX6_usedShare_65 (nn_fdiv (fun z => c5 ((nI_eq (a := nb) (b := 0) (by omega) (by omega)).mp z))) ?_
            refine lv_goto (tgt := 70) hx hb dX6_usedShare_66 (by decide) ?_
            refine z_fret hG hx hb hr hlocks hP hD hS (Nat.le_of_ble_eq_true rfl) (Nat.le_of_ble_eq_true rfl) dX6_usedShare_70 ?_
            refine Or.inl ⟨?_, congrArg (fun z => some (Value.float z)) ?_, ?_⟩
            · rw [usC, if_neg c5]
            · (rw [show k = nb by omega]; rfl)
            · rfl
        · have c25 : ¬ nb ≤ k := fun z => c25 ((nI_leI (a := nb) (b := k) (by omega) (by omega)).mpr z)
          refine lv_iload_n hx hb dX6_usedShare_28 rfl (lv_at hl 1 rfl) ?_
          refine lv_aload_n hx hb dX6_usedShare_29 rfl (lv_at hl 2 rfl) ?_
          refine lv_iload_n hx hb dX6_usedShare_30 rfl (lv_at hl 0 rfl) ?_
          refine z_callV (As := [Value.int (nI k)]) (rest := [Value.int (nI (ocC (fun k => fI (baM at_ (nI k) no)) k))]) hx hb hml hown hta zm_X6_boatAt wd_18_0 (c_X6_boatAt l D y a (0 : Int32) t tb tf ts cap clr mov hom wm nw wf wt nb fr bw bl no od ow ol ork olf oco at_ aw mp mpl msh msl mwa mse (nI k) (by omega)) hN hK hP hD hS hA 0 rfl rfl rfl hl rfl (Nat.le_of_ble_eq_true rfl) ⟨Nat.le_of_ble_eq_true rfl, Nat.le_of_ble_eq_true rfl⟩ ⟨Nat.le_of_ble_eq_true rfl, Nat.le_of_ble_eq_true rfl⟩ dX6_usedShare_31 (fun v w' H locs hq hP hD hS => ?_)
          obtain ⟨rfl, rfl⟩ := hq
          refine lv_iconst (v := (-1 : Int32)) hx hb dX6_usedShare_34 (by decide) ?_
          refine lv_icmp_eq (tgt := 42) hx hb dX6_usedShare_35 (by decide) (fun c35 => ?_) (fun c35 => ?_)
          · refine lv_iconst (v := (0 : Int32)) hx hb dX6_usedShare_42 (by decide) ?_
            refine lv_iadd hx hb dX6_usedShare_43 ?_
            refine zr_top (y := nI ((ocC (fun k => fI (baM at_ (nI k) no)) k) + 0)) (nI_add (ocC (fun k => fI (baM at_ (nI k) no)) k) 0) ?_
            refine lv_istore_n (lv' := [(1, Value.int (nI ((ocC (fun k => fI (baM at_ (nI k) no)) k) + 0))), (2, Value.int (nI k)), (0, Value.ref (a 0))]) hx hb dX6_usedShare_44 rfl hl (by decide) rfl (fun ls hl => ?_)
            refine lv_iinc (v := nI (k + 1)) (lv' := [(2, Value.int (nI (k + 1))), (1, Value.int (nI ((ocC (fun k => fI (baM at_ (nI k) no)) k) + 0))), (0, Value.ref (a 0))]) hx hb dX6_usedShare_45 hl (k := 1) rfl (nI_add k 1) (by decide) rfl (fun ls hl => ?_)
            refine lv_goto (tgt := 20) hx hb dX6_usedShare_48 (by decide) ?_
            have eq2_0 : nI ((ocC (fun k => fI (baM at_ (nI k) no)) k) + 0) = nI (ocC (fun k => fI (baM at_ (nI k) no)) (k + 1)) := by
              first
              | with_reducible rfl
              | (rw [ocC, if_pos c35]; rfl)
              | rw [ocC, if_neg c35]
            have hl := lv_sub hl [0, 1, 2] rfl
            have hl : lv_has ls 3 [(2, Value.int (nI (k + 1))), (1, Value.int (nI ((ocC (fun k => fI (baM at_ (nI k) no)) k) + 0))), (0, Value.ref (a 0))] := hl
            have hl : lv_has ls 3 [(2, Value.int (nI (k + 1))), (1, Value.int (nI (ocC (fun k => fI (baM at_ (nI k) no)) (k + 1)))), (0, Value.ref (a 0))] := lv_as hl (congrArg (fun z => [(2, Value.int (nI (k + 1))), (1, Value.int z), (0, Value.ref (a 0))]) eq2_0)
            exact ih20 (k + 1) (by omega) (by omega) _ _ _ hP hD hS hl
          · refine lv_iconst (v := (1 : Int32)) hx hb dX6_usedShare_38 (by decide) ?_
            refine lv_goto (tgt := 43) hx hb dX6_usedShare_39 (by decide) ?_
            refine lv_iadd hx hb dX6_usedShare_43 ?_
            refine zr_top (y := nI ((ocC (fun k => fI (baM at_ (nI k) no)) k) + 1)) (nI_add (ocC (fun k => fI (baM at_ (nI k) no)) k) 1) ?_
            refine lv_istore_n (lv' := [(1, Value.int (nI ((ocC (fun k => fI (baM at_ (nI k) no)) k) + 1))), (2, Value.int (nI k)), (0, Value.ref (a 0))]) hx hb dX6_usedShare_44 rfl hl (by decide) rfl (fun ls hl => ?_)
            refine lv_iinc (v := nI (k + 1)) (lv' := [(2, Value.int (nI (k + 1))), (1, Value.int (nI ((ocC (fun k => fI (baM at_ (nI k) no)) k) + 1))), (0, Value.ref (a 0))]) hx hb dX6_usedShare_45 hl (k := 1) rfl (nI_add k 1) (by decide) rfl (fun ls hl => ?_)
            refine lv_goto (tgt := 20) hx hb dX6_usedShare_48 (by decide) ?_
            have eq3_0 : nI ((ocC (fun k => fI (baM at_ (nI k) no)) k) + 1) = nI (ocC (fun k => fI (baM at_ (nI k) no)) (k + 1)) := by
              first
              | with_reducible rfl
              | (rw [ocC, if_pos c35]; rfl)
              | rw [ocC, if_neg c35]
            have hl := lv_sub hl [0, 1, 2] rfl
            have hl : lv_has ls 3 [(2, Value.int (nI (k + 1))), (1, Value.int (nI ((ocC (fun k => fI (baM at_ (nI k) no)) k) + 1))), (0, Value.ref (a 0))] := hl
            have hl : lv_has ls 3 [(2, Value.int (nI (k + 1))), (1, Value.int (nI (ocC (fun k => fI (baM at_ (nI k) no)) (k + 1)))), (0, Value.ref (a 0))] := lv_as hl (congrArg (fun z => [(2, Value.int (nI (k + 1))), (1, Value.int z), (0, Value.ref (a 0))]) eq3_0)
            exact ih20 (k + 1) (by omega) (by omega) _ _ _ hP hD hS hl
    have eq4_0 : (0 : Int32) = nI 0 := by
      rfl
    have eq5_1 : (0 : Int32) = nI (ocC (fun k => fI (baM at_ (nI k) no)) 0) := by
      rfl
    have hl := lv_sub hl [0, 1, 2] rfl
    have hl : lv_has ls 3 [(2, Value.int (0 : Int32)), (1, Value.int (0 : Int32)), (0, Value.ref (a 0))] := hl
    have hl : lv_has ls 3 [(2, Value.int (nI 0)), (1, Value.int (0 : Int32)), (0, Value.ref (a 0))] := lv_as hl (congrArg (fun z => [(2, Value.int z), (1, Value.int (0 : Int32)), (0, Value.ref (a 0))]) eq4_0)
    have hl : lv_has ls 3 [(2, Value.int (nI 0)), (1, Value.int (nI (ocC (fun k => fI (baM at_ (nI k) no)) 0))), (0, Value.ref (a 0))] := lv_as hl (congrArg (fun z => [(2, Value.int (nI 0)), (1, Value.int z), (0, Value.ref (a 0))]) eq5_1)
    exact LP20 (nb - 0 + 1) 0 (by omega) (Nat.lt_succ_self _) _ _ _ hP hD hS hl
  · have c5 : nb = 0 := (nI_eq (a := nb) (b := 0) (by omega) (by omega)).mp c5
    refine lv_iconst (v := (1 : Int32)) hx hb dX6_usedShare_8 (by decide) ?_
    refine lv_goto (tgt := 13) hx hb dX6_usedShare_9 (by decide) ?_
    refine pM6_thrown hx hb hta hown hK hP hD hS wd_7_12 dX6_usedShare_13 (fun H locs hP hD hS => ?_)
    refine lv_iconst (v := (0 : Int32)) hx hb dX6_usedShare_16 (by decide) ?_
    refine lv_istore_n (lv' := [(1, Value.int (0 : Int32)), (0, Value.ref (a 0))]) hx hb dX6_usedShare_17 rfl hl (by decide) rfl (fun ls hl => ?_)
    refine lv_iconst (v := (0 : Int32)) hx hb dX6_usedShare_18 (by decide) ?_
    refine lv_istore_n (lv' := [(2, Value.int (0 : Int32)), (1, Value.int (0 : Int32)), (0, Value.ref (a 0))]) hx hb dX6_usedShare_19 rfl hl (by decide) rfl (fun ls hl => ?_)
    have LP20 : ∀ (n : Nat) (k : Nat), (k ≤ nb) → nb - k < n → ∀ (H : Heap) (locs : List Loc) (ls : Array Slot), va_P D vwCl (wM a y (1 : Int32) (nI t) tb tf ts cap clr mov hom wm (nI nw) wf wt (nI nb) fr bw bl (nI no) od ow ol ork olf oco at_ aw mp mpl msh msl mwa mse) H → va_D A (wM a y (1 : Int32) (nI t) tb tf ts cap clr mov hom wm (nI nw) wf wt (nI nb) fr bw bl (nI no) od ow ol ork olf oco at_ aw mp mpl msh msl mwa mse) → va_S A s.heap H locs → lv_has ls 3 [(2, Value.int (nI k)), (1, Value.int (nI (ocC (fun k => fI (baM at_ (nI k) no)) k))), (0, Value.ref (a 0))] → W p l e ({ frames := 1, cells := 0, slots := 0, locals := 23 } : Room) s m args below meth c H locs 0 0 G (F0 m 20 ls []) := by
      intro n
      induction n with
      | zero => intro k hk hn; exact absurd hn (Nat.not_lt_zero _)
      | succ n ih20 =>
        intro k hk hn H locs ls hP hD hS hl
        refine lv_iload_n hx hb dX6_usedShare_20 rfl (lv_at hl 0 rfl) ?_
        refine lv_aload_n hx hb dX6_usedShare_21 rfl (lv_at hl 2 rfl) ?_
        refine gM6_berths hx hb hta hown hK hP wd_7_0 dX6_usedShare_22 ?_
        refine lv_icmp_ge (tgt := 51) hx hb dX6_usedShare_25 (by decide) (fun c25 => ?_) (fun c25 => ?_)
        · have c25 : nb ≤ k := (nI_leI (a := nb) (b := k) (by omega) (by omega)).mp c25
          refine lv_aload_n hx hb dX6_usedShare_51 rfl (lv_at hl 2 rfl) ?_
          refine gM6_thrown hx hb hta hown hK hP wd_7_12 dX6_usedShare_52 ?_
          refine lv_if_ne (tgt := 69) hx hb dX6_usedShare_55 (by decide) (fun c55 => ?_) (fun c55 => ?_)
          · refine lv_fconst0 hx hb dX6_usedShare_69 ?_
            refine z_fret hG hx hb hr hlocks hP hD hS (Nat.le_of_ble_eq_true rfl) (Nat.le_of_ble_eq_true rfl) dX6_usedShare_70 ?_
            have hcd : usC nb = 1 := by
              rw [usC, if_pos c5]
            exact Or.inr ⟨by rw [hcd]; decide, _, rfl, by rw [hcd]; rfl⟩
          · exact absurd c55 (by decide)
        · have c25 : ¬ nb ≤ k := fun z => c25 ((nI_leI (a := nb) (b := k) (by omega) (by omega)).mpr z)
          refine lv_iload_n hx hb dX6_usedShare_28 rfl (lv_at hl 1 rfl) ?_
          refine lv_aload_n hx hb dX6_usedShare_29 rfl (lv_at hl 2 rfl) ?_
          refine lv_iload_n hx hb dX6_usedShare_30 rfl (lv_at hl 0 rfl) ?_
          refine z_callV (As := [Value.int (nI k)]) (rest := [Value.int (nI (ocC (fun k => fI (baM at_ (nI k) no)) k))]) hx hb hml hown hta zm_X6_boatAt wd_18_0 (c_X6_boatAt l D y a (1 : Int32) t tb tf ts cap clr mov hom wm nw wf wt nb fr bw bl no od ow ol ork olf oco at_ aw mp mpl msh msl mwa mse (nI k) (by omega)) hN hK hP hD hS hA 0 rfl rfl rfl hl rfl (Nat.le_of_ble_eq_true rfl) ⟨Nat.le_of_ble_eq_true rfl, Nat.le_of_ble_eq_true rfl⟩ ⟨Nat.le_of_ble_eq_true rfl, Nat.le_of_ble_eq_true rfl⟩ dX6_usedShare_31 (fun v w' H locs hq hP hD hS => ?_)
          obtain ⟨rfl, rfl⟩ := hq
          refine lv_iconst (v := (-1 : Int32)) hx hb dX6_usedShare_34 (by decide) ?_
          refine lv_icmp_eq (tgt := 42) hx hb dX6_usedShare_35 (by decide) (fun c35 => ?_) (fun c35 => ?_)
          · refine lv_iconst (v := (0 : Int32)) hx hb dX6_usedShare_42 (by decide) ?_
            refine lv_iadd hx hb dX6_usedShare_43 ?_
            refine zr_top (y := nI ((ocC (fun k => fI (baM at_ (nI k) no)) k) + 0)) (nI_add (ocC (fun k => fI (baM at_ (nI k) no)) k) 0) ?_
            refine lv_istore_n (lv' := [(1, Value.int (nI ((ocC (fun k => fI (baM at_ (nI k) no)) k) + 0))), (2, Value.int (nI k)), (0, Value.ref (a 0))]) hx hb dX6_usedShare_44 rfl hl (by decide) rfl (fun ls hl => ?_)
            refine lv_iinc (v := nI (k + 1)) (lv' := [(2, Value.int (nI (k + 1))), (1, Value.int (nI ((ocC (fun k => fI (baM at_ (nI k) no)) k) + 0))), (0, Value.ref (a 0))]) hx hb dX6_usedShare_45 hl (k := 1) rfl (nI_add k 1) (by decide) rfl (fun ls hl => ?_)
            refine lv_goto (tgt := 20) hx hb dX6_usedShare_48 (by decide) ?_
            have eq7_0 : nI ((ocC (fun k => fI (baM at_ (nI k) no)) k) + 0) = nI (ocC (fun k => fI (baM at_ (nI k) no)) (k + 1)) := by
              first
              | with_reducible rfl
              | (rw [ocC, if_pos c35]; rfl)
              | rw [ocC, if_neg c35]
            have hl := lv_sub hl [0, 1, 2] rfl
            have hl : lv_has ls 3 [(2, Value.int (nI (k + 1))), (1, Value.int (nI ((ocC (fun k => fI (baM at_ (nI k) no)) k) + 0))), (0, Value.ref (a 0))] := hl
            have hl : lv_has ls 3 [(2, Value.int (nI (k + 1))), (1, Value.int (nI (ocC (fun k => fI (baM at_ (nI k) no)) (k + 1)))), (0, Value.ref (a 0))] := lv_as hl (congrArg (fun z => [(2, Value.int (nI (k + 1))), (1, Value.int z), (0, Value.ref (a 0))]) eq7_0)
            exact ih20 (k + 1) (by omega) (by omega) _ _ _ hP hD hS hl
          · refine lv_iconst (v := (1 : Int32)) hx hb dX6_usedShare_38 (by decide) ?_
            refine lv_goto (tgt := 43) hx hb dX6_usedShare_39 (by decide) ?_
            refine lv_iadd hx hb dX6_usedShare_43 ?_
            refine zr_top (y := nI ((ocC (fun k => fI (baM at_ (nI k) no)) k) + 1)) (nI_add (ocC (fun k => fI (baM at_ (nI k) no)) k) 1) ?_
            refine lv_istore_n (lv' := [(1, Value.int (nI ((ocC (fun k => fI (baM at_ (nI k) no)) k) + 1))), (2, Value.int (nI k)), (0, Value.ref (a 0))]) hx hb dX6_usedShare_44 rfl hl (by decide) rfl (fun ls hl => ?_)
            refine lv_iinc (v := nI (k + 1)) (lv' := [(2, Value.int (nI (k + 1))), (1, Value.int (nI ((ocC (fun k => fI (baM at_ (nI k) no)) k) + 1))), (0, Value.ref (a 0))]) hx hb dX6_usedShare_45 hl (k := 1) rfl (nI_add k 1) (by decide) rfl (fun ls hl => ?_)
            refine lv_goto (tgt := 20) hx hb dX6_usedShare_48 (by decide) ?_
            have eq8_0 : nI ((ocC (fun k => fI (baM at_ (nI k) no)) k) + 1) = nI (ocC (fun k => fI (baM at_ (nI k) no)) (k + 1)) := by
              first
              | with_reducible rfl
              | (rw [ocC, if_pos c35]; rfl)
              | rw [ocC, if_neg c35]
            have hl := lv_sub hl [0, 1, 2] rfl
            have hl : lv_has ls 3 [(2, Value.int (nI (k + 1))), (1, Value.int (nI ((ocC (fun k => fI (baM at_ (nI k) no)) k) + 1))), (0, Value.ref (a 0))] := hl
            have hl : lv_has ls 3 [(2, Value.int (nI (k + 1))), (1, Value.int (nI (ocC (fun k => fI (baM at_ (nI k) no)) (k + 1)))), (0, Value.ref (a 0))] := lv_as hl (congrArg (fun z => [(2, Value.int (nI (k + 1))), (1, Value.int z), (0, Value.ref (a 0))]) eq8_0)
            exact ih20 (k + 1) (by omega) (by omega) _ _ _ hP hD hS hl
    have eq9_0 : (0 : Int32) = nI 0 := by
      rfl
    have eq10_1 : (0 : Int32) = nI (ocC (fun k => fI (baM at_ (nI k) no)) 0) := by
      rfl
    have hl := lv_sub hl [0, 1, 2] rfl
    have hl : lv_has ls 3 [(2, Value.int (0 : Int32)), (1, Value.int (0 : Int32)), (0, Value.ref (a 0))] := hl
    have hl : lv_has ls 3 [(2, Value.int (nI 0)), (1, Value.int (0 : Int32)), (0, Value.ref (a 0))] := lv_as hl (congrArg (fun z => [(2, Value.int z), (1, Value.int (0 : Int32)), (0, Value.ref (a 0))]) eq9_0)
    have hl : lv_has ls 3 [(2, Value.int (nI 0)), (1, Value.int (nI (ocC (fun k => fI (baM at_ (nI k) no)) 0))), (0, Value.ref (a 0))] := lv_as hl (congrArg (fun z => [(2, Value.int (nI 0)), (1, Value.int z), (0, Value.ref (a 0))]) eq10_1)
    exact LP20 (nb - 0 + 1) 0 (by omega) (Nat.lt_succ_self _) _ _ _ hP hD hS hl
set_option maxHeartbeats 800000 in
set_option maxRecDepth 100000 in
theorem c_X6_meanDraught (l : Launch) (D : va_G) (y : Nat → ClassId) (a : Nat → Nat) (mth : Int32) (t : Nat) (tb tf ts cap clr mov hom : Int32) (wm : Int64) (nw : Nat) (wf wt : Nat → Int32) (nb : Nat) (fr bw bl : Nat → Int32) (no : Nat) (od ow ol ork olf oco at_ aw : Nat → Int32) (mp : Int32) (mpl msh msl mwa mse : Nat → Int32)  (hb8 : no ≤ 8) : zP l D y yX6_meanDraught cX6_meanDraught 3 (some .double) 2 0 0 43 [Value.ref (a 0)] (wM a y mth (nI t) tb tf ts cap clr mov hom wm (nI nw) wf wt (nI nb) fr bw bl (nI no) od ow ol ork olf oco at_ aw mp mpl msh msl mwa mse) (fun o9 w9 => (usC (fb_ct (wtM aw at_) no) = 0 ∧ o9 = some (Value.double (mdF (smP (wtM aw at_) od no) (fb_ct (wtM aw at_) no))) ∧ w9 = wM a y (0 : Int32) (nI t) tb tf ts cap clr mov hom wm (nI nw) wf wt (nI nb) fr bw bl (nI no) od ow ol ork olf oco at_ aw mp mpl msh msl mwa mse) ∨ (usC (fb_ct (wtM aw at_) no) ≠ 0 ∧ ∃ r9, o9 = some (Value.double r9) ∧ w9 = wM a y (nI (usC (fb_ct (wtM aw at_) no))) (nI t) tb tf ts cap clr mov hom wm (nI nw) wf wt (nI nb) fr bw bl (nI no) od ow ol ork olf oco at_ aw mp mpl msh msl mwa mse)) := by
  have hcw := fb_ct_le (wtM aw at_) no
  refine zP.of (by decide +kernel) (Nat.le_of_ble_eq_true rfl) ?_
  intro p e s m args below meth c A ls hx hb hr hta hown hlocks hml hin hN hK hP hD hS hA hl
  refine z_gen (fun G hG => ?_)
  have hl : lv_has ls 3 [(0, Value.ref (a 0))] := hl
  refine lv_iconst (v := (0 : Int32)) hx hb dX6_meanDraught_0 (by decide) ?_
  refine lv_istore_n (lv' := [(1, Value.int (0 : Int32)), (0, Value.ref (a 0))]) hx hb dX6_meanDraught_1 rfl hl (by decide) rfl (fun ls hl => ?_)
  refine lv_iconst (v := (0 : Int32)) hx hb dX6_meanDraught_2 (by decide) ?_
  refine lv_istore_n (lv' := [(2, Value.int (0 : Int32)), (1, Value.int (0 : Int32)), (0, Value.ref (a 0))]) hx hb dX6_meanDraught_3 rfl hl (by decide) rfl (fun ls hl => ?_)
  have LP4 : ∀ (n : Nat) (k : Nat), (k ≤ no) → no - k < n → ∀ (H : Heap) (locs : List Loc) (ls : Array Slot), va_P D vwCl (wM a y mth (nI t) tb tf ts cap clr mov hom wm (nI nw) wf wt (nI nb) fr bw bl (nI no) od ow ol ork olf oco at_ aw mp mpl msh msl mwa mse) H → va_D A (wM a y mth (nI t) tb tf ts cap clr mov hom wm (nI nw) wf wt (nI nb) fr bw bl (nI no) od ow ol ork olf oco at_ aw mp mpl msh msl mwa mse) → va_S A s.heap H locs → lv_has ls 3 [(2, Value.int (nI k)), (1, Value.int (smP (wtM aw at_) od k)), (0, Value.ref (a 0))] → W p l e ({ frames := 2, cells := 0, slots := 0, locals := 43 } : Room) s m args below meth c H locs 0 0 G (F0 m 4 ls []) := by
    intro n
    induction n with
    | zero => intro k hk hn; exact absurd hn (Nat.not_lt_zero _)
    | succ n ih4 =>
      intro k hk hn H locs ls hP hD hS hl
      refine lv_iload_n hx hb dX6_meanDraught_4 rfl (lv_at hl 0 rfl) ?_
      refine lv_aload_n hx hb dX6_meanDraught_5 rfl (lv_at hl 2 rfl) ?_
      refine gM6_boats hx hb hta hown hK hP wd_8_13 dX6_meanDraught_6 ?_
      refine lv_icmp_ge (tgt := 39) hx hb dX6_meanDraught_9 (by decide) (fun c9 => ?_) (fun c9 => ?_)
      · have c9 : no ≤ k := (nI_leI (a := no) (b := k) (by omega) (by omega)).mp c9
        refine lv_aload_n hx hb dX6_meanDraught_39 rfl (lv_at hl 2 rfl) ?_
        refine z_callV (As := []) (rest := []) hx hb hml hown hta zm_X6_waiting wd_22_17 (c_X6_waiting l D y a mth t tb tf ts cap clr mov hom wm nw wf wt nb fr bw bl no od ow ol ork olf oco at_ aw mp mpl msh msl mwa mse (by omega)) hN hK hP hD hS hA 0 rfl rfl rfl hl rfl (Nat.le_of_ble_eq_true rfl) ⟨Nat.le_of_ble_eq_true rfl, Nat.le_of_ble_eq_true rfl⟩ ⟨Nat.le_of_ble_eq_true rfl, Nat.le_of_ble_eq_true rfl⟩ dX6_meanDraught_40 (fun v w' H locs hq hP hD hS => ?_)
        obtain ⟨rfl, rfl⟩ := hq
        refine lv_istore_n (lv' := [(2, Value.int (nI (fb_ct (wtM aw at_) no))), (1, Value.int (smP (wtM aw at_) od k)), (0, Value.ref (a 0))]) hx hb dX6_meanDraught_43 rfl hl (by decide) rfl (fun ls hl => ?_)
        refine lv_aload_n hx hb dX6_meanDraught_44 rfl (lv_at hl 2 rfl) ?_
        refine lv_iload_n hx hb dX6_meanDraught_45 rfl (lv_at hl 0 rfl) ?_
        refine lv_if_ne (tgt := 53) hx hb dX6_meanDraught_46 (by decide) (fun c46 => ?_) (fun c46 => ?_)
        · have c46 : ¬ (fb_ct (wtM aw at_) no) = 0 := fun z => c46 ((nI_eq (a := (fb_ct (wtM aw at_) no)) (b := 0) (by omega) (by omega)).mpr z)
          refine lv_iconst (v := (0 : Int32)) hx hb dX6_meanDraught_53 (by decide) ?_
          refine pM6_thrown hx hb hta hown hK hP hD hS wd_7_12 dX6_meanDraught_54 (fun H locs hP hD hS => ?_)
          refine lv_iload_n hx hb dX6_meanDraught_57 rfl (lv_at hl 0 rfl) ?_
          refine lv_if_ne (tgt := 65) hx hb dX6_meanDraught_58 (by decide) (fun c58 => ?_) (fun c58 => ?_)
          · have c58 : ¬ (fb_ct (wtM aw at_) no) = 0 := fun z => c58 ((nI_eq (a := (fb_ct (wtM aw at_) no)) (b := 0) (by omega) (by omega)).mpr z)
            refine lv_iload_n hx hb dX6_meanDraught_65 rfl (lv_at hl 1 rfl) ?_
            refine lv_i2d hx hb dX6_meanDraught_66 ?_
            refine lv_iload_n hx hb dX6_meanDraught_67 rfl (lv_at hl 0 rfl) ?_
            refine lv_i2d hx hb dX6_meanDraught_68 ?_
            refine lv_ddiv hx hb dX6_meanDraught_69 (nn_ddiv (fun z => c58 ((nI_eq (a := fb_ct (wtM aw at_) no) (b := 0) (by omega) (by omega)).mp z))) ?_
            refine z_dret hG hx hb hr hlocks hP hD hS (Nat.le_of_ble_eq_true rfl) (Nat.le_of_ble_eq_true rfl) dX6_meanDraught_70 ?_
            refine Or.inl ⟨?_, congrArg (fun z => some (Value.double z)) ?_, ?_⟩
            · rw [usC, if_neg c46]
            · first
              | exact absurd c58 c46
              | (rw [show k = no by omega]; rfl)
            · rfl
          · have c58 : (fb_ct (wtM aw at_) no) = 0 := (nI_eq (a := (fb_ct (wtM aw at_) no)) (b := 0) (by omega) (by omega)).mp c58
            refine lv_dconst0 hx hb dX6_meanDraught_61 ?_
            refine lv_goto (tgt := 70) hx hb dX6_meanDraught_62 (by decide) ?_
            refine z_dret hG hx hb hr hlocks hP hD hS (Nat.le_of_ble_eq_true rfl) (Nat.le_of_ble_eq_true rfl) dX6_meanDraught_70 ?_
            refine Or.inl ⟨?_, congrArg (fun z => some (Value.double z)) ?_, ?_⟩
            · rw [usC, if_neg c46]
            · first
              | exact absurd c58 c46
              | (rw [show k = no by omega]; rfl)
            · rfl
        · have c46 : (fb_ct (wtM aw at_) no) = 0 := (nI_eq (a := (fb_ct (wtM aw at_) no)) (b := 0) (by omega) (by omega)).mp c46
          refine lv_iconst (v := (1 : Int32)) hx hb dX6_meanDraught_49 (by decide) ?_
          refine lv_goto (tgt := 54) hx hb dX6_meanDraught_50 (by decide) ?_
          refine pM6_thrown hx hb hta hown hK hP hD hS wd_7_12 dX6_meanDraught_54 (fun H locs hP hD hS => ?_)
          refine lv_iload_n hx hb dX6_meanDraught_57 rfl (lv_at hl 0 rfl) ?_
          refine lv_if_ne (tgt := 65) hx hb dX6_meanDraught_58 (by decide) (fun c58 => ?_) (fun c58 => ?_)
          · have c58 : ¬ (fb_ct (wtM aw at_) no) = 0 := fun z => c58 ((nI_eq (a := (fb_ct (wtM aw at_) no)) (b := 0) (by omega) (by omega)).mpr z)
            refine lv_iload_n hx hb dX6_meanDraught_65 rfl (lv_at hl 1 rfl) ?_
            refine lv_i2d hx hb dX6_meanDraught_66 ?_
            refine lv_iload_n hx hb dX6_meanDraught_67 rfl (lv_at hl 0 rfl) ?_
            refine lv_i2d hx hb dX6_meanDraught_68 ?_
            refine lv_ddiv hx hb dX6_meanDraught_69 (nn_ddiv (fun z => c58 ((nI_eq (a := fb_ct (wtM aw at_) no) (b := 0) (by omega) (by omega)).mp z))) ?_
            refine z_dret hG hx hb hr hlocks hP hD hS (Nat.le_of_ble_eq_true rfl) (Nat.le_of_ble_eq_true rfl) dX6_meanDraught_70 ?_
            have hcd : usC (fb_ct (wtM aw at_) no) = 1 := by
              rw [usC, if_pos c46]
            exact Or.inr ⟨by rw [hcd]; decide, _, rfl, by rw [hcd]; rfl⟩
          · have c58 : (fb_ct (wtM aw at_) no) = 0 := (nI_eq (a := (fb_ct (wtM aw at_) no)) (b := 0) (by omega) (by omega)).mp c58
            refine lv_dconst0 hx hb dX6_meanDraught_61 ?_
            refine lv_goto (tgt := 70) hx hb dX6_meanDraught_62 (by decide) ?_
            refine z_dret hG hx hb hr hlocks hP hD hS (Nat.le_of_ble_eq_true rfl) (Nat.le_of_ble_eq_true rfl) dX6_meanDraught_70 ?_
            have hcd : usC (fb_ct (wtM aw at_) no) = 1 := by
              rw [usC, if_pos c46]
            exact Or.inr ⟨by rw [hcd]; decide, _, rfl, by rw [hcd]; rfl⟩
      · have c9 : ¬ no ≤ k := fun z => c9 ((nI_leI (a := no) (b := k) (by omega) (by omega)).mpr z)
        refine lv_iload_n hx hb dX6_meanDraught_12 rfl (lv_at hl 1 rfl) ?_
        refine lv_aload_n hx hb dX6_meanDraught_13 rfl (lv_at hl 2 rfl) ?_
        refine lv_iload_n hx hb dX6_meanDraught_14 rfl (lv_at hl 0 rfl) ?_
        refine z_callV (As := [Value.int (nI k)]) (rest := [Value.int (smP (wtM aw at_) od k)]) hx hb hml hown hta zm_X6_waits wd_22_21 (c_X6_waits l D y a mth t tb tf ts cap clr mov hom wm nw wf wt nb fr bw bl no od ow ol ork olf oco at_ aw mp mpl msh msl mwa mse k (by omega)) hN hK hP hD hS hA 0 rfl rfl rfl hl rfl (Nat.le_of_ble_eq_true rfl) ⟨Nat.le_of_ble_eq_true rfl, Nat.le_of_ble_eq_true rfl⟩ ⟨Nat.le_of_ble_eq_true rfl, Nat.le_of_ble_eq_true rfl⟩ dX6_meanDraught_15 (fun v w' H locs hq hP hD hS => ?_)
        obtain ⟨rfl, rfl⟩ := hq
        refine lv_if_eq (tgt := 30) hx hb dX6_meanDraught_18 (by decide) (fun c18 => ?_) (fun c18 => ?_)
        · have c18 := bI_0 c18
          refine lv_iconst (v := (0 : Int32)) hx hb dX6_meanDraught_30 (by decide) ?_
          refine lv_iadd hx hb dX6_meanDraught_31 ?_
          refine lv_istore_n (lv' := [(1, Value.int ((smP (wtM aw at_) od k) + (0 : Int32))), (2, Value.int (nI k)), (0, Value.ref (a 0))]) hx hb dX6_meanDraught_32 rfl hl (by decide) rfl (fun ls hl => ?_)
          refine lv_iinc (v := nI (k + 1)) (lv' := [(2, Value.int (nI (k + 1))), (1, Value.int ((smP (wtM aw at_) od k) + (0 : Int32))), (0, Value.ref (a 0))]) hx hb dX6_meanDraught_33 hl (k := 1) rfl (nI_add k 1) (by decide) rfl (fun ls hl => ?_)
          refine lv_goto (tgt := 4) hx hb dX6_meanDraught_36 (by decide) ?_
          have eq3_0 : (smP (wtM aw at_) od k) + (0 : Int32) = smP (wtM aw at_) od (k + 1) := by
            first
            | with_reducible rfl
            | rw [smP, if_pos c18]
            | (rw [smP, c18, if_neg Bool.false_ne_true]; exact Int32.add_zero _)
          have hl := lv_sub hl [0, 1, 2] rfl
          have hl : lv_has ls 3 [(2, Value.int (nI (k + 1))), (1, Value.int ((smP (wtM aw at_) od k) + (0 : Int32))), (0, Value.ref (a 0))] := hl
          have hl : lv_has ls 3 [(2, Value.int (nI (k + 1))), (1, Value.int (smP (wtM aw at_) od (k + 1))), (0, Value.ref (a 0))] := lv_as hl (congrArg (fun z => [(2, Value.int (nI (k + 1))), (1, Value.int z), (0, Value.ref (a 0))]) eq3_0)
          exact ih4 (k + 1) (by omega) (by omega) _ _ _ hP hD hS hl
        · have c18 := bI_1 c18
          refine lv_aload_n hx hb dX6_meanDraught_21 rfl (lv_at hl 2 rfl) ?_
          refine gM6_draught hx hb hta hown hK hP wd_5_0 dX6_meanDraught_22 ?_
          refine lv_iload_n hx hb dX6_meanDraught_25 rfl (lv_at hl 0 rfl) ?_
          refine aM_od hx hb hK hP k rfl (by omega) dX6_meanDraught_26 ?_
          refine lv_goto (tgt := 31) hx hb dX6_meanDraught_27 (by decide) ?_
          refine lv_iadd hx hb dX6_meanDraught_31 ?_
          refine lv_istore_n (lv' := [(1, Value.int ((smP (wtM aw at_) od k) + (od k))), (2, Value.int (nI k)), (0, Value.ref (a 0))]) hx hb dX6_meanDraught_32 rfl hl (by decide) rfl (fun ls hl => ?_)
          refine lv_iinc (v := nI (k + 1)) (lv' := [(2, Value.int (nI (k + 1))), (1, Value.int ((smP (wtM aw at_) od k) + (od k))), (0, Value.ref (a 0))]) hx hb dX6_meanDraught_33 hl (k := 1) rfl (nI_add k 1) (by decide) rfl (fun ls hl => ?_)
          refine lv_goto (tgt := 4) hx hb dX6_meanDraught_36 (by decide) ?_
          have eq4_0 : (smP (wtM aw at_) od k) + (od k) = smP (wtM aw at_) od (k + 1) := by
            first
            | with_reducible rfl
            | rw [smP, if_pos c18]
            | (rw [smP, c18, if_neg Bool.false_ne_true]; exact Int32.add_zero _)
          have hl := lv_sub hl [0, 1, 2] rfl
          have hl : lv_has ls 3 [(2, Value.int (nI (k + 1))), (1, Value.int ((smP (wtM aw at_) od k) + (od k))), (0, Value.ref (a 0))] := hl
          have hl : lv_has ls 3 [(2, Value.int (nI (k + 1))), (1, Value.int (smP (wtM aw at_) od (k + 1))), (0, Value.ref (a 0))] := lv_as hl (congrArg (fun z => [(2, Value.int (nI (k + 1))), (1, Value.int z), (0, Value.ref (a 0))]) eq4_0)
          exact ih4 (k + 1) (by omega) (by omega) _ _ _ hP hD hS hl
  have eq5_0 : (0 : Int32) = nI 0 := by
    rfl
  have eq6_1 : (0 : Int32) = smP (wtM aw at_) od 0 := by
    rfl
  have hl := lv_sub hl [0, 1, 2] rfl
  have hl : lv_has ls 3 [(2, Value.int (0 : Int32)), (1, Value.int (0 : Int32)), (0, Value.ref (a 0))] := hl
  have hl : lv_has ls 3 [(2, Value.int (nI 0)), (1, Value.int (0 : Int32)), (0, Value.ref (a 0))] := lv_as hl (congrArg (fun z => [(2, Value.int z), (1, Value.int (0 : Int32)), (0, Value.ref (a 0))]) eq5_0)
  have hl : lv_has ls 3 [(2, Value.int (nI 0)), (1, Value.int (smP (wtM aw at_) od 0)), (0, Value.ref (a 0))] := lv_as hl (congrArg (fun z => [(2, Value.int (nI 0)), (1, Value.int z), (0, Value.ref (a 0))]) eq6_1)
  exact LP4 (no - 0 + 1) 0 (by omega) (Nat.lt_succ_self _) _ _ _ hP hD hS hl
