set_option maxHeartbeats 800000 in
set_option maxRecDepth 100000 in
theorem c_X5_addBerth (l : Launch) (hlt : l.stackTraces = false) (D : va_G) (y : Nat → ClassId) (a : Nat → Nat) (cap clr : Int32) (t : Nat) (hom mov : Int32) (wm : Int64) (tb tf ts : Int32) (nw : Nat) (wf wt : Nat → Int32) (nb : Nat) (bw bl bi bb : Nat → Int32) (no : Nat) (od ow ol ork ob olf oco : Nat → Int32) (pn pb pm : Int32) (pcd pw pli : Nat → Int32) (f : Int32) (g : Int32) (h : Int32) (hb6 : nb ≤ 6) : zX l D y yX5_addBerth cX5_addBerth 4 (some .int) 7 1 6 95 [Value.ref (a 0), Value.int f, Value.int g, Value.int h] (wB a y cap clr (nI t) hom mov wm tb tf ts (nI nw) wf wt (nI nb) bw bl bi bb (nI no) od ow ol ork ob olf oco pn pb pm pcd pw pli) (fun o9 w9 => (abC nb f g h = 0) ∧ o9 = some (Value.int (nI nb)) ∧ w9 = wB a y cap clr (nI t) hom mov wm tb tf ts (nI nw) wf wt (nI (nb + 1)) (upd bw nb g) (upd bl nb h) (upd bi nb (biF bi nb f)) (upd bb nb (-1 : Int32)) (nI no) od ow ol ork ob olf oco pn pb pm pcd pw pli) (fun E => (E = "java/lang/IndexOutOfBoundsException" ∧ (abC nb f g h = 1)) ∨ (E = "java/lang/IllegalArgumentException" ∧ (abC nb f g h = 2)) ∨ (E = "java/lang/IllegalStateException" ∧ (abC nb f g h = 3))) := by
  refine zX.of (by decide +kernel) (Nat.le_of_ble_eq_true rfl) ?_
  intro p e s m args below meth c A ls hx hb hr hta hown hlocks hml hex hN hK hP hD hS hA hl
  refine z_gen (fun G hG => ?_)
  have hl : lv_has ls 4 [(0, Value.ref (a 0)), (1, Value.int f), (2, Value.int g), (3, Value.int h)] := hl
  refine lv_iload_n hx hb dX5_addBerth_0 rfl (lv_at hl 1 rfl) ?_
  refine lv_iconst (v := (-1 : Int32)) hx hb dX5_addBerth_1 (by decide) ?_
  refine lv_icmp_eq (tgt := 26) hx hb dX5_addBerth_2 (by decide) (fun c2 => ?_) (fun c2 => ?_)
  · refine lv_iload_n hx hb dX5_addBerth_26 rfl (lv_at hl 2 rfl) ?_
    refine lv_iconst (v := (1 : Int32)) hx hb dX5_addBerth_27 (by decide) ?_
    refine lv_sipush (v := (200 : Int32)) hx hb dX5_addBerth_28 (by decide) ?_
    refine z_callS (As := [Value.int g, Value.int (1 : Int32), Value.int (200 : Int32)]) (rest := []) hx hb hml hown hta zm_X5_outside wd_5_12 (c_X5_outside l D y a cap clr t hom mov wm tb tf ts nw wf wt nb bw bl bi bb no od ow ol ork ob olf oco pn pb pm pcd pw pli g (1 : Int32) (200 : Int32)) hN hK hP hD hS hA rfl hl rfl (Nat.le_of_ble_eq_true rfl) ⟨Nat.le_of_ble_eq_true rfl, Nat.le_of_ble_eq_true rfl⟩ ⟨Nat.le_of_ble_eq_true rfl, Nat.le_of_ble_eq_true rfl⟩ dX5_addBerth_31 (fun v w' H locs hq hP hD hS => ?_)
    obtain ⟨rfl, rfl⟩ := hq
    refine lv_if_ne (tgt := 47) hx hb dX5_addBerth_34 (by decide) (fun c34 => ?_) (fun c34 => ?_)
    · have c34 := bI_1 c34
      refine zt_IllegalArgumentException_81 (ik := 79) (ic := 83) hlt hG hx hb hown hta hN hP hS hl hml hex hlocks rfl rfl (Nat.le_of_ble_eq_true rfl) (Nat.le_of_ble_eq_true rfl) (Nat.le_of_ble_eq_true rfl) (Nat.le_of_ble_eq_true rfl) (Nat.le_of_ble_eq_true rfl) (Nat.le_of_ble_eq_true rfl) dX5_addBerth_47 dX5_addBerth_50 dX5_addBerth_51 dX5_addBerth_53 dX5_addBerth_56 ?_
      exact Or.inr (Or.inl ⟨rfl, by simp [abC, c2, c34]⟩)
    · have c34 := bI_0 c34
      refine lv_iload_n hx hb dX5_addBerth_37 rfl (lv_at hl 3 rfl) ?_
      refine lv_iconst (v := (1 : Int32)) hx hb dX5_addBerth_38 (by decide) ?_
      refine lv_bipush (v := (40 : Int32)) hx hb dX5_addBerth_39 (by decide) ?_
      refine z_callS (As := [Value.int h, Value.int (1 : Int32), Value.int (40 : Int32)]) (rest := []) hx hb hml hown hta zm_X5_outside wd_5_12 (c_X5_outside l D y a cap clr t hom mov wm tb tf ts nw wf wt nb bw bl bi bb no od ow ol ork ob olf oco pn pb pm pcd pw pli h (1 : Int32) (40 : Int32)) hN hK hP hD hS hA rfl hl rfl (Nat.le_of_ble_eq_true rfl) ⟨Nat.le_of_ble_eq_true rfl, Nat.le_of_ble_eq_true rfl⟩ ⟨Nat.le_of_ble_eq_true rfl, Nat.le_of_ble_eq_true rfl⟩ dX5_addBerth_41 (fun v w' H locs hq hP hD hS => ?_)
      obtain ⟨rfl, rfl⟩ := hq
      refine lv_if_eq (tgt := 57) hx hb dX5_addBerth_44 (by decide) (fun c44 => ?_) (fun c44 => ?_)
      · have c44 := bI_0 c44
        refine lv_aload_n hx hb dX5_addBerth_57 rfl (lv_at hl 0 rfl) ?_
        refine gB5_berths hx hb hta hown hK hP wd_1_20 dX5_addBerth_58 ?_
        refine gB0_count hx hb hta hown hK hP wd_5_7 dX5_addBerth_61 ?_
        refine lv_bipush (v := (6 : Int32)) hx hb dX5_addBerth_64 (by decide) ?_
        refine lv_icmp_lt (tgt := 79) hx hb dX5_addBerth_66 (by decide) (fun c66 => ?_) (fun c66 => ?_)
        · have c66 : nb < 6 := (nI_ltI (a := nb) (b := 6) (by omega) (by omega)).mp c66
          refine lv_aload_n hx hb dX5_addBerth_79 rfl (lv_at hl 0 rfl) ?_
          refine gB5_berths hx hb hta hown hK hP wd_1_20 dX5_addBerth_80 ?_
          refine lv_iload_n hx hb dX5_addBerth_83 rfl (lv_at hl 1 rfl) ?_
          refine lv_iload_n hx hb dX5_addBerth_84 rfl (lv_at hl 2 rfl) ?_
          refine lv_iload_n hx hb dX5_addBerth_85 rfl (lv_at hl 3 rfl) ?_
          refine z_callV (As := [Value.int f, Value.int g, Value.int h]) (rest := []) hx hb hml hown hta zm_X0_append wd_5_15 (c_X0_append l D y a cap clr t hom mov wm tb tf ts nw wf wt nb bw bl bi bb no od ow ol ork ob olf oco pn pb pm pcd pw pli f g h (by omega)) hN hK hP hD hS hA 3 rfl rfl rfl hl rfl (Nat.le_of_ble_eq_true rfl) ⟨Nat.le_of_ble_eq_true rfl, Nat.le_of_ble_eq_true rfl⟩ ⟨Nat.le_of_ble_eq_true rfl, Nat.le_of_ble_eq_true rfl⟩ dX5_addBerth_86 (fun v w' H locs hq hP hD hS => ?_)
          obtain ⟨rfl, rfl⟩ := hq
          refine z_iretX hG hx hb hr hlocks hP hD hS (Nat.le_of_ble_eq_true rfl) (Nat.le_of_ble_eq_true rfl) dX5_addBerth_89 ?_
          refine ⟨?_, congrArg (fun z => some (Value.int z)) ?_, ?_⟩
          · simp [abC, c2, c34, c44, c66]
          · rfl
          · rfl
        · have c66 : ¬ nb < 6 := fun z => c66 ((nI_ltI (a := nb) (b := 6) (by omega) (by omega)).mpr z)
          refine zt_IllegalStateException_89 (ik := 87) (ic := 91) hlt hG hx hb hown hta hN hP hS hl hml hex hlocks rfl rfl (Nat.le_of_ble_eq_true rfl) (Nat.le_of_ble_eq_true rfl) (Nat.le_of_ble_eq_true rfl) (Nat.le_of_ble_eq_true rfl) (Nat.le_of_ble_eq_true rfl) (Nat.le_of_ble_eq_true rfl) dX5_addBerth_69 dX5_addBerth_72 dX5_addBerth_73 dX5_addBerth_75 dX5_addBerth_78 ?_
          exact Or.inr (Or.inr ⟨rfl, by simp [abC, c2, c34, c44, c66]⟩)
      · have c44 := bI_1 c44
        refine zt_IllegalArgumentException_81 (ik := 79) (ic := 83) hlt hG hx hb hown hta hN hP hS hl hml hex hlocks rfl rfl (Nat.le_of_ble_eq_true rfl) (Nat.le_of_ble_eq_true rfl) (Nat.le_of_ble_eq_true rfl) (Nat.le_of_ble_eq_true rfl) (Nat.le_of_ble_eq_true rfl) (Nat.le_of_ble_eq_true rfl) dX5_addBerth_47 dX5_addBerth_50 dX5_addBerth_51 dX5_addBerth_53 dX5_addBerth_56 ?_
        exact Or.inr (Or.inl ⟨rfl, by simp [abC, c2, c34, c44]⟩)
  · refine lv_aload_n hx hb dX5_addBerth_5 rfl (lv_at hl 0 rfl) ?_
    refine gB5_berths hx hb hta hown hK hP wd_1_20 dX5_addBerth_6 ?_
    refine lv_iload_n hx hb dX5_addBerth_9 rfl (lv_at hl 1 rfl) ?_
    refine z_callV (As := [Value.int f]) (rest := []) hx hb hml hown hta zm_X0_has wd_5_8 (c_X0_has l D y a cap clr t hom mov wm tb tf ts nw wf wt nb bw bl bi bb no od ow ol ork ob olf oco pn pb pm pcd pw pli f (by omega)) hN hK hP hD hS hA 3 rfl rfl rfl hl rfl (Nat.le_of_ble_eq_true rfl) ⟨Nat.le_of_ble_eq_true rfl, Nat.le_of_ble_eq_true rfl⟩ ⟨Nat.le_of_ble_eq_true rfl, Nat.le_of_ble_eq_true rfl⟩ dX5_addBerth_10 (fun v w' H locs hq hP hD hS => ?_)
    obtain ⟨rfl, rfl⟩ := hq
    refine lv_if_ne (tgt := 26) hx hb dX5_addBerth_13 (by decide) (fun c13 => ?_) (fun c13 => ?_)
    · have c13 := bI_1 c13
      refine lv_iload_n hx hb dX5_addBerth_26 rfl (lv_at hl 2 rfl) ?_
      refine lv_iconst (v := (1 : Int32)) hx hb dX5_addBerth_27 (by decide) ?_
      refine lv_sipush (v := (200 : Int32)) hx hb dX5_addBerth_28 (by decide) ?_
      refine z_callS (As := [Value.int g, Value.int (1 : Int32), Value.int (200 : Int32)]) (rest := []) hx hb hml hown hta zm_X5_outside wd_5_12 (c_X5_outside l D y a cap clr t hom mov wm tb tf ts nw wf wt nb bw bl bi bb no od ow ol ork ob olf oco pn pb pm pcd pw pli g (1 : Int32) (200 : Int32)) hN hK hP hD hS hA rfl hl rfl (Nat.le_of_ble_eq_true rfl) ⟨Nat.le_of_ble_eq_true rfl, Nat.le_of_ble_eq_true rfl⟩ ⟨Nat.le_of_ble_eq_true rfl, Nat.le_of_ble_eq_true rfl⟩ dX5_addBerth_31 (fun v w' H locs hq hP hD hS => ?_)
      obtain ⟨rfl, rfl⟩ := hq
      refine lv_if_ne (tgt := 47) hx hb dX5_addBerth_34 (by decide) (fun c34 => ?_) (fun c34 => ?_)
      · have c34 := bI_1 c34
        refine zt_IllegalArgumentException_81 (ik := 79) (ic := 83) hlt hG hx hb hown hta hN hP hS hl hml hex hlocks rfl rfl (Nat.le_of_ble_eq_true rfl) (Nat.le_of_ble_eq_true rfl) (Nat.le_of_ble_eq_true rfl) (Nat.le_of_ble_eq_true rfl) (Nat.le_of_ble_eq_true rfl) (Nat.le_of_ble_eq_true rfl) dX5_addBerth_47 dX5_addBerth_50 dX5_addBerth_51 dX5_addBerth_53 dX5_addBerth_56 ?_
        exact Or.inr (Or.inl ⟨rfl, by simp [abC, c2, c13, c34]⟩)
      · have c34 := bI_0 c34
        refine lv_iload_n hx hb dX5_addBerth_37 rfl (lv_at hl 3 rfl) ?_
        refine lv_iconst (v := (1 : Int32)) hx hb dX5_addBerth_38 (by decide) ?_
        refine lv_bipush (v := (40 : Int32)) hx hb dX5_addBerth_39 (by decide) ?_
        refine z_callS (As := [Value.int h, Value.int (1 : Int32), Value.int (40 : Int32)]) (rest := []) hx hb hml hown hta zm_X5_outside wd_5_12 (c_X5_outside l D y a cap clr t hom mov wm tb tf ts nw wf wt nb bw bl bi bb no od ow ol ork ob olf oco pn pb pm pcd pw pli h (1 : Int32) (40 : Int32)) hN hK hP hD hS hA rfl hl rfl (Nat.le_of_ble_eq_true rfl) ⟨Nat.le_of_ble_eq_true rfl, Nat.le_of_ble_eq_true rfl⟩ ⟨Nat.le_of_ble_eq_true rfl, Nat.le_of_ble_eq_true rfl⟩ dX5_addBerth_41 (fun v w' H locs hq hP hD hS => ?_)
        obtain ⟨rfl, rfl⟩ := hq
        refine lv_if_eq (tgt := 57) hx hb dX5_addBerth_44 (by decide) (fun c44 => ?_) (fun c44 => ?_)
        · have c44 := bI_0 c44
          refine lv_aload_n hx hb dX5_addBerth_57 rfl (lv_at hl 0 rfl) ?_
          refine gB5_berths hx hb hta hown hK hP wd_1_20 dX5_addBerth_58 ?_
          refine gB0_count hx hb hta hown hK hP wd_5_7 dX5_addBerth_61 ?_
          refine lv_bipush (v := (6 : Int32)) hx hb dX5_addBerth_64 (by decide) ?_
          refine lv_icmp_lt (tgt := 79) hx hb dX5_addBerth_66 (by decide) (fun c66 => ?_) (fun c66 => ?_)
          · have c66 : nb < 6 := (nI_ltI (a := nb) (b := 6) (by omega) (by omega)).mp c66
            refine lv_aload_n hx hb dX5_addBerth_79 rfl (lv_at hl 0 rfl) ?_
            refine gB5_berths hx hb hta hown hK hP wd_1_20 dX5_addBerth_80 ?_
            refine lv_iload_n hx hb dX5_addBerth_83 rfl (lv_at hl 1 rfl) ?_
            refine lv_iload_n hx hb dX5_addBerth_84 rfl (lv_at hl 2 rfl) ?_
            refine lv_iload_n hx hb dX5_addBerth_85 rfl (lv_at hl 3 rfl) ?_
            refine z_callV (As := [Value.int f, Value.int g, Value.int h]) (rest := []) hx hb hml hown hta zm_X0_append wd_5_15 (c_X0_append l D y a cap clr t hom mov wm tb tf ts nw wf wt nb bw bl bi bb no od ow ol ork ob olf oco pn pb pm pcd pw pli f g h (by omega)) hN hK hP hD hS hA 3 rfl rfl rfl hl rfl (Nat.le_of_ble_eq_true rfl) ⟨Nat.le_of_ble_eq_true rfl, Nat.le_of_ble_eq_true rfl⟩ ⟨Nat.le_of_ble_eq_true rfl, Nat.le_of_ble_eq_true rfl⟩ dX5_addBerth_86 (fun v w' H locs hq hP hD hS => ?_)
            obtain ⟨rfl, rfl⟩ := hq
            refine z_iretX hG hx hb hr hlocks hP hD hS (Nat.le_of_ble_eq_true rfl) (Nat.le_of_ble_eq_true rfl) dX5_addBerth_89 ?_
            refine ⟨?_, congrArg (fun z => some (Value.int z)) ?_, ?_⟩
            · simp [abC, c2, c13, c34, c44, c66]
            · rfl
            · rfl
          · have c66 : ¬ nb < 6 := fun z => c66 ((nI_ltI (a := nb) (b := 6) (by omega) (by omega)).mpr z)
            refine zt_IllegalStateException_89 (ik := 87) (ic := 91) hlt hG hx hb hown hta hN hP hS hl hml hex hlocks rfl rfl (Nat.le_of_ble_eq_true rfl) (Nat.le_of_ble_eq_true rfl) (Nat.le_of_ble_eq_true rfl) (Nat.le_of_ble_eq_true rfl) (Nat.le_of_ble_eq_true rfl) (Nat.le_of_ble_eq_true rfl) dX5_addBerth_69 dX5_addBerth_72 dX5_addBerth_73 dX5_addBerth_75 dX5_addBerth_78 ?_
            exact Or.inr (Or.inr ⟨rfl, by simp [abC, c2, c13, c34, c44, c66]⟩)
        · have c44 := bI_1 c44
          refine zt_IllegalArgumentException_81 (ik := 79) (ic := 83) hlt hG hx hb hown hta hN hP hS hl hml hex hlocks rfl rfl (Nat.le_of_ble_eq_true rfl) (Nat.le_of_ble_eq_true rfl) (Nat.le_of_ble_eq_true rfl) (Nat.le_of_ble_eq_true rfl) (Nat.le_of_ble_eq_true rfl) (Nat.le_of_ble_eq_true rfl) dX5_addBerth_47 dX5_addBerth_50 dX5_addBerth_51 dX5_addBerth_53 dX5_addBerth_56 ?_
          exact Or.inr (Or.inl ⟨rfl, by simp [abC, c2, c13, c34, c44]⟩)
    · have c13 := bI_0 c13
      refine zt_IndexOutOfBoundsException_70 (ik := 68) (ic := 72) hlt hG hx hb hown hta hN hP hS hl hml hex hlocks rfl rfl (Nat.le_of_ble_eq_true rfl) (Nat.le_of_ble_eq_true rfl) (Nat.le_of_ble_eq_true rfl) (Nat.le_of_ble_eq_true rfl) (Nat.le_of_ble_eq_true rfl) (Nat.le_of_ble_eq_true rfl) dX5_addBerth_16 dX5_addBerth_19 dX5_addBerth_20 dX5_addBerth_22 dX5_addBerth_25 ?_
      exact Or.inl ⟨rfl, by simp [abC, c2, c13]⟩
set_option maxHeartbeats 800000 in
set_option maxRecDepth 100000 in
theorem c_X5_addBoat (l : Launch) (hlt : l.stackTraces = false) (D : va_G) (y : Nat → ClassId) (a : Nat → Nat) (cap clr : Int32) (t : Nat) (hom mov : Int32) (wm : Int64) (tb tf ts : Int32) (nw : Nat) (wf wt : Nat → Int32) (nb : Nat) (bw bl bi bb : Nat → Int32) (no : Nat) (od ow ol ork ob olf oco : Nat → Int32) (pn pb pm : Int32) (pcd pw pli : Nat → Int32) (f : Int32) (g : Int32) (h : Int32) (r : Int32) (hb8 : no ≤ 8) : zX l D y yX5_addBoat cX5_addBoat 5 (some .int) 7 1 6 95 [Value.ref (a 0), Value.int f, Value.int g, Value.int h, Value.int r] (wB a y cap clr (nI t) hom mov wm tb tf ts (nI nw) wf wt (nI nb) bw bl bi bb (nI no) od ow ol ork ob olf oco pn pb pm pcd pw pli) (fun o9 w9 => (aoC no f g h r = 0) ∧ o9 = some (Value.int (nI no)) ∧ w9 = wB a y cap clr (nI t) hom mov wm tb tf ts (nI nw) wf wt (nI nb) bw bl bi bb (nI (no + 1)) (upd od no f) (upd ow no g) (upd ol no h) (upd ork no r) (upd ob no (-1 : Int32)) olf oco pn pb pm pcd pw pli) (fun E => (E = "java/lang/IllegalArgumentException" ∧ (aoC no f g h r = 1)) ∨ (E = "java/lang/IllegalStateException" ∧ (aoC no f g h r = 2))) := by
  refine zX.of (by decide +kernel) (Nat.le_of_ble_eq_true rfl) ?_
  intro p e s m args below meth c A ls hx hb hr hta hown hlocks hml hex hN hK hP hD hS hA hl
  refine z_gen (fun G hG => ?_)
  have hl : lv_has ls 5 [(0, Value.ref (a 0)), (1, Value.int f), (2, Value.int g), (3, Value.int h), (4, Value.int r)] := hl
  refine lv_iload_n hx hb dX5_addBoat_0 rfl (lv_at hl 1 rfl) ?_
  refine lv_bipush (v := (50 : Int32)) hx hb dX5_addBoat_1 (by decide) ?_
  refine lv_sipush (v := (400 : Int32)) hx hb dX5_addBoat_3 (by decide) ?_
  refine z_callS (As := [Value.int f, Value.int (50 : Int32), Value.int (400 : Int32)]) (rest := []) hx hb hml hown hta zm_X5_outside wd_5_12 (c_X5_outside l D y a cap clr t hom mov wm tb tf ts nw wf wt nb bw bl bi bb no od ow ol ork ob olf oco pn pb pm pcd pw pli f (50 : Int32) (400 : Int32)) hN hK hP hD hS hA rfl hl rfl (Nat.le_of_ble_eq_true rfl) ⟨Nat.le_of_ble_eq_true rfl, Nat.le_of_ble_eq_true rfl⟩ ⟨Nat.le_of_ble_eq_true rfl, Nat.le_of_ble_eq_true rfl⟩ dX5_addBoat_6 (fun v w' H locs hq hP hD hS => ?_)
  obtain ⟨rfl, rfl⟩ := hq
  refine lv_if_ne (tgt := 44) hx hb dX5_addBoat_9 (by decide) (fun c9 => ?_) (fun c9 => ?_)
  · have c9 := bI_1 c9
    refine zt_IllegalArgumentException_96 (ik := 79) (ic := 83) hlt hG hx hb hown hta hN hP hS hl hml hex hlocks rfl rfl (Nat.le_of_ble_eq_true rfl) (Nat.le_of_ble_eq_true rfl) (Nat.le_of_ble_eq_true rfl) (Nat.le_of_ble_eq_true rfl) (Nat.le_of_ble_eq_true rfl) (Nat.le_of_ble_eq_true rfl) dX5_addBoat_44 dX5_addBoat_47 dX5_addBoat_48 dX5_addBoat_50 dX5_addBoat_53 ?_
    exact Or.inl ⟨rfl, by simp [aoC, c9]⟩
  · have c9 := bI_0 c9
    refine lv_iload_n hx hb dX5_addBoat_12 rfl (lv_at hl 2 rfl) ?_
    refine lv_iconst (v := (1 : Int32)) hx hb dX5_addBoat_13 (by decide) ?_
    refine lv_sipush (v := (200 : Int32)) hx hb dX5_addBoat_14 (by decide) ?_
    refine z_callS (As := [Value.int g, Value.int (1 : Int32), Value.int (200 : Int32)]) (rest := []) hx hb hml hown hta zm_X5_outside wd_5_12 (c_X5_outside l D y a cap clr t hom mov wm tb tf ts nw wf wt nb bw bl bi bb no od ow ol ork ob olf oco pn pb pm pcd pw pli g (1 : Int32) (200 : Int32)) hN hK hP hD hS hA rfl hl rfl (Nat.le_of_ble_eq_true rfl) ⟨Nat.le_of_ble_eq_true rfl, Nat.le_of_ble_eq_true rfl⟩ ⟨Nat.le_of_ble_eq_true rfl, Nat.le_of_ble_eq_true rfl⟩ dX5_addBoat_17 (fun v w' H locs hq hP hD hS => ?_)
    obtain ⟨rfl, rfl⟩ := hq
    refine lv_if_ne (tgt := 44) hx hb dX5_addBoat_20 (by decide) (fun c20 => ?_) (fun c20 => ?_)
    · have c20 := bI_1 c20
      refine zt_IllegalArgumentException_96 (ik := 79) (ic := 83) hlt hG hx hb hown hta hN hP hS hl hml hex hlocks rfl rfl (Nat.le_of_ble_eq_true rfl) (Nat.le_of_ble_eq_true rfl) (Nat.le_of_ble_eq_true rfl) (Nat.le_of_ble_eq_true rfl) (Nat.le_of_ble_eq_true rfl) (Nat.le_of_ble_eq_true rfl) dX5_addBoat_44 dX5_addBoat_47 dX5_addBoat_48 dX5_addBoat_50 dX5_addBoat_53 ?_
      exact Or.inl ⟨rfl, by simp [aoC, c9, c20]⟩
    · have c20 := bI_0 c20
      refine lv_iload_n hx hb dX5_addBoat_23 rfl (lv_at hl 3 rfl) ?_
      refine lv_iconst (v := (1 : Int32)) hx hb dX5_addBoat_24 (by decide) ?_
      refine lv_bipush (v := (40 : Int32)) hx hb dX5_addBoat_25 (by decide) ?_
      refine z_callS (As := [Value.int h, Value.int (1 : Int32), Value.int (40 : Int32)]) (rest := []) hx hb hml hown hta zm_X5_outside wd_5_12 (c_X5_outside l D y a cap clr t hom mov wm tb tf ts nw wf wt nb bw bl bi bb no od ow ol ork ob olf oco pn pb pm pcd pw pli h (1 : Int32) (40 : Int32)) hN hK hP hD hS hA rfl hl rfl (Nat.le_of_ble_eq_true rfl) ⟨Nat.le_of_ble_eq_true rfl, Nat.le_of_ble_eq_true rfl⟩ ⟨Nat.le_of_ble_eq_true rfl, Nat.le_of_ble_eq_true rfl⟩ dX5_addBoat_27 (fun v w' H locs hq hP hD hS => ?_)
      obtain ⟨rfl, rfl⟩ := hq
      refine lv_if_ne (tgt := 44) hx hb dX5_addBoat_30 (by decide) (fun c30 => ?_) (fun c30 => ?_)
      · have c30 := bI_1 c30
        refine zt_IllegalArgumentException_96 (ik := 79) (ic := 83) hlt hG hx hb hown hta hN hP hS hl hml hex hlocks rfl rfl (Nat.le_of_ble_eq_true rfl) (Nat.le_of_ble_eq_true rfl) (Nat.le_of_ble_eq_true rfl) (Nat.le_of_ble_eq_true rfl) (Nat.le_of_ble_eq_true rfl) (Nat.le_of_ble_eq_true rfl) dX5_addBoat_44 dX5_addBoat_47 dX5_addBoat_48 dX5_addBoat_50 dX5_addBoat_53 ?_
        exact Or.inl ⟨rfl, by simp [aoC, c9, c20, c30]⟩
      · have c30 := bI_0 c30
        refine lv_iload hx hb dX5_addBoat_33 (lv_at hl 4 rfl) ?_
        refine lv_iconst (v := (0 : Int32)) hx hb dX5_addBoat_35 (by decide) ?_
        refine lv_bipush (v := (9 : Int32)) hx hb dX5_addBoat_36 (by decide) ?_
        refine z_callS (As := [Value.int r, Value.int (0 : Int32), Value.int (9 : Int32)]) (rest := []) hx hb hml hown hta zm_X5_outside wd_5_12 (c_X5_outside l D y a cap clr t hom mov wm tb tf ts nw wf wt nb bw bl bi bb no od ow ol ork ob olf oco pn pb pm pcd pw pli r (0 : Int32) (9 : Int32)) hN hK hP hD hS hA rfl hl rfl (Nat.le_of_ble_eq_true rfl) ⟨Nat.le_of_ble_eq_true rfl, Nat.le_of_ble_eq_true rfl⟩ ⟨Nat.le_of_ble_eq_true rfl, Nat.le_of_ble_eq_true rfl⟩ dX5_addBoat_38 (fun v w' H locs hq hP hD hS => ?_)
        obtain ⟨rfl, rfl⟩ := hq
        refine lv_if_eq (tgt := 54) hx hb dX5_addBoat_41 (by decide) (fun c41 => ?_) (fun c41 => ?_)
        · have c41 := bI_0 c41
          refine lv_aload_n hx hb dX5_addBoat_54 rfl (lv_at hl 0 rfl) ?_
          refine gB5_boats hx hb hta hown hK hP wd_2_0 dX5_addBoat_55 ?_
          refine gB1_count hx hb hta hown hK hP wd_6_3 dX5_addBoat_58 ?_
          refine lv_bipush (v := (8 : Int32)) hx hb dX5_addBoat_61 (by decide) ?_
          refine lv_icmp_lt (tgt := 76) hx hb dX5_addBoat_63 (by decide) (fun c63 => ?_) (fun c63 => ?_)
          · have c63 : no < 8 := (nI_ltI (a := no) (b := 8) (by omega) (by omega)).mp c63
            refine lv_aload_n hx hb dX5_addBoat_76 rfl (lv_at hl 0 rfl) ?_
            refine gB5_boats hx hb hta hown hK hP wd_2_0 dX5_addBoat_77 ?_
            refine lv_iload_n hx hb dX5_addBoat_80 rfl (lv_at hl 1 rfl) ?_
            refine lv_iload_n hx hb dX5_addBoat_81 rfl (lv_at hl 2 rfl) ?_
            refine lv_iload_n hx hb dX5_addBoat_82 rfl (lv_at hl 3 rfl) ?_
            refine lv_iload hx hb dX5_addBoat_83 (lv_at hl 4 rfl) ?_
            refine z_callV (As := [Value.int f, Value.int g, Value.int h, Value.int r]) (rest := []) hx hb hml hown hta zm_X1_append wd_6_4 (c_X1_append l D y a cap clr t hom mov wm tb tf ts nw wf wt nb bw bl bi bb no od ow ol ork ob olf oco pn pb pm pcd pw pli f g h r (by omega)) hN hK hP hD hS hA 4 rfl rfl rfl hl rfl (Nat.le_of_ble_eq_true rfl) ⟨Nat.le_of_ble_eq_true rfl, Nat.le_of_ble_eq_true rfl⟩ ⟨Nat.le_of_ble_eq_true rfl, Nat.le_of_ble_eq_true rfl⟩ dX5_addBoat_85 (fun v w' H locs hq hP hD hS => ?_)
            obtain ⟨rfl, rfl⟩ := hq
            refine z_iretX hG hx hb hr hlocks hP hD hS (Nat.le_of_ble_eq_true rfl) (Nat.le_of_ble_eq_true rfl) dX5_addBoat_88 ?_
            refine ⟨?_, congrArg (fun z => some (Value.int z)) ?_, ?_⟩
            · simp [aoC, c9, c20, c30, c41, c63]
            · rfl
            · rfl
          · have c63 : ¬ no < 8 := fun z => c63 ((nI_ltI (a := no) (b := 8) (by omega) (by omega)).mpr z)
            refine zt_IllegalStateException_99 (ik := 87) (ic := 91) hlt hG hx hb hown hta hN hP hS hl hml hex hlocks rfl rfl (Nat.le_of_ble_eq_true rfl) (Nat.le_of_ble_eq_true rfl) (Nat.le_of_ble_eq_true rfl) (Nat.le_of_ble_eq_true rfl) (Nat.le_of_ble_eq_true rfl) (Nat.le_of_ble_eq_true rfl) dX5_addBoat_66 dX5_addBoat_69 dX5_addBoat_70 dX5_addBoat_72 dX5_addBoat_75 ?_
            exact Or.inr ⟨rfl, by simp [aoC, c9, c20, c30, c41, c63]⟩
        · have c41 := bI_1 c41
          refine zt_IllegalArgumentException_96 (ik := 79) (ic := 83) hlt hG hx hb hown hta hN hP hS hl hml hex hlocks rfl rfl (Nat.le_of_ble_eq_true rfl) (Nat.le_of_ble_eq_true rfl) (Nat.le_of_ble_eq_true rfl) (Nat.le_of_ble_eq_true rfl) (Nat.le_of_ble_eq_true rfl) (Nat.le_of_ble_eq_true rfl) dX5_addBoat_44 dX5_addBoat_47 dX5_addBoat_48 dX5_addBoat_50 dX5_addBoat_53 ?_
          exact Or.inl ⟨rfl, by simp [aoC, c9, c20, c30, c41]⟩
set_option maxHeartbeats 800000 in
set_option maxRecDepth 100000 in
theorem c_X5_setTide (l : Launch) (hlt : l.stackTraces = false) (D : va_G) (y : Nat → ClassId) (a : Nat → Nat) (cap clr : Int32) (t : Nat) (hom mov : Int32) (wm : Int64) (tb tf ts : Int32) (nw : Nat) (wf wt : Nat → Int32) (nb : Nat) (bw bl bi bb : Nat → Int32) (no : Nat) (od ow ol ork ob olf oco : Nat → Int32) (pn pb pm : Int32) (pcd pw pli : Nat → Int32) (f : Int32) (g : Int32) (h : Int32)  : zX l D y yX5_setTide cX5_setTide 4 (some .int) 7 1 6 95 [Value.ref (a 0), Value.int f, Value.int g, Value.int h] (wB a y cap clr (nI t) hom mov wm tb tf ts (nI nw) wf wt (nI nb) bw bl bi bb (nI no) od ow ol ork ob olf oco pn pb pm pcd pw pli) (fun o9 w9 => (stC f g h = 0) ∧ o9 = some (Value.int (lev f g h (nI t))) ∧ w9 = wB a y cap clr (nI t) hom mov wm f g h (nI nw) wf wt (nI nb) bw bl bi bb (nI no) od ow ol ork ob olf oco pn pb pm pcd pw pli) (fun E => (E = "java/lang/IllegalArgumentException" ∧ (stC f g h = 1))) := by
  refine zX.of (by decide +kernel) (Nat.le_of_ble_eq_true rfl) ?_
  intro p e s m args below meth c A ls hx hb hr hta hown hlocks hml hex hN hK hP hD hS hA hl
  refine z_gen (fun G hG => ?_)
  have hl : lv_has ls 4 [(0, Value.ref (a 0)), (1, Value.int f), (2, Value.int g), (3, Value.int h)] := hl
  refine lv_iload_n hx hb dX5_setTide_0 rfl (lv_at hl 1 rfl) ?_
  refine lv_iconst (v := (0 : Int32)) hx hb dX5_setTide_1 (by decide) ?_
  refine lv_sipush (v := (600 : Int32)) hx hb dX5_setTide_2 (by decide) ?_
  refine z_callS (As := [Value.int f, Value.int (0 : Int32), Value.int (600 : Int32)]) (rest := []) hx hb hml hown hta zm_X5_outside wd_5_12 (c_X5_outside l D y a cap clr t hom mov wm tb tf ts nw wf wt nb bw bl bi bb no od ow ol ork ob olf oco pn pb pm pcd pw pli f (0 : Int32) (600 : Int32)) hN hK hP hD hS hA rfl hl rfl (Nat.le_of_ble_eq_true rfl) ⟨Nat.le_of_ble_eq_true rfl, Nat.le_of_ble_eq_true rfl⟩ ⟨Nat.le_of_ble_eq_true rfl, Nat.le_of_ble_eq_true rfl⟩ dX5_setTide_5 (fun v w' H locs hq hP hD hS => ?_)
  obtain ⟨rfl, rfl⟩ := hq
  refine lv_if_ne (tgt := 31) hx hb dX5_setTide_8 (by decide) (fun c8 => ?_) (fun c8 => ?_)
  · have c8 := bI_1 c8
    refine zt_IllegalArgumentException_96 (ik := 79) (ic := 83) hlt hG hx hb hown hta hN hP hS hl hml hex hlocks rfl rfl (Nat.le_of_ble_eq_true rfl) (Nat.le_of_ble_eq_true rfl) (Nat.le_of_ble_eq_true rfl) (Nat.le_of_ble_eq_true rfl) (Nat.le_of_ble_eq_true rfl) (Nat.le_of_ble_eq_true rfl) dX5_setTide_31 dX5_setTide_34 dX5_setTide_35 dX5_setTide_37 dX5_setTide_40 ?_
    exact ⟨rfl, by simp [stC, c8]⟩
  · have c8 := bI_0 c8
    refine lv_iload_n hx hb dX5_setTide_11 rfl (lv_at hl 2 rfl) ?_
    refine lv_iconst (v := (0 : Int32)) hx hb dX5_setTide_12 (by decide) ?_
    refine lv_bipush (v := (60 : Int32)) hx hb dX5_setTide_13 (by decide) ?_
    refine z_callS (As := [Value.int g, Value.int (0 : Int32), Value.int (60 : Int32)]) (rest := []) hx hb hml hown hta zm_X5_outside wd_5_12 (c_X5_outside l D y a cap clr t hom mov wm tb tf ts nw wf wt nb bw bl bi bb no od ow ol ork ob olf oco pn pb pm pcd pw pli g (0 : Int32) (60 : Int32)) hN hK hP hD hS hA rfl hl rfl (Nat.le_of_ble_eq_true rfl) ⟨Nat.le_of_ble_eq_true rfl, Nat.le_of_ble_eq_true rfl⟩ ⟨Nat.le_of_ble_eq_true rfl, Nat.le_of_ble_eq_true rfl⟩ dX5_setTide_15 (fun v w' H locs hq hP hD hS => ?_)
    obtain ⟨rfl, rfl⟩ := hq
    refine lv_if_ne (tgt := 31) hx hb dX5_setTide_18 (by decide) (fun c18 => ?_) (fun c18 => ?_)
    · have c18 := bI_1 c18
      refine zt_IllegalArgumentException_96 (ik := 79) (ic := 83) hlt hG hx hb hown hta hN hP hS hl hml hex hlocks rfl rfl (Nat.le_of_ble_eq_true rfl) (Nat.le_of_ble_eq_true rfl) (Nat.le_of_ble_eq_true rfl) (Nat.le_of_ble_eq_true rfl) (Nat.le_of_ble_eq_true rfl) (Nat.le_of_ble_eq_true rfl) dX5_setTide_31 dX5_setTide_34 dX5_setTide_35 dX5_setTide_37 dX5_setTide_40 ?_
      exact ⟨rfl, by simp [stC, c8, c18]⟩
    · have c18 := bI_0 c18
      refine lv_iload_n hx hb dX5_setTide_21 rfl (lv_at hl 3 rfl) ?_
      refine lv_iconst (v := (0 : Int32)) hx hb dX5_setTide_22 (by decide) ?_
      refine lv_bipush (v := (30 : Int32)) hx hb dX5_setTide_23 (by decide) ?_
      refine z_callS (As := [Value.int h, Value.int (0 : Int32), Value.int (30 : Int32)]) (rest := []) hx hb hml hown hta zm_X5_outside wd_5_12 (c_X5_outside l D y a cap clr t hom mov wm tb tf ts nw wf wt nb bw bl bi bb no od ow ol ork ob olf oco pn pb pm pcd pw pli h (0 : Int32) (30 : Int32)) hN hK hP hD hS hA rfl hl rfl (Nat.le_of_ble_eq_true rfl) ⟨Nat.le_of_ble_eq_true rfl, Nat.le_of_ble_eq_true rfl⟩ ⟨Nat.le_of_ble_eq_true rfl, Nat.le_of_ble_eq_true rfl⟩ dX5_setTide_25 (fun v w' H locs hq hP hD hS => ?_)
      obtain ⟨rfl, rfl⟩ := hq
      refine lv_if_eq (tgt := 41) hx hb dX5_setTide_28 (by decide) (fun c28 => ?_) (fun c28 => ?_)
      · have c28 := bI_0 c28
        refine lv_aload_n hx hb dX5_setTide_41 rfl (lv_at hl 0 rfl) ?_
        refine gB5_tide hx hb hta hown hK hP wd_1_12 dX5_setTide_42 ?_
        refine lv_iload_n hx hb dX5_setTide_45 rfl (lv_at hl 1 rfl) ?_
        refine pB3_base hx hb hta hown hK hP hD hS wd_6_15 dX5_setTide_46 (fun H locs hP hD hS => ?_)
        refine lv_aload_n hx hb dX5_setTide_49 rfl (lv_at hl 0 rfl) ?_
        refine gB5_tide hx hb hta hown hK hP wd_1_12 dX5_setTide_50 ?_
        refine lv_iload_n hx hb dX5_setTide_53 rfl (lv_at hl 2 rfl) ?_
        refine pB3_first hx hb hta hown hK hP hD hS wd_6_16 dX5_setTide_54 (fun H locs hP hD hS => ?_)
        refine lv_aload_n hx hb dX5_setTide_57 rfl (lv_at hl 0 rfl) ?_
        refine gB5_tide hx hb hta hown hK hP wd_1_12 dX5_setTide_58 ?_
        refine lv_iload_n hx hb dX5_setTide_61 rfl (lv_at hl 3 rfl) ?_
        refine pB3_second hx hb hta hown hK hP hD hS wd_6_17 dX5_setTide_62 (fun H locs hP hD hS => ?_)
        refine lv_aload_n hx hb dX5_setTide_65 rfl (lv_at hl 0 rfl) ?_
        refine gB5_tide hx hb hta hown hK hP wd_1_12 dX5_setTide_66 ?_
        refine lv_aload_n hx hb dX5_setTide_69 rfl (lv_at hl 0 rfl) ?_
        refine gB5_now hx hb hta hown hK hP wd_2_7 dX5_setTide_70 ?_
        refine z_callV (As := [Value.int (nI t)]) (rest := []) hx hb hml hown hta zm_X3_levelAt wd_6_18 (c_X3_levelAt l D y a cap clr t hom mov wm f g h nw wf wt nb bw bl bi bb no od ow ol ork ob olf oco pn pb pm pcd pw pli (nI t)) hN hK hP hD hS hA 1 rfl rfl rfl hl rfl (Nat.le_of_ble_eq_true rfl) ⟨Nat.le_of_ble_eq_true rfl, Nat.le_of_ble_eq_true rfl⟩ ⟨Nat.le_of_ble_eq_true rfl, Nat.le_of_ble_eq_true rfl⟩ dX5_setTide_73 (fun v w' H locs hq hP hD hS => ?_)
        obtain ⟨rfl, rfl⟩ := hq
        refine z_iretX hG hx hb hr hlocks hP hD hS (Nat.le_of_ble_eq_true rfl) (Nat.le_of_ble_eq_true rfl) dX5_setTide_76 ?_
        refine ⟨?_, congrArg (fun z => some (Value.int z)) ?_, ?_⟩
        · simp [stC, c8, c18, c28]
        · rfl
        · rfl
      · have c28 := bI_1 c28
        refine zt_IllegalArgumentException_96 (ik := 79) (ic := 83) hlt hG hx hb hown hta hN hP hS hl hml hex hlocks rfl rfl (Nat.le_of_ble_eq_true rfl) (Nat.le_of_ble_eq_true rfl) (Nat.le_of_ble_eq_true rfl) (Nat.le_of_ble_eq_true rfl) (Nat.le_of_ble_eq_true rfl) (Nat.le_of_ble_eq_true rfl) dX5_setTide_31 dX5_setTide_34 dX5_setTide_35 dX5_setTide_37 dX5_setTide_40 ?_
        exact ⟨rfl, by simp [stC, c8, c18, c28]⟩
set_option maxHeartbeats 800000 in
set_option maxRecDepth 100000 in
theorem c_X5_setCradle (l : Launch) (hlt : l.stackTraces = false) (D : va_G) (y : Nat → ClassId) (a : Nat → Nat) (cap clr : Int32) (t : Nat) (hom mov : Int32) (wm : Int64) (tb tf ts : Int32) (nw : Nat) (wf wt : Nat → Int32) (nb : Nat) (bw bl bi bb : Nat → Int32) (no : Nat) (od ow ol ork ob olf oco : Nat → Int32) (pn pb pm : Int32) (pcd pw pli : Nat → Int32) (f : Int32) (g : Int32)  : zX l D y yX5_setCradle cX5_setCradle 4 (some .int) 7 1 6 95 [Value.ref (a 0), Value.int f, Value.int g] (wB a y cap clr (nI t) hom mov wm tb tf ts (nI nw) wf wt (nI nb) bw bl bi bb (nI no) od ow ol ork ob olf oco pn pb pm pcd pw pli) (fun o9 w9 => (scC f g = 0) ∧ o9 = some (Value.int cap) ∧ w9 = wB a y f g (nI t) hom mov wm tb tf ts (nI nw) wf wt (nI nb) bw bl bi bb (nI no) od ow ol ork ob olf oco pn pb pm pcd pw pli) (fun E => (E = "java/lang/IllegalArgumentException" ∧ (scC f g = 1))) := by
  refine zX.of (by decide +kernel) (Nat.le_of_ble_eq_true rfl) ?_
  intro p e s m args below meth c A ls hx hb hr hta hown hlocks hml hex hN hK hP hD hS hA hl
  refine z_gen (fun G hG => ?_)
  have hl : lv_has ls 4 [(0, Value.ref (a 0)), (1, Value.int f), (2, Value.int g)] := hl
  refine lv_iload_n hx hb dX5_setCradle_0 rfl (lv_at hl 1 rfl) ?_
  refine lv_iconst (v := (1 : Int32)) hx hb dX5_setCradle_1 (by decide) ?_
  refine lv_sipush (v := (200 : Int32)) hx hb dX5_setCradle_2 (by decide) ?_
  refine z_callS (As := [Value.int f, Value.int (1 : Int32), Value.int (200 : Int32)]) (rest := []) hx hb hml hown hta zm_X5_outside wd_5_12 (c_X5_outside l D y a cap clr t hom mov wm tb tf ts nw wf wt nb bw bl bi bb no od ow ol ork ob olf oco pn pb pm pcd pw pli f (1 : Int32) (200 : Int32)) hN hK hP hD hS hA rfl hl rfl (Nat.le_of_ble_eq_true rfl) ⟨Nat.le_of_ble_eq_true rfl, Nat.le_of_ble_eq_true rfl⟩ ⟨Nat.le_of_ble_eq_true rfl, Nat.le_of_ble_eq_true rfl⟩ dX5_setCradle_5 (fun v w' H locs hq hP hD hS => ?_)
  obtain ⟨rfl, rfl⟩ := hq
  refine lv_if_ne (tgt := 21) hx hb dX5_setCradle_8 (by decide) (fun c8 => ?_) (fun c8 => ?_)
  · have c8 := bI_1 c8
    refine zt_IllegalArgumentException_96 (ik := 79) (ic := 83) hlt hG hx hb hown hta hN hP hS hl hml hex hlocks rfl rfl (Nat.le_of_ble_eq_true rfl) (Nat.le_of_ble_eq_true rfl) (Nat.le_of_ble_eq_true rfl) (Nat.le_of_ble_eq_true rfl) (Nat.le_of_ble_eq_true rfl) (Nat.le_of_ble_eq_true rfl) dX5_setCradle_21 dX5_setCradle_24 dX5_setCradle_25 dX5_setCradle_27 dX5_setCradle_30 ?_
    exact ⟨rfl, by simp [scC, c8]⟩
  · have c8 := bI_0 c8
    refine lv_iload_n hx hb dX5_setCradle_11 rfl (lv_at hl 2 rfl) ?_
    refine lv_iconst (v := (0 : Int32)) hx hb dX5_setCradle_12 (by decide) ?_
    refine lv_bipush (v := (50 : Int32)) hx hb dX5_setCradle_13 (by decide) ?_
    refine z_callS (As := [Value.int g, Value.int (0 : Int32), Value.int (50 : Int32)]) (rest := []) hx hb hml hown hta zm_X5_outside wd_5_12 (c_X5_outside l D y a cap clr t hom mov wm tb tf ts nw wf wt nb bw bl bi bb no od ow ol ork ob olf oco pn pb pm pcd pw pli g (0 : Int32) (50 : Int32)) hN hK hP hD hS hA rfl hl rfl (Nat.le_of_ble_eq_true rfl) ⟨Nat.le_of_ble_eq_true rfl, Nat.le_of_ble_eq_true rfl⟩ ⟨Nat.le_of_ble_eq_true rfl, Nat.le_of_ble_eq_true rfl⟩ dX5_setCradle_15 (fun v w' H locs hq hP hD hS => ?_)
    obtain ⟨rfl, rfl⟩ := hq
    refine lv_if_eq (tgt := 31) hx hb dX5_setCradle_18 (by decide) (fun c18 => ?_) (fun c18 => ?_)
    · have c18 := bI_0 c18
      refine lv_aload_n hx hb dX5_setCradle_31 rfl (lv_at hl 0 rfl) ?_
      refine gB5_capacity hx hb hta hown hK hP wd_2_5 dX5_setCradle_32 ?_
      refine lv_istore_n (lv' := [(3, Value.int cap), (0, Value.ref (a 0)), (1, Value.int f), (2, Value.int g)]) hx hb dX5_setCradle_35 rfl hl (by decide) rfl (fun ls hl => ?_)
      refine lv_aload_n hx hb dX5_setCradle_36 rfl (lv_at hl 1 rfl) ?_
      refine lv_iload_n hx hb dX5_setCradle_37 rfl (lv_at hl 2 rfl) ?_
      refine pB5_capacity hx hb hta hown hK hP hD hS wd_2_5 dX5_setCradle_38 (fun H locs hP hD hS => ?_)
      refine lv_aload_n hx hb dX5_setCradle_41 rfl (lv_at hl 1 rfl) ?_
      refine lv_iload_n hx hb dX5_setCradle_42 rfl (lv_at hl 3 rfl) ?_
      refine pB5_clearance hx hb hta hown hK hP hD hS wd_2_6 dX5_setCradle_43 (fun H locs hP hD hS => ?_)
      refine lv_iload_n hx hb dX5_setCradle_46 rfl (lv_at hl 0 rfl) ?_
      refine z_iretX hG hx hb hr hlocks hP hD hS (Nat.le_of_ble_eq_true rfl) (Nat.le_of_ble_eq_true rfl) dX5_setCradle_47 ?_
      refine ⟨?_, congrArg (fun z => some (Value.int z)) ?_, ?_⟩
      · simp [scC, c8, c18]
      · rfl
      · rfl
    · have c18 := bI_1 c18
      refine zt_IllegalArgumentException_96 (ik := 79) (ic := 83) hlt hG hx hb hown hta hN hP hS hl hml hex hlocks rfl rfl (Nat.le_of_ble_eq_true rfl) (Nat.le_of_ble_eq_true rfl) (Nat.le_of_ble_eq_true rfl) (Nat.le_of_ble_eq_true rfl) (Nat.le_of_ble_eq_true rfl) (Nat.le_of_ble_eq_true rfl) dX5_setCradle_21 dX5_setCradle_24 dX5_setCradle_25 dX5_setCradle_27 dX5_setCradle_30 ?_
      exact ⟨rfl, by simp [scC, c8, c18]⟩
set_option maxHeartbeats 800000 in
set_option maxRecDepth 100000 in
theorem c_X5_forgetWeather (l : Launch) (D : va_G) (y : Nat → ClassId) (a : Nat → Nat) (cap clr : Int32) (t : Nat) (hom mov : Int32) (wm : Int64) (tb tf ts : Int32) (nw : Nat) (wf wt : Nat → Int32) (nb : Nat) (bw bl bi bb : Nat → Int32) (no : Nat) (od ow ol ork ob olf oco : Nat → Int32) (pn pb pm : Int32) (pcd pw pli : Nat → Int32)  (hw : nw ≤ 6) : zP l D y yX5_forgetWeather cX5_forgetWeather 1 (some .int) 1 0 0 23 [Value.ref (a 0)] (wB a y cap clr (nI t) hom mov wm tb tf ts (nI nw) wf wt (nI nb) bw bl bi bb (nI no) od ow ol ork ob olf oco pn pb pm pcd pw pli) (fun o9 w9 => o9 = some (Value.int (nI ((kp wf wt (nI t) nw).2.2))) ∧ w9 = wB a y cap clr (nI t) hom mov wm tb tf ts (nI ((kp wf wt (nI t) nw).2.2)) ((kp wf wt (nI t) nw).1) ((kp wf wt (nI t) nw).2.1) (nI nb) bw bl bi bb (nI no) od ow ol ork ob olf oco pn pb pm pcd pw pli) := by
  refine zP.of (by decide +kernel) (Nat.le_of_ble_eq_true rfl) ?_
  intro p e s m args below meth c A ls hx hb hr hta hown hlocks hml hin hN hK hP hD hS hA hl
  refine z_gen (fun G hG => ?_)
  have hl : lv_has ls 1 [(0, Value.ref (a 0))] := hl
  refine lv_aload_n hx hb dX5_forgetWeather_0 rfl (lv_at hl 0 rfl) ?_
  refine gB5_weather hx hb hta hown hK hP wd_1_16 dX5_forgetWeather_1 ?_
  refine lv_aload_n hx hb dX5_forgetWeather_4 rfl (lv_at hl 0 rfl) ?_
  refine gB5_now hx hb hta hown hK hP wd_2_7 dX5_forgetWeather_5 ?_
  refine z_callV (As := [Value.int (nI t)]) (rest := []) hx hb hml hown hta zm_X4_keepFrom wd_23_23 (c_X4_keepFrom l D y a cap clr t hom mov wm tb tf ts nw wf wt nb bw bl bi bb no od ow ol ork ob olf oco pn pb pm pcd pw pli (nI t) (by omega)) hN hK hP hD hS hA 2 rfl rfl rfl hl rfl (Nat.le_of_ble_eq_true rfl) ⟨Nat.le_of_ble_eq_true rfl, Nat.le_of_ble_eq_true rfl⟩ ⟨Nat.le_of_ble_eq_true rfl, Nat.le_of_ble_eq_true rfl⟩ dX5_forgetWeather_8 (fun v w' H locs hq hP hD hS => ?_)
  obtain ⟨hq1, rfl, rfl⟩ := hq
  refine z_iret hG hx hb hr hlocks hP hD hS (Nat.le_of_ble_eq_true rfl) (Nat.le_of_ble_eq_true rfl) dX5_forgetWeather_11 ?_
  refine zqi ?_
  rfl
set_option maxHeartbeats 800000 in
set_option maxRecDepth 100000 in
theorem c_X5_level (l : Launch) (hlt : l.stackTraces = false) (D : va_G) (y : Nat → ClassId) (a : Nat → Nat) (cap clr : Int32) (t : Nat) (hom mov : Int32) (wm : Int64) (tb tf ts : Int32) (nw : Nat) (wf wt : Nat → Int32) (nb : Nat) (bw bl bi bb : Nat → Int32) (no : Nat) (od ow ol ork ob olf oco : Nat → Int32) (pn pb pm : Int32) (pcd pw pli : Nat → Int32) (h : Int32)  : zX l D y yX5_level cX5_level 2 (some .int) 8 1 6 116 [Value.ref (a 0), Value.int h] (wB a y cap clr (nI t) hom mov wm tb tf ts (nI nw) wf wt (nI nb) bw bl bi bb (nI no) od ow ol ork ob olf oco pn pb pm pcd pw pli) (fun o9 w9 => (hoC h = 0) ∧ o9 = some (Value.int (lev tb tf ts h)) ∧ w9 = wB a y cap clr (nI t) hom mov wm tb tf ts (nI nw) wf wt (nI nb) bw bl bi bb (nI no) od ow ol ork ob olf oco pn pb pm pcd pw pli) (fun E => (E = "java/lang/IllegalArgumentException" ∧ (hoC h = 1))) := by
  refine zX.of (by decide +kernel) (Nat.le_of_ble_eq_true rfl) ?_
  intro p e s m args below meth c A ls hx hb hr hta hown hlocks hml hex hN hK hP hD hS hA hl
  refine z_gen (fun G hG => ?_)
  have hl : lv_has ls 2 [(0, Value.ref (a 0)), (1, Value.int h)] := hl
  refine lv_aload_n hx hb dX5_level_0 rfl (lv_at hl 0 rfl) ?_
  refine lv_iload_n hx hb dX5_level_1 rfl (lv_at hl 1 rfl) ?_
  refine z_xcallV (As := [Value.int h]) (rest := []) hx hb hml hown hta zm_X5_checkHour wd_7_9 (c_X5_checkHour l hlt D y a cap clr t hom mov wm tb tf ts nw wf wt nb bw bl bi bb no od ow ol ork ob olf oco pn pb pm pcd pw pli h) hN hK hP hD hS hA 0 rfl rfl rfl hl rfl (Nat.le_of_ble_eq_true rfl) ⟨Nat.le_of_ble_eq_true rfl, Nat.le_of_ble_eq_true rfl⟩ ⟨Nat.le_of_ble_eq_true rfl, Nat.le_of_ble_eq_true rfl⟩ dX5_level_2 (fun E ce q9 H locs hE hP hS hc9 hv9 hcl9 => ?_) (fun v w' H locs hq hP hD hS => ?_)
  · refine z_out hG hex hlocks ?_ hP hS hc9 hv9 hcl9 (Nat.le_of_ble_eq_true rfl) (Nat.le_of_ble_eq_true rfl)
    obtain ⟨rfl, hE⟩ := hE
    exact ⟨rfl, by simp [hoC, hE]⟩
  obtain ⟨hq1, rfl, rfl⟩ := hq
  refine lv_aload_n hx hb dX5_level_5 rfl (lv_at hl 0 rfl) ?_
  refine gB5_tide hx hb hta hown hK hP wd_1_12 dX5_level_6 ?_
  refine lv_iload_n hx hb dX5_level_9 rfl (lv_at hl 1 rfl) ?_
  refine z_callV (As := [Value.int h]) (rest := []) hx hb hml hown hta zm_X3_levelAt wd_6_18 (c_X3_levelAt l D y a cap clr t hom mov wm tb tf ts nw wf wt nb bw bl bi bb no od ow ol ork ob olf oco pn pb pm pcd pw pli h) hN hK hP hD hS hA 1 rfl rfl rfl hl rfl (Nat.le_of_ble_eq_true rfl) ⟨Nat.le_of_ble_eq_true rfl, Nat.le_of_ble_eq_true rfl⟩ ⟨Nat.le_of_ble_eq_true rfl, Nat.le_of_ble_eq_true rfl⟩ dX5_level_10 (fun v w' H locs hq hP hD hS => ?_)
  obtain ⟨rfl, rfl⟩ := hq
  refine z_iretX hG hx hb hr hlocks hP hD hS (Nat.le_of_ble_eq_true rfl) (Nat.le_of_ble_eq_true rfl) dX5_level_13 ?_
  refine ⟨?_, congrArg (fun z => some (Value.int z)) ?_, ?_⟩
  · simp [hoC, hq1]
  · rfl
  · rfl
