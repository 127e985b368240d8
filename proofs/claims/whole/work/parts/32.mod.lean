set_option maxHeartbeats 800000 in
set_option maxRecDepth 100000 in
theorem c_X6_goes (l : Launch) (D : va_G) (y : Nat → ClassId) (a : Nat → Nat) (mth : Int32) (t : Nat) (tb tf ts cap clr mov hom : Int32) (wm : Int64) (nw : Nat) (wf wt : Nat → Int32) (nb : Nat) (fr bw bl : Nat → Int32) (no : Nat) (od ow ol ork olf oco at_ aw : Nat → Int32) (mp : Int32) (mpl msh msl mwa mse : Nat → Int32) (j : Nat) (g : Int32) (r : Int32) (hj8 : j < 8) : zP l D y yX6_goes cX6_goes 4 (some .int) 1 0 0 21 [Value.ref (a 0), Value.int (nI j), Value.int g, Value.int r] (wM a y mth (nI t) tb tf ts cap clr mov hom wm (nI nw) wf wt (nI nb) fr bw bl (nI no) od ow ol ork olf oco at_ aw mp mpl msh msl mwa mse) (fun o9 w9 => (goC r = 0 ∧ o9 = some (Value.int (mov + (1 : Int32))) ∧ w9 = wM a y (0 : Int32) (nI t) tb tf ts cap clr (mov + (1 : Int32)) (nI t) (wm + Int32.toInt64 (ow j)) (nI nw) wf wt (nI nb) fr bw bl (nI no) od ow ol ork olf oco (upd at_ j g) (upd aw j (if g = -1 then 1 else 0)) mp mpl msh msl mwa mse) ∨ (goC r ≠ 0 ∧ ∃ r9, o9 = some (Value.int r9) ∧ w9 = wM a y (nI (goC r)) (nI t) tb tf ts cap clr mov hom wm (nI nw) wf wt (nI nb) fr bw bl (nI no) od ow ol ork olf oco at_ aw mp mpl msh msl mwa mse)) := by
  refine zP.of (by decide +kernel) (Nat.le_of_ble_eq_true rfl) ?_
  intro p e s m args below meth c A ls hx hb hr hta hown hlocks hml hin hN hK hP hD hS hA hl
  refine z_gen (fun G hG => ?_)
  have hl : lv_has ls 4 [(0, Value.ref (a 0)), (1, Value.int (nI j)), (2, Value.int g), (3, Value.int r)] := hl
  refine lv_iload_n hx hb dX6_goes_0 rfl (lv_at hl 3 rfl) ?_
  refine lv_bipush (v := (110 : Int32)) hx hb dX6_goes_1 (by decide) ?_
  refine lv_icmp_eq (tgt := 12) hx hb dX6_goes_3 (by decide) (fun c3 => ?_) (fun c3 => ?_)
  · refine lv_aload_n hx hb dX6_goes_12 rfl (lv_at hl 0 rfl) ?_
    refine gM6_at hx hb hta hown hK hP wd_5_6 dX6_goes_13 ?_
    refine lv_iload_n hx hb dX6_goes_16 rfl (lv_at hl 1 rfl) ?_
    refine lv_iload_n hx hb dX6_goes_17 rfl (lv_at hl 2 rfl) ?_
    refine sM_at_ hx hb hK hP hD hS j rfl (by omega) dX6_goes_18 (fun H locs hP hD hS => ?_)
    refine lv_aload_n hx hb dX6_goes_19 rfl (lv_at hl 0 rfl) ?_
    refine gM6_isAway hx hb hta hown hK hP wd_5_8 dX6_goes_20 ?_
    refine lv_iload_n hx hb dX6_goes_23 rfl (lv_at hl 1 rfl) ?_
    refine lv_iload_n hx hb dX6_goes_24 rfl (lv_at hl 2 rfl) ?_
    refine lv_iconst (v := (-1 : Int32)) hx hb dX6_goes_25 (by decide) ?_
    refine lv_icmp_ne (tgt := 33) hx hb dX6_goes_26 (by decide) (fun c26 => ?_) (fun c26 => ?_)
    · refine lv_iconst (v := (0 : Int32)) hx hb dX6_goes_33 (by decide) ?_
      refine zr_top (y := if g = -1 then 1 else 0) (by first | rw [if_pos c26] | rw [if_neg c26]) ?_
      refine sM_aw hx hb hK hP hD hS j rfl (by omega) (by split <;> rfl) dX6_goes_34 (fun H locs hP hD hS => ?_)
      refine lv_aload_n hx hb dX6_goes_35 rfl (lv_at hl 0 rfl) ?_
      refine lv_aload_n hx hb dX6_goes_36 rfl (lv_at hl 0 rfl) ?_
      refine gM6_time hx hb hta hown hK hP wd_9_12 dX6_goes_37 ?_
      refine pM6_busyHour hx hb hta hown hK hP hD hS wd_4_18 dX6_goes_40 (fun H locs hP hD hS => ?_)
      refine lv_aload_n hx hb dX6_goes_43 rfl (lv_at hl 0 rfl) ?_
      refine lv_dup hx hb dX6_goes_44 rfl ?_
      refine gM6_moved hx hb hta hown hK hP wd_18_16 dX6_goes_45 ?_
      refine lv_aload_n hx hb dX6_goes_48 rfl (lv_at hl 0 rfl) ?_
      refine gM6_weight hx hb hta hown hK hP wd_5_1 dX6_goes_49 ?_
      refine lv_iload_n hx hb dX6_goes_52 rfl (lv_at hl 1 rfl) ?_
      refine aM_ow hx hb hK hP j rfl (by omega) dX6_goes_53 ?_
      refine lv_i2l (v := Int32.toInt64 (ow j)) hx hb dX6_goes_54 rfl ?_
      refine lv_ladd hx hb dX6_goes_55 ?_
      refine pM6_moved hx hb hta hown hK hP hD hS wd_18_16 dX6_goes_56 (fun H locs hP hD hS => ?_)
      refine lv_aload_n hx hb dX6_goes_59 rfl (lv_at hl 0 rfl) ?_
      refine lv_dup hx hb dX6_goes_60 rfl ?_
      refine gM6_moves hx hb hta hown hK hP wd_18_17 dX6_goes_61 ?_
      refine lv_iconst (v := (1 : Int32)) hx hb dX6_goes_64 (by decide) ?_
      refine lv_iadd hx hb dX6_goes_65 ?_
      refine pM6_moves hx hb hta hown hK hP hD hS wd_18_17 dX6_goes_66 (fun H locs hP hD hS => ?_)
      refine lv_aload_n hx hb dX6_goes_69 rfl (lv_at hl 0 rfl) ?_
      refine lv_aload_n hx hb dX6_goes_70 rfl (lv_at hl 0 rfl) ?_
      refine gM6_moves hx hb hta hown hK hP wd_18_17 dX6_goes_71 ?_
      refine z_callV (As := [Value.int (mov + (1 : Int32))]) (rest := []) hx hb hml hown hta zm_X6_tells wd_7_13 (c_X6_tells l D y a mth t tb tf ts cap clr (mov + (1 : Int32)) (nI t) (wm + (Int32.toInt64 (ow j))) nw wf wt nb fr bw bl no od ow ol ork olf oco (upd at_ j g) (upd aw j (if g = -1 then 1 else 0)) mp mpl msh msl mwa mse (mov + (1 : Int32))) hN hK hP hD hS hA 0 rfl rfl rfl hl rfl (Nat.le_of_ble_eq_true rfl) ⟨Nat.le_of_ble_eq_true rfl, Nat.le_of_ble_eq_true rfl⟩ ⟨Nat.le_of_ble_eq_true rfl, Nat.le_of_ble_eq_true rfl⟩ dX6_goes_74 (fun v w' H locs hq hP hD hS => ?_)
      obtain ⟨rfl, rfl⟩ := hq
      refine z_iret hG hx hb hr hlocks hP hD hS (Nat.le_of_ble_eq_true rfl) (Nat.le_of_ble_eq_true rfl) dX6_goes_77 ?_
      refine Or.inl ⟨?_, congrArg (fun z => some (Value.int z)) ?_, ?_⟩
      · simp [goC, c3, c26]
      · rfl
      · rfl
    · refine lv_iconst (v := (1 : Int32)) hx hb dX6_goes_29 (by decide) ?_
      refine lv_goto (tgt := 34) hx hb dX6_goes_30 (by decide) ?_
      refine zr_top (y := if g = -1 then 1 else 0) (by first | rw [if_pos c26] | rw [if_neg c26]) ?_
      refine sM_aw hx hb hK hP hD hS j rfl (by omega) (by split <;> rfl) dX6_goes_34 (fun H locs hP hD hS => ?_)
      refine lv_aload_n hx hb dX6_goes_35 rfl (lv_at hl 0 rfl) ?_
      refine lv_aload_n hx hb dX6_goes_36 rfl (lv_at hl 0 rfl) ?_
      refine gM6_time hx hb hta hown hK hP wd_9_12 dX6_goes_37 ?_
      refine pM6_busyHour hx hb hta hown hK hP hD hS wd_4_18 dX6_goes_40 (fun H locs hP hD hS => ?_)
      refine lv_aload_n hx hb dX6_goes_43 rfl (lv_at hl 0 rfl) ?_
      refine lv_dup hx hb dX6_goes_44 rfl ?_
      refine gM6_moved hx hb hta hown hK hP wd_18_16 dX6_goes_45 ?_
      refine lv_aload_n hx hb dX6_goes_48 rfl (lv_at hl 0 rfl) ?_
      refine gM6_weight hx hb hta hown hK hP wd_5_1 dX6_goes_49 ?_
      refine lv_iload_n hx hb dX6_goes_52 rfl (lv_at hl 1 rfl) ?_
      refine aM_ow hx hb hK hP j rfl (by omega) dX6_goes_53 ?_
      refine lv_i2l (v := Int32.toInt64 (ow j)) hx hb dX6_goes_54 rfl ?_
      refine lv_ladd hx hb dX6_goes_55 ?_
      refine pM6_moved hx hb hta hown hK hP hD hS wd_18_16 dX6_goes_56 (fun H locs hP hD hS => ?_)
      refine lv_aload_n hx hb dX6_goes_59 rfl (lv_at hl 0 rfl) ?_
      refine lv_dup hx hb dX6_goes_60 rfl ?_
      refine gM6_moves hx hb hta hown hK hP wd_18_17 dX6_goes_61 ?_
      refine lv_iconst (v := (1 : Int32)) hx hb dX6_goes_64 (by decide) ?_
      refine lv_iadd hx hb dX6_goes_65 ?_
      refine pM6_moves hx hb hta hown hK hP hD hS wd_18_17 dX6_goes_66 (fun H locs hP hD hS => ?_)
      refine lv_aload_n hx hb dX6_goes_69 rfl (lv_at hl 0 rfl) ?_
      refine lv_aload_n hx hb dX6_goes_70 rfl (lv_at hl 0 rfl) ?_
      refine gM6_moves hx hb hta hown hK hP wd_18_17 dX6_goes_71 ?_
      refine z_callV (As := [Value.int (mov + (1 : Int32))]) (rest := []) hx hb hml hown hta zm_X6_tells wd_7_13 (c_X6_tells l D y a mth t tb tf ts cap clr (mov + (1 : Int32)) (nI t) (wm + (Int32.toInt64 (ow j))) nw wf wt nb fr bw bl no od ow ol ork olf oco (upd at_ j g) (upd aw j (if g = -1 then 1 else 0)) mp mpl msh msl mwa mse (mov + (1 : Int32))) hN hK hP hD hS hA 0 rfl rfl rfl hl rfl (Nat.le_of_ble_eq_true rfl) ⟨Nat.le_of_ble_eq_true rfl, Nat.le_of_ble_eq_true rfl⟩ ⟨Nat.le_of_ble_eq_true rfl, Nat.le_of_ble_eq_true rfl⟩ dX6_goes_74 (fun v w' H locs hq hP hD hS => ?_)
      obtain ⟨rfl, rfl⟩ := hq
      refine z_iret hG hx hb hr hlocks hP hD hS (Nat.le_of_ble_eq_true rfl) (Nat.le_of_ble_eq_true rfl) dX6_goes_77 ?_
      refine Or.inl ⟨?_, congrArg (fun z => some (Value.int z)) ?_, ?_⟩
      · simp [goC, c3, c26]
      · rfl
      · rfl
  · refine lv_aload_n hx hb dX6_goes_6 rfl (lv_at hl 0 rfl) ?_
    refine lv_iconst (v := (2 : Int32)) hx hb dX6_goes_7 (by decide) ?_
    refine z_callV (As := [Value.int (2 : Int32)]) (rest := []) hx hb hml hown hta zm_X6_fails wd_7_8 (c_X6_fails l D y a mth t tb tf ts cap clr mov hom wm nw wf wt nb fr bw bl no od ow ol ork olf oco at_ aw mp mpl msh msl mwa mse (2 : Int32)) hN hK hP hD hS hA 0 rfl rfl rfl hl rfl (Nat.le_of_ble_eq_true rfl) ⟨Nat.le_of_ble_eq_true rfl, Nat.le_of_ble_eq_true rfl⟩ ⟨Nat.le_of_ble_eq_true rfl, Nat.le_of_ble_eq_true rfl⟩ dX6_goes_8 (fun v w' H locs hq hP hD hS => ?_)
    obtain ⟨rfl, rfl⟩ := hq
    refine z_iret hG hx hb hr hlocks hP hD hS (Nat.le_of_ble_eq_true rfl) (Nat.le_of_ble_eq_true rfl) dX6_goes_11 ?_
    have hcd : goC r = 2 := by
      simp [goC, c3]
    exact Or.inr ⟨by rw [hcd]; decide, _, rfl, by rw [hcd]; rfl⟩
set_option maxHeartbeats 800000 in
set_option maxRecDepth 100000 in
theorem c_X6_lift (l : Launch) (D : va_G) (y : Nat → ClassId) (a : Nat → Nat) (mth : Int32) (t : Nat) (tb tf ts cap clr mov hom : Int32) (wm : Int64) (nw : Nat) (wf wt : Nat → Int32) (nb : Nat) (fr bw bl : Nat → Int32) (no : Nat) (od ow ol ork olf oco at_ aw : Nat → Int32) (mp : Int32) (mpl msh msl mwa mse : Nat → Int32) (b : Int32) (g : Int32) (hb8 : no ≤ 8) (hb6 : nb ≤ 6) (hw : nw ≤ 6) (hfr : ∀ k, k < nb → fr k = -1 ∨ ∃ j, j < k ∧ fr k = nI j) : zP l D y yX6_lift cX6_lift 3 (some .int) 4 0 0 85 [Value.ref (a 0), Value.int b, Value.int g] (wM a y mth (nI t) tb tf ts cap clr mov hom wm (nI nw) wf wt (nI nb) fr bw bl (nI no) od ow ol ork olf oco at_ aw mp mpl msh msl mwa mse) (fun o9 w9 => (mvC no nb b g (liM cap clr tb tf ts hom (nI t) (badF wf wt nw (nI t)) aw at_ fr od ow ol bw bl no (nN b) (nN g)) = 0 ∧ o9 = some (Value.int (mov + (1 : Int32))) ∧ w9 = wM a y (0 : Int32) (nI t) tb tf ts cap clr (mov + (1 : Int32)) (nI t) (wm + Int32.toInt64 (ow (nN b))) (nI nw) wf wt (nI nb) fr bw bl (nI no) od ow ol ork olf oco (upd at_ (nN b) g) (upd aw (nN b) (if g = -1 then 1 else 0)) mp mpl msh msl mwa mse) ∨ (mvC no nb b g (liM cap clr tb tf ts hom (nI t) (badF wf wt nw (nI t)) aw at_ fr od ow ol bw bl no (nN b) (nN g)) ≠ 0 ∧ ∃ r9, o9 = some (Value.int r9) ∧ w9 = wM a y (nI (mvC no nb b g (liM cap clr tb tf ts hom (nI t) (badF wf wt nw (nI t)) aw at_ fr od ow ol bw bl no (nN b) (nN g)))) (nI t) tb tf ts cap clr mov hom wm (nI nw) wf wt (nI nb) fr bw bl (nI no) od ow ol ork olf oco at_ aw mp mpl msh msl mwa mse)) := by
  refine zP.of (by decide +kernel) (Nat.le_of_ble_eq_true rfl) ?_
  intro p e s m args below meth c A ls hx hb hr hta hown hlocks hml hin hN hK hP hD hS hA hl
  refine z_gen (fun G hG => ?_)
  have hl : lv_has ls 3 [(0, Value.ref (a 0)), (1, Value.int b), (2, Value.int g)] := hl
  refine lv_aload_n hx hb dX6_lift_0 rfl (lv_at hl 0 rfl) ?_
  refine lv_iload_n hx hb dX6_lift_1 rfl (lv_at hl 1 rfl) ?_
  refine z_callV (As := [Value.int b]) (rest := []) hx hb hml hown hta zm_X6_isBoat wd_14_10 (c_X6_isBoat l D y a mth t tb tf ts cap clr mov hom wm nw wf wt nb fr bw bl no od ow ol ork olf oco at_ aw mp mpl msh msl mwa mse b (by omega)) hN hK hP hD hS hA 0 rfl rfl rfl hl rfl (Nat.le_of_ble_eq_true rfl) ⟨Nat.le_of_ble_eq_true rfl, Nat.le_of_ble_eq_true rfl⟩ ⟨Nat.le_of_ble_eq_true rfl, Nat.le_of_ble_eq_true rfl⟩ dX6_lift_2 (fun v w' H locs hq hP hD hS => ?_)
  obtain ⟨rfl, rfl⟩ := hq
  refine lv_if_eq (tgt := 31) hx hb dX6_lift_5 (by decide) (fun c5 => ?_) (fun c5 => ?_)
  · have c5 := bI_0 c5
    refine lv_aload_n hx hb dX6_lift_31 rfl (lv_at hl 0 rfl) ?_
    refine lv_iconst (v := (1 : Int32)) hx hb dX6_lift_32 (by decide) ?_
    refine z_callV (As := [Value.int (1 : Int32)]) (rest := []) hx hb hml hown hta zm_X6_fails wd_7_8 (c_X6_fails l D y a mth t tb tf ts cap clr mov hom wm nw wf wt nb fr bw bl no od ow ol ork olf oco at_ aw mp mpl msh msl mwa mse (1 : Int32)) hN hK hP hD hS hA 0 rfl rfl rfl hl rfl (Nat.le_of_ble_eq_true rfl) ⟨Nat.le_of_ble_eq_true rfl, Nat.le_of_ble_eq_true rfl⟩ ⟨Nat.le_of_ble_eq_true rfl, Nat.le_of_ble_eq_true rfl⟩ dX6_lift_33 (fun v w' H locs hq hP hD hS => ?_)
    obtain ⟨rfl, rfl⟩ := hq
    refine z_iret hG hx hb hr hlocks hP hD hS (Nat.le_of_ble_eq_true rfl) (Nat.le_of_ble_eq_true rfl) dX6_lift_36 ?_
    have hcd : mvC no nb b g (liM cap clr tb tf ts hom (nI t) (badF wf wt nw (nI t)) aw at_ fr od ow ol bw bl no (nN b) (nN g)) = 1 := by
      simp [mvC, mvC, c5]
    exact Or.inr ⟨by rw [hcd]; decide, _, rfl, by rw [hcd]; rfl⟩
  · have c5 := bI_1 c5
    refine lv_aload_n hx hb dX6_lift_8 rfl (lv_at hl 0 rfl) ?_
    refine lv_iload_n hx hb dX6_lift_9 rfl (lv_at hl 2 rfl) ?_
    refine z_callV (As := [Value.int g]) (rest := []) hx hb hml hown hta zm_X6_isBerth wd_7_1 (c_X6_isBerth l D y a mth t tb tf ts cap clr mov hom wm nw wf wt nb fr bw bl no od ow ol ork olf oco at_ aw mp mpl msh msl mwa mse g (by omega)) hN hK hP hD hS hA 0 rfl rfl rfl hl rfl (Nat.le_of_ble_eq_true rfl) ⟨Nat.le_of_ble_eq_true rfl, Nat.le_of_ble_eq_true rfl⟩ ⟨Nat.le_of_ble_eq_true rfl, Nat.le_of_ble_eq_true rfl⟩ dX6_lift_10 (fun v w' H locs hq hP hD hS => ?_)
    obtain ⟨rfl, rfl⟩ := hq
    refine lv_if_eq (tgt := 31) hx hb dX6_lift_13 (by decide) (fun c13 => ?_) (fun c13 => ?_)
    · have c13 := bI_0 c13
      refine lv_aload_n hx hb dX6_lift_31 rfl (lv_at hl 0 rfl) ?_
      refine lv_iconst (v := (1 : Int32)) hx hb dX6_lift_32 (by decide) ?_
      refine z_callV (As := [Value.int (1 : Int32)]) (rest := []) hx hb hml hown hta zm_X6_fails wd_7_8 (c_X6_fails l D y a mth t tb tf ts cap clr mov hom wm nw wf wt nb fr bw bl no od ow ol ork olf oco at_ aw mp mpl msh msl mwa mse (1 : Int32)) hN hK hP hD hS hA 0 rfl rfl rfl hl rfl (Nat.le_of_ble_eq_true rfl) ⟨Nat.le_of_ble_eq_true rfl, Nat.le_of_ble_eq_true rfl⟩ ⟨Nat.le_of_ble_eq_true rfl, Nat.le_of_ble_eq_true rfl⟩ dX6_lift_33 (fun v w' H locs hq hP hD hS => ?_)
      obtain ⟨rfl, rfl⟩ := hq
      refine z_iret hG hx hb hr hlocks hP hD hS (Nat.le_of_ble_eq_true rfl) (Nat.le_of_ble_eq_true rfl) dX6_lift_36 ?_
      have hcd : mvC no nb b g (liM cap clr tb tf ts hom (nI t) (badF wf wt nw (nI t)) aw at_ fr od ow ol bw bl no (nN b) (nN g)) = 1 := by
        simp [mvC, mvC, c5, c13]
      exact Or.inr ⟨by rw [hcd]; decide, _, rfl, by rw [hcd]; rfl⟩
    · have c13 := bI_1 c13
      obtain ⟨j, hj, rfl⟩ := (inB_iff (by omega)).mp c5
      have ej : nN (nI j) = j := nI_clamp (by omega)
      obtain ⟨k, hk, rfl⟩ := (inB_iff (by omega)).mp c13
      have ek : nN (nI k) = k := nI_clamp (by omega)
      refine lv_aload_n hx hb dX6_lift_16 rfl (lv_at hl 0 rfl) ?_
      refine lv_iload_n hx hb dX6_lift_17 rfl (lv_at hl 1 rfl) ?_
      refine lv_iload_n hx hb dX6_lift_18 rfl (lv_at hl 2 rfl) ?_
      refine lv_aload_n hx hb dX6_lift_19 rfl (lv_at hl 0 rfl) ?_
      refine lv_iload_n hx hb dX6_lift_20 rfl (lv_at hl 1 rfl) ?_
      refine lv_iload_n hx hb dX6_lift_21 rfl (lv_at hl 2 rfl) ?_
      refine z_callV (As := [Value.int (nI j), Value.int (nI k)]) (rest := [Value.int (nI k), Value.int (nI j), Value.ref (a 0)]) hx hb hml hown hta zm_X6_liftNow wd_17_20 (c_X6_liftNow l D y a mth t tb tf ts cap clr mov hom wm nw wf wt nb fr bw bl no od ow ol ork olf oco at_ aw mp mpl msh msl mwa mse j k (by omega) (by omega) (by omega) (by omega) (by omega) (by omega)) hN hK hP hD hS hA 0 rfl rfl rfl hl rfl (Nat.le_of_ble_eq_true rfl) ⟨Nat.le_of_ble_eq_true rfl, Nat.le_of_ble_eq_true rfl⟩ ⟨Nat.le_of_ble_eq_true rfl, Nat.le_of_ble_eq_true rfl⟩ dX6_lift_22 (fun v w' H locs hq hP hD hS => ?_)
      obtain ⟨rfl, rfl⟩ := hq
      refine z_callV (As := [Value.int (nI j), Value.int (nI k), Value.int (liM cap clr tb tf ts hom (nI t) (badF wf wt nw (nI t)) aw at_ fr od ow ol bw bl no j k)]) (rest := []) hx hb hml hown hta zm_X6_goes wd_18_12 (c_X6_goes l D y a mth t tb tf ts cap clr mov hom wm nw wf wt nb fr bw bl no od ow ol ork olf oco at_ aw mp mpl msh msl mwa mse j (nI k) (liM cap clr tb tf ts hom (nI t) (badF wf wt nw (nI t)) aw at_ fr od ow ol bw bl no j k) (by omega)) hN hK hP hD hS hA 0 rfl rfl rfl hl rfl (Nat.le_of_ble_eq_true rfl) ⟨Nat.le_of_ble_eq_true rfl, Nat.le_of_ble_eq_true rfl⟩ ⟨Nat.le_of_ble_eq_true rfl, Nat.le_of_ble_eq_true rfl⟩ dX6_lift_25 (fun v w' H locs hq hP hD hS => ?_)
      rcases hq with ⟨hq6, rfl, rfl⟩ | ⟨hq6, r6, rfl, rfl⟩
      · refine lv_goto (tgt := 36) hx hb dX6_lift_28 (by decide) ?_
        refine z_iret hG hx hb hr hlocks hP hD hS (Nat.le_of_ble_eq_true rfl) (Nat.le_of_ble_eq_true rfl) dX6_lift_36 ?_
        refine Or.inl ⟨?_, congrArg (fun z => some (Value.int z)) ?_, ?_⟩
        · rw [mvC, if_pos ⟨c5, c13⟩, ej, ek]; exact hq6
        · rfl
        · rw [ej]
      · refine lv_goto (tgt := 36) hx hb dX6_lift_28 (by decide) ?_
        refine z_iret hG hx hb hr hlocks hP hD hS (Nat.le_of_ble_eq_true rfl) (Nat.le_of_ble_eq_true rfl) dX6_lift_36 ?_
        have hcd : mvC no nb (nI j) (nI k) (liM cap clr tb tf ts hom (nI t) (badF wf wt nw (nI t)) aw at_ fr od ow ol bw bl no (nN (nI j)) (nN (nI k))) = goC (liM cap clr tb tf ts hom (nI t) (badF wf wt nw (nI t)) aw at_ fr od ow ol bw bl no j k) := by
          rw [mvC, if_pos ⟨c5, c13⟩, ej, ek]; rfl
        exact Or.inr ⟨by rw [hcd]; exact hq6, _, rfl, by rw [hcd]⟩
set_option maxHeartbeats 800000 in
set_option maxRecDepth 100000 in
theorem c_X6_shift (l : Launch) (D : va_G) (y : Nat → ClassId) (a : Nat → Nat) (mth : Int32) (t : Nat) (tb tf ts cap clr mov hom : Int32) (wm : Int64) (nw : Nat) (wf wt : Nat → Int32) (nb : Nat) (fr bw bl : Nat → Int32) (no : Nat) (od ow ol ork olf oco at_ aw : Nat → Int32) (mp : Int32) (mpl msh msl mwa mse : Nat → Int32) (b : Int32) (g : Int32) (hb8 : no ≤ 8) (hb6 : nb ≤ 6) (hw : nw ≤ 6) (hfr : ∀ k, k < nb → fr k = -1 ∨ ∃ j, j < k ∧ fr k = nI j) (hat : ∀ j, j < no → at_ j = -1 ∨ ∃ k, k < nb ∧ at_ j = nI k) : zP l D y yX6_shift cX6_shift 3 (some .int) 4 0 0 92 [Value.ref (a 0), Value.int b, Value.int g] (wM a y mth (nI t) tb tf ts cap clr mov hom wm (nI nw) wf wt (nI nb) fr bw bl (nI no) od ow ol ork olf oco at_ aw mp mpl msh msl mwa mse) (fun o9 w9 => (mvC no nb b g (snM cap hom (nI t) (badF wf wt nw (nI t)) at_ olf fr ow ol bw bl no (nN b) (nN g)) = 0 ∧ o9 = some (Value.int (mov + (1 : Int32))) ∧ w9 = wM a y (0 : Int32) (nI t) tb tf ts cap clr (mov + (1 : Int32)) (nI t) (wm + Int32.toInt64 (ow (nN b))) (nI nw) wf wt (nI nb) fr bw bl (nI no) od ow ol ork olf oco (upd at_ (nN b) g) (upd aw (nN b) (if g = -1 then 1 else 0)) mp mpl msh msl mwa mse) ∨ (mvC no nb b g (snM cap hom (nI t) (badF wf wt nw (nI t)) at_ olf fr ow ol bw bl no (nN b) (nN g)) ≠ 0 ∧ ∃ r9, o9 = some (Value.int r9) ∧ w9 = wM a y (nI (mvC no nb b g (snM cap hom (nI t) (badF wf wt nw (nI t)) at_ olf fr ow ol bw bl no (nN b) (nN g)))) (nI t) tb tf ts cap clr mov hom wm (nI nw) wf wt (nI nb) fr bw bl (nI no) od ow ol ork olf oco at_ aw mp mpl msh msl mwa mse)) := by
  refine zP.of (by decide +kernel) (Nat.le_of_ble_eq_true rfl) ?_
  intro p e s m args below meth c A ls hx hb hr hta hown hlocks hml hin hN hK hP hD hS hA hl
  refine z_gen (fun G hG => ?_)
  have hl : lv_has ls 3 [(0, Value.ref (a 0)), (1, Value.int b), (2, Value.int g)] := hl
  refine lv_aload_n hx hb dX6_shift_0 rfl (lv_at hl 0 rfl) ?_
  refine lv_iload_n hx hb dX6_shift_1 rfl (lv_at hl 1 rfl) ?_
  refine z_callV (As := [Value.int b]) (rest := []) hx hb hml hown hta zm_X6_isBoat wd_14_10 (c_X6_isBoat l D y a mth t tb tf ts cap clr mov hom wm nw wf wt nb fr bw bl no od ow ol ork olf oco at_ aw mp mpl msh msl mwa mse b (by omega)) hN hK hP hD hS hA 0 rfl rfl rfl hl rfl (Nat.le_of_ble_eq_true rfl) ⟨Nat.le_of_ble_eq_true rfl, Nat.le_of_ble_eq_true rfl⟩ ⟨Nat.le_of_ble_eq_true rfl, Nat.le_of_ble_eq_true rfl⟩ dX6_shift_2 (fun v w' H locs hq hP hD hS => ?_)
  obtain ⟨rfl, rfl⟩ := hq
  refine lv_if_eq (tgt := 31) hx hb dX6_shift_5 (by decide) (fun c5 => ?_) (fun c5 => ?_)
  · have c5 := bI_0 c5
    refine lv_aload_n hx hb dX6_shift_31 rfl (lv_at hl 0 rfl) ?_
    refine lv_iconst (v := (1 : Int32)) hx hb dX6_shift_32 (by decide) ?_
    refine z_callV (As := [Value.int (1 : Int32)]) (rest := []) hx hb hml hown hta zm_X6_fails wd_7_8 (c_X6_fails l D y a mth t tb tf ts cap clr mov hom wm nw wf wt nb fr bw bl no od ow ol ork olf oco at_ aw mp mpl msh msl mwa mse (1 : Int32)) hN hK hP hD hS hA 0 rfl rfl rfl hl rfl (Nat.le_of_ble_eq_true rfl) ⟨Nat.le_of_ble_eq_true rfl, Nat.le_of_ble_eq_true rfl⟩ ⟨Nat.le_of_ble_eq_true rfl, Nat.le_of_ble_eq_true rfl⟩ dX6_shift_33 (fun v w' H locs hq hP hD hS => ?_)
    obtain ⟨rfl, rfl⟩ := hq
    refine z_iret hG hx hb hr hlocks hP hD hS (Nat.le_of_ble_eq_true rfl) (Nat.le_of_ble_eq_true rfl) dX6_shift_36 ?_
    have hcd : mvC no nb b g (snM cap hom (nI t) (badF wf wt nw (nI t)) at_ olf fr ow ol bw bl no (nN b) (nN g)) = 1 := by
      simp [mvC, mvC, c5]
    exact Or.inr ⟨by rw [hcd]; decide, _, rfl, by rw [hcd]; rfl⟩
  · have c5 := bI_1 c5
    refine lv_aload_n hx hb dX6_shift_8 rfl (lv_at hl 0 rfl) ?_
    refine lv_iload_n hx hb dX6_shift_9 rfl (lv_at hl 2 rfl) ?_
    refine z_callV (As := [Value.int g]) (rest := []) hx hb hml hown hta zm_X6_isBerth wd_7_1 (c_X6_isBerth l D y a mth t tb tf ts cap clr mov hom wm nw wf wt nb fr bw bl no od ow ol ork olf oco at_ aw mp mpl msh msl mwa mse g (by omega)) hN hK hP hD hS hA 0 rfl rfl rfl hl rfl (Nat.le_of_ble_eq_true rfl) ⟨Nat.le_of_ble_eq_true rfl, Nat.le_of_ble_eq_true rfl⟩ ⟨Nat.le_of_ble_eq_true rfl, Nat.le_of_ble_eq_true rfl⟩ dX6_shift_10 (fun v w' H locs hq hP hD hS => ?_)
    obtain ⟨rfl, rfl⟩ := hq
    refine lv_if_eq (tgt := 31) hx hb dX6_shift_13 (by decide) (fun c13 => ?_) (fun c13 => ?_)
    · have c13 := bI_0 c13
      refine lv_aload_n hx hb dX6_shift_31 rfl (lv_at hl 0 rfl) ?_
      refine lv_iconst (v := (1 : Int32)) hx hb dX6_shift_32 (by decide) ?_
      refine z_callV (As := [Value.int (1 : Int32)]) (rest := []) hx hb hml hown hta zm_X6_fails wd_7_8 (c_X6_fails l D y a mth t tb tf ts cap clr mov hom wm nw wf wt nb fr bw bl no od ow ol ork olf oco at_ aw mp mpl msh msl mwa mse (1 : Int32)) hN hK hP hD hS hA 0 rfl rfl rfl hl rfl (Nat.le_of_ble_eq_true rfl) ⟨Nat.le_of_ble_eq_true rfl, Nat.le_of_ble_eq_true rfl⟩ ⟨Nat.le_of_ble_eq_true rfl, Nat.le_of_ble_eq_true rfl⟩ dX6_shift_33 (fun v w' H locs hq hP hD hS => ?_)
      obtain ⟨rfl, rfl⟩ := hq
      refine z_iret hG hx hb hr hlocks hP hD hS (Nat.le_of_ble_eq_true rfl) (Nat.le_of_ble_eq_true rfl) dX6_shift_36 ?_
      have hcd : mvC no nb b g (snM cap hom (nI t) (badF wf wt nw (nI t)) at_ olf fr ow ol bw bl no (nN b) (nN g)) = 1 := by
        simp [mvC, mvC, c5, c13]
      exact Or.inr ⟨by rw [hcd]; decide, _, rfl, by rw [hcd]; rfl⟩
    · have c13 := bI_1 c13
      obtain ⟨j, hj, rfl⟩ := (inB_iff (by omega)).mp c5
      have ej : nN (nI j) = j := nI_clamp (by omega)
      obtain ⟨k, hk, rfl⟩ := (inB_iff (by omega)).mp c13
      have ek : nN (nI k) = k := nI_clamp (by omega)
      refine lv_aload_n hx hb dX6_shift_16 rfl (lv_at hl 0 rfl) ?_
      refine lv_iload_n hx hb dX6_shift_17 rfl (lv_at hl 1 rfl) ?_
      refine lv_iload_n hx hb dX6_shift_18 rfl (lv_at hl 2 rfl) ?_
      refine lv_aload_n hx hb dX6_shift_19 rfl (lv_at hl 0 rfl) ?_
      refine lv_iload_n hx hb dX6_shift_20 rfl (lv_at hl 1 rfl) ?_
      refine lv_iload_n hx hb dX6_shift_21 rfl (lv_at hl 2 rfl) ?_
      refine z_callV (As := [Value.int (nI j), Value.int (nI k)]) (rest := [Value.int (nI k), Value.int (nI j), Value.ref (a 0)]) hx hb hml hown hta zm_X6_shiftNow wd_21_7 (c_X6_shiftNow l D y a mth t tb tf ts cap clr mov hom wm nw wf wt nb fr bw bl no od ow ol ork olf oco at_ aw mp mpl msh msl mwa mse j k (by omega) (by omega) (by omega) (by omega) (by omega) (by omega) (by omega)) hN hK hP hD hS hA 0 rfl rfl rfl hl rfl (Nat.le_of_ble_eq_true rfl) ⟨Nat.le_of_ble_eq_true rfl, Nat.le_of_ble_eq_true rfl⟩ ⟨Nat.le_of_ble_eq_true rfl, Nat.le_of_ble_eq_true rfl⟩ dX6_shift_22 (fun v w' H locs hq hP hD hS => ?_)
      obtain ⟨rfl, rfl⟩ := hq
      refine z_callV (As := [Value.int (nI j), Value.int (nI k), Value.int (snM cap hom (nI t) (badF wf wt nw (nI t)) at_ olf fr ow ol bw bl no j k)]) (rest := []) hx hb hml hown hta zm_X6_goes wd_18_12 (c_X6_goes l D y a mth t tb tf ts cap clr mov hom wm nw wf wt nb fr bw bl no od ow ol ork olf oco at_ aw mp mpl msh msl mwa mse j (nI k) (snM cap hom (nI t) (badF wf wt nw (nI t)) at_ olf fr ow ol bw bl no j k) (by omega)) hN hK hP hD hS hA 0 rfl rfl rfl hl rfl (Nat.le_of_ble_eq_true rfl) ⟨Nat.le_of_ble_eq_true rfl, Nat.le_of_ble_eq_true rfl⟩ ⟨Nat.le_of_ble_eq_true rfl, Nat.le_of_ble_eq_true rfl⟩ dX6_shift_25 (fun v w' H locs hq hP hD hS => ?_)
      rcases hq with ⟨hq6, rfl, rfl⟩ | ⟨hq6, r6, rfl, rfl⟩
      · refine lv_goto (tgt := 36) hx hb dX6_shift_28 (by decide) ?_
        refine z_iret hG hx hb hr hlocks hP hD hS (Nat.le_of_ble_eq_true rfl) (Nat.le_of_ble_eq_true rfl) dX6_shift_36 ?_
        refine Or.inl ⟨?_, congrArg (fun z => some (Value.int z)) ?_, ?_⟩
        · rw [mvC, if_pos ⟨c5, c13⟩, ej, ek]; exact hq6
        · rfl
        · rw [ej]
      · refine lv_goto (tgt := 36) hx hb dX6_shift_28 (by decide) ?_
        refine z_iret hG hx hb hr hlocks hP hD hS (Nat.le_of_ble_eq_true rfl) (Nat.le_of_ble_eq_true rfl) dX6_shift_36 ?_
        have hcd : mvC no nb (nI j) (nI k) (snM cap hom (nI t) (badF wf wt nw (nI t)) at_ olf fr ow ol bw bl no (nN (nI j)) (nN (nI k))) = goC (snM cap hom (nI t) (badF wf wt nw (nI t)) at_ olf fr ow ol bw bl no j k) := by
          rw [mvC, if_pos ⟨c5, c13⟩, ej, ek]; rfl
        exact Or.inr ⟨by rw [hcd]; exact hq6, _, rfl, by rw [hcd]⟩
set_option maxHeartbeats 800000 in
set_option maxRecDepth 100000 in
theorem c_X6_launch (l : Launch) (D : va_G) (y : Nat → ClassId) (a : Nat → Nat) (mth : Int32) (t : Nat) (tb tf ts cap clr mov hom : Int32) (wm : Int64) (nw : Nat) (wf wt : Nat → Int32) (nb : Nat) (fr bw bl : Nat → Int32) (no : Nat) (od ow ol ork olf oco at_ aw : Nat → Int32) (mp : Int32) (mpl msh msl mwa mse : Nat → Int32) (b : Int32) (hb8 : no ≤ 8) (hb6 : nb ≤ 6) (hw : nw ≤ 6) (hfr : ∀ k, k < nb → fr k = -1 ∨ ∃ j, j < k ∧ fr k = nI j) (hat : ∀ j, j < no → at_ j = -1 ∨ ∃ k, k < nb ∧ at_ j = nI k) : zP l D y yX6_launch cX6_launch 2 (some .int) 4 0 0 84 [Value.ref (a 0), Value.int b] (wM a y mth (nI t) tb tf ts cap clr mov hom wm (nI nw) wf wt (nI nb) fr bw bl (nI no) od ow ol ork olf oco at_ aw mp mpl msh msl mwa mse) (fun o9 w9 => (mlC no b (lnM cap clr tb tf ts hom (nI t) (badF wf wt nw (nI t)) at_ olf fr od ow no (nN b)) = 0 ∧ o9 = some (Value.int (mov + (1 : Int32))) ∧ w9 = wM a y (0 : Int32) (nI t) tb tf ts cap clr (mov + (1 : Int32)) (nI t) (wm + Int32.toInt64 (ow (nN b))) (nI nw) wf wt (nI nb) fr bw bl (nI no) od ow ol ork olf oco (upd at_ (nN b) (-1 : Int32)) (upd aw (nN b) (if (-1 : Int32) = -1 then 1 else 0)) mp mpl msh msl mwa mse) ∨ (mlC no b (lnM cap clr tb tf ts hom (nI t) (badF wf wt nw (nI t)) at_ olf fr od ow no (nN b)) ≠ 0 ∧ ∃ r9, o9 = some (Value.int r9) ∧ w9 = wM a y (nI (mlC no b (lnM cap clr tb tf ts hom (nI t) (badF wf wt nw (nI t)) at_ olf fr od ow no (nN b)))) (nI t) tb tf ts cap clr mov hom wm (nI nw) wf wt (nI nb) fr bw bl (nI no) od ow ol ork olf oco at_ aw mp mpl msh msl mwa mse)) := by
  refine zP.of (by decide +kernel) (Nat.le_of_ble_eq_true rfl) ?_
  intro p e s m args below meth c A ls hx hb hr hta hown hlocks hml hin hN hK hP hD hS hA hl
  refine z_gen (fun G hG => ?_)
  have hl : lv_has ls 2 [(0, Value.ref (a 0)), (1, Value.int b)] := hl
  refine lv_aload_n hx hb dX6_launch_0 rfl (lv_at hl 0 rfl) ?_
  refine lv_iload_n hx hb dX6_launch_1 rfl (lv_at hl 1 rfl) ?_
  refine z_callV (As := [Value.int b]) (rest := []) hx hb hml hown hta zm_X6_isBoat wd_14_10 (c_X6_isBoat l D y a mth t tb tf ts cap clr mov hom wm nw wf wt nb fr bw bl no od ow ol ork olf oco at_ aw mp mpl msh msl mwa mse b (by omega)) hN hK hP hD hS hA 0 rfl rfl rfl hl rfl (Nat.le_of_ble_eq_true rfl) ⟨Nat.le_of_ble_eq_true rfl, Nat.le_of_ble_eq_true rfl⟩ ⟨Nat.le_of_ble_eq_true rfl, Nat.le_of_ble_eq_true rfl⟩ dX6_launch_2 (fun v w' H locs hq hP hD hS => ?_)
  obtain ⟨rfl, rfl⟩ := hq
  refine lv_if_eq (tgt := 22) hx hb dX6_launch_5 (by decide) (fun c5 => ?_) (fun c5 => ?_)
  · have c5 := bI_0 c5
    refine lv_aload_n hx hb dX6_launch_22 rfl (lv_at hl 0 rfl) ?_
    refine lv_iconst (v := (1 : Int32)) hx hb dX6_launch_23 (by decide) ?_
    refine z_callV (As := [Value.int (1 : Int32)]) (rest := []) hx hb hml hown hta zm_X6_fails wd_7_8 (c_X6_fails l D y a mth t tb tf ts cap clr mov hom wm nw wf wt nb fr bw bl no od ow ol ork olf oco at_ aw mp mpl msh msl mwa mse (1 : Int32)) hN hK hP hD hS hA 0 rfl rfl rfl hl rfl (Nat.le_of_ble_eq_true rfl) ⟨Nat.le_of_ble_eq_true rfl, Nat.le_of_ble_eq_true rfl⟩ ⟨Nat.le_of_ble_eq_true rfl, Nat.le_of_ble_eq_true rfl⟩ dX6_launch_24 (fun v w' H locs hq hP hD hS => ?_)
    obtain ⟨rfl, rfl⟩ := hq
    refine z_iret hG hx hb hr hlocks hP hD hS (Nat.le_of_ble_eq_true rfl) (Nat.le_of_ble_eq_true rfl) dX6_launch_27 ?_
    have hcd : mlC no b (lnM cap clr tb tf ts hom (nI t) (badF wf wt nw (nI t)) at_ olf fr od ow no (nN b)) = 1 := by
      simp [mlC, mlC, c5]
    exact Or.inr ⟨by rw [hcd]; decide, _, rfl, by rw [hcd]; rfl⟩
  · have c5 := bI_1 c5
    obtain ⟨j, hj, rfl⟩ := (inB_iff (by omega)).mp c5
    have ej : nN (nI j) = j := nI_clamp (by omega)
    refine lv_aload_n hx hb dX6_launch_8 rfl (lv_at hl 0 rfl) ?_
    refine lv_iload_n hx hb dX6_launch_9 rfl (lv_at hl 1 rfl) ?_
    refine lv_iconst (v := (-1 : Int32)) hx hb dX6_launch_10 (by decide) ?_
    refine lv_aload_n hx hb dX6_launch_11 rfl (lv_at hl 0 rfl) ?_
    refine lv_iload_n hx hb dX6_launch_12 rfl (lv_at hl 1 rfl) ?_
    refine z_callV (As := [Value.int (nI j)]) (rest := [Value.int (-1 : Int32), Value.int (nI j), Value.ref (a 0)]) hx hb hml hown hta zm_X6_launchNow wd_19_21 (c_X6_launchNow l D y a mth t tb tf ts cap clr mov hom wm nw wf wt nb fr bw bl no od ow ol ork olf oco at_ aw mp mpl msh msl mwa mse j (by omega) (by omega) (by omega) (by omega) (by omega) (by omega)) hN hK hP hD hS hA 0 rfl rfl rfl hl rfl (Nat.le_of_ble_eq_true rfl) ⟨Nat.le_of_ble_eq_true rfl, Nat.le_of_ble_eq_true rfl⟩ ⟨Nat.le_of_ble_eq_true rfl, Nat.le_of_ble_eq_true rfl⟩ dX6_launch_13 (fun v w' H locs hq hP hD hS => ?_)
    obtain ⟨rfl, rfl⟩ := hq
    refine z_callV (As := [Value.int (nI j), Value.int (-1 : Int32), Value.int (lnM cap clr tb tf ts hom (nI t) (badF wf wt nw (nI t)) at_ olf fr od ow no j)]) (rest := []) hx hb hml hown hta zm_X6_goes wd_18_12 (c_X6_goes l D y a mth t tb tf ts cap clr mov hom wm nw wf wt nb fr bw bl no od ow ol ork olf oco at_ aw mp mpl msh msl mwa mse j (-1 : Int32) (lnM cap clr tb tf ts hom (nI t) (badF wf wt nw (nI t)) at_ olf fr od ow no j) (by omega)) hN hK hP hD hS hA 0 rfl rfl rfl hl rfl (Nat.le_of_ble_eq_true rfl) ⟨Nat.le_of_ble_eq_true rfl, Nat.le_of_ble_eq_true rfl⟩ ⟨Nat.le_of_ble_eq_true rfl, Nat.le_of_ble_eq_true rfl⟩ dX6_launch_16 (fun v w' H locs hq hP hD hS => ?_)
    rcases hq with ⟨hq4, rfl, rfl⟩ | ⟨hq4, r4, rfl, rfl⟩
    · refine lv_goto (tgt := 27) hx hb dX6_launch_19 (by decide) ?_
      refine z_iret hG hx hb hr hlocks hP hD hS (Nat.le_of_ble_eq_true rfl) (Nat.le_of_ble_eq_true rfl) dX6_launch_27 ?_
      refine Or.inl ⟨?_, congrArg (fun z => some (Value.int z)) ?_, ?_⟩
      · rw [mlC, if_pos c5, ej]; exact hq4
      · rfl
      · rw [ej]
    · refine lv_goto (tgt := 27) hx hb dX6_launch_19 (by decide) ?_
      refine z_iret hG hx hb hr hlocks hP hD hS (Nat.le_of_ble_eq_true rfl) (Nat.le_of_ble_eq_true rfl) dX6_launch_27 ?_
      have hcd : mlC no (nI j) (lnM cap clr tb tf ts hom (nI t) (badF wf wt nw (nI t)) at_ olf fr od ow no (nN (nI j))) = goC (lnM cap clr tb tf ts hom (nI t) (badF wf wt nw (nI t)) at_ olf fr od ow no j) := by
        rw [mlC, if_pos c5, ej]; rfl
      exact Or.inr ⟨by rw [hcd]; exact hq4, _, rfl, by rw [hcd]⟩
set_option maxHeartbeats 800000 in
set_option maxRecDepth 100000 in
theorem c_X6_liftReason (l : Launch) (D : va_G) (y : Nat → ClassId) (a : Nat → Nat) (mth : Int32) (t : Nat) (tb tf ts cap clr mov hom : Int32) (wm : Int64) (nw : Nat) (wf wt : Nat → Int32) (nb : Nat) (fr bw bl : Nat → Int32) (no : Nat) (od ow ol ork olf oco at_ aw : Nat → Int32) (mp : Int32) (mpl msh msl mwa mse : Nat → Int32) (b : Int32) (g : Int32) (hb8 : no ≤ 8) (hb6 : nb ≤ 6) (hw : nw ≤ 6) (hfr : ∀ k, k < nb → fr k = -1 ∨ ∃ j, j < k ∧ fr k = nI j) : zP l D y yX6_liftReason cX6_liftReason 3 (some .char) 4 0 0 85 [Value.ref (a 0), Value.int b, Value.int g] (wM a y mth (nI t) tb tf ts cap clr mov hom wm (nI nw) wf wt (nI nb) fr bw bl (nI no) od ow ol ork olf oco at_ aw mp mpl msh msl mwa mse) (fun o9 w9 => (bbC no nb b g = 0 ∧ o9 = some (Value.int (liM cap clr tb tf ts hom (nI t) (badF wf wt nw (nI t)) aw at_ fr od ow ol bw bl no (nN b) (nN g))) ∧ w9 = wM a y (0 : Int32) (nI t) tb tf ts cap clr mov hom wm (nI nw) wf wt (nI nb) fr bw bl (nI no) od ow ol ork olf oco at_ aw mp mpl msh msl mwa mse) ∨ (bbC no nb b g ≠ 0 ∧ ∃ r9, o9 = some (Value.int r9) ∧ w9 = wM a y (nI (bbC no nb b g)) (nI t) tb tf ts cap clr mov hom wm (nI nw) wf wt (nI nb) fr bw bl (nI no) od ow ol ork olf oco at_ aw mp mpl msh msl mwa mse)) := by
  refine zP.of (by decide +kernel) (Nat.le_of_ble_eq_true rfl) ?_
  intro p e s m args below meth c A ls hx hb hr hta hown hlocks hml hin hN hK hP hD hS hA hl
  refine z_gen (fun G hG => ?_)
  have hl : lv_has ls 3 [(0, Value.ref (a 0)), (1, Value.int b), (2, Value.int g)] := hl
  refine lv_aload_n hx hb dX6_liftReason_0 rfl (lv_at hl 0 rfl) ?_
  refine lv_aload_n hx hb dX6_liftReason_1 rfl (lv_at hl 0 rfl) ?_
  refine lv_iload_n hx hb dX6_liftReason_2 rfl (lv_at hl 1 rfl) ?_
  refine z_callV (As := [Value.int b]) (rest := [Value.ref (a 0)]) hx hb hml hown hta zm_X6_isBoat wd_14_10 (c_X6_isBoat l D y a mth t tb tf ts cap clr mov hom wm nw wf wt nb fr bw bl no od ow ol ork olf oco at_ aw mp mpl msh msl mwa mse b (by omega)) hN hK hP hD hS hA 0 rfl rfl rfl hl rfl (Nat.le_of_ble_eq_true rfl) ⟨Nat.le_of_ble_eq_true rfl, Nat.le_of_ble_eq_true rfl⟩ ⟨Nat.le_of_ble_eq_true rfl, Nat.le_of_ble_eq_true rfl⟩ dX6_liftReason_3 (fun v w' H locs hq hP hD hS => ?_)
  obtain ⟨rfl, rfl⟩ := hq
  refine lv_if_eq (tgt := 21) hx hb dX6_liftReason_6 (by decide) (fun c6 => ?_) (fun c6 => ?_)
  · have c6 := bI_0 c6
    refine lv_iconst (v := (1 : Int32)) hx hb dX6_liftReason_21 (by decide) ?_
    refine pM6_thrown hx hb hta hown hK hP hD hS wd_7_12 dX6_liftReason_22 (fun H locs hP hD hS => ?_)
    refine lv_aload_n hx hb dX6_liftReason_25 rfl (lv_at hl 0 rfl) ?_
    refine gM6_thrown hx hb hta hown hK hP wd_7_12 dX6_liftReason_26 ?_
    refine lv_if_ne (tgt := 41) hx hb dX6_liftReason_29 (by decide) (fun c29 => ?_) (fun c29 => ?_)
    · refine lv_bipush (v := (97 : Int32)) hx hb dX6_liftReason_41 (by decide) ?_
      refine z_zret hG hx hb hr hlocks hP hD hS (Nat.le_of_ble_eq_true rfl) (Nat.le_of_ble_eq_true rfl) dX6_liftReason_43 ?_ ?_
      · rfl
      · have hcd : bbC no nb b g = 1 := by
          simp [bbC, c6]
        exact Or.inr ⟨by rw [hcd]; decide, _, rfl, by rw [hcd]; rfl⟩
    · exact absurd c29 (by decide)
  · have c6 := bI_1 c6
    refine lv_aload_n hx hb dX6_liftReason_9 rfl (lv_at hl 0 rfl) ?_
    refine lv_iload_n hx hb dX6_liftReason_10 rfl (lv_at hl 2 rfl) ?_
    refine z_callV (As := [Value.int g]) (rest := [Value.ref (a 0)]) hx hb hml hown hta zm_X6_isBerth wd_7_1 (c_X6_isBerth l D y a mth t tb tf ts cap clr mov hom wm nw wf wt nb fr bw bl no od ow ol ork olf oco at_ aw mp mpl msh msl mwa mse g (by omega)) hN hK hP hD hS hA 0 rfl rfl rfl hl rfl (Nat.le_of_ble_eq_true rfl) ⟨Nat.le_of_ble_eq_true rfl, Nat.le_of_ble_eq_true rfl⟩ ⟨Nat.le_of_ble_eq_true rfl, Nat.le_of_ble_eq_true rfl⟩ dX6_liftReason_11 (fun v w' H locs hq hP hD hS => ?_)
    obtain ⟨rfl, rfl⟩ := hq
    refine lv_if_eq (tgt := 21) hx hb dX6_liftReason_14 (by decide) (fun c14 => ?_) (fun c14 => ?_)
    · have c14 := bI_0 c14
      refine lv_iconst (v := (1 : Int32)) hx hb dX6_liftReason_21 (by decide) ?_
      refine pM6_thrown hx hb hta hown hK hP hD hS wd_7_12 dX6_liftReason_22 (fun H locs hP hD hS => ?_)
      refine lv_aload_n hx hb dX6_liftReason_25 rfl (lv_at hl 0 rfl) ?_
      refine gM6_thrown hx hb hta hown hK hP wd_7_12 dX6_liftReason_26 ?_
      refine lv_if_ne (tgt := 41) hx hb dX6_liftReason_29 (by decide) (fun c29 => ?_) (fun c29 => ?_)
      · refine lv_bipush (v := (97 : Int32)) hx hb dX6_liftReason_41 (by decide) ?_
        refine z_zret hG hx hb hr hlocks hP hD hS (Nat.le_of_ble_eq_true rfl) (Nat.le_of_ble_eq_true rfl) dX6_liftReason_43 ?_ ?_
        · rfl
        · have hcd : bbC no nb b g = 1 := by
            simp [bbC, c6, c14]
          exact Or.inr ⟨by rw [hcd]; decide, _, rfl, by rw [hcd]; rfl⟩
      · exact absurd c29 (by decide)
    · have c14 := bI_1 c14
      refine lv_iconst (v := (0 : Int32)) hx hb dX6_liftReason_17 (by decide) ?_
      refine lv_goto (tgt := 22) hx hb dX6_liftReason_18 (by decide) ?_
      refine pM6_thrown hx hb hta hown hK hP hD hS wd_7_12 dX6_liftReason_22 (fun H locs hP hD hS => ?_)
      refine lv_aload_n hx hb dX6_liftReason_25 rfl (lv_at hl 0 rfl) ?_
      refine gM6_thrown hx hb hta hown hK hP wd_7_12 dX6_liftReason_26 ?_
      refine lv_if_ne (tgt := 41) hx hb dX6_liftReason_29 (by decide) (fun c29 => ?_) (fun c29 => ?_)
      · exact absurd c29 (by decide)
      · obtain ⟨j, hj, rfl⟩ := (inB_iff (by omega)).mp c6
        have ej : nN (nI j) = j := nI_clamp (by omega)
        obtain ⟨k, hk, rfl⟩ := (inB_iff (by omega)).mp c14
        have ek : nN (nI k) = k := nI_clamp (by omega)
        refine lv_aload_n hx hb dX6_liftReason_32 rfl (lv_at hl 0 rfl) ?_
        refine lv_iload_n hx hb dX6_liftReason_33 rfl (lv_at hl 1 rfl) ?_
        refine lv_iload_n hx hb dX6_liftReason_34 rfl (lv_at hl 2 rfl) ?_
        refine z_callV (As := [Value.int (nI j), Value.int (nI k)]) (rest := []) hx hb hml hown hta zm_X6_liftNow wd_17_20 (c_X6_liftNow l D y a (0 : Int32) t tb tf ts cap clr mov hom wm nw wf wt nb fr bw bl no od ow ol ork olf oco at_ aw mp mpl msh msl mwa mse j k (by omega) (by omega) (by omega) (by omega) (by omega) (by omega)) hN hK hP hD hS hA 0 rfl rfl rfl hl rfl (Nat.le_of_ble_eq_true rfl) ⟨Nat.le_of_ble_eq_true rfl, Nat.le_of_ble_eq_true rfl⟩ ⟨Nat.le_of_ble_eq_true rfl, Nat.le_of_ble_eq_true rfl⟩ dX6_liftReason_35 (fun v w' H locs hq hP hD hS => ?_)
        obtain ⟨rfl, rfl⟩ := hq
        refine lv_goto (tgt := 43) hx hb dX6_liftReason_38 (by decide) ?_
        refine z_zret hG hx hb hr hlocks hP hD hS (Nat.le_of_ble_eq_true rfl) (Nat.le_of_ble_eq_true rfl) dX6_liftReason_43 ?_ ?_
        · exact liM_ch ..
        · refine Or.inl ⟨?_, congrArg (fun z => some (Value.int z)) ?_, ?_⟩
          · simp [bbC, c6, c14, ej, ek]
          · rw [ej, ek]
          · rfl
set_option maxHeartbeats 800000 in
set_option maxRecDepth 100000 in
theorem c_X6_shiftReason (l : Launch) (D : va_G) (y : Nat → ClassId) (a : Nat → Nat) (mth : Int32) (t : Nat) (tb tf ts cap clr mov hom : Int32) (wm : Int64) (nw : Nat) (wf wt : Nat → Int32) (nb : Nat) (fr bw bl : Nat → Int32) (no : Nat) (od ow ol ork olf oco at_ aw : Nat → Int32) (mp : Int32) (mpl msh msl mwa mse : Nat → Int32) (b : Int32) (g : Int32) (hb8 : no ≤ 8) (hb6 : nb ≤ 6) (hw : nw ≤ 6) (hfr : ∀ k, k < nb → fr k = -1 ∨ ∃ j, j < k ∧ fr k = nI j) (hat : ∀ j, j < no → at_ j = -1 ∨ ∃ k, k < nb ∧ at_ j = nI k) : zP l D y yX6_shiftReason cX6_shiftReason 3 (some .char) 4 0 0 92 [Value.ref (a 0), Value.int b, Value.int g] (wM a y mth (nI t) tb tf ts cap clr mov hom wm (nI nw) wf wt (nI nb) fr bw bl (nI no) od ow ol ork olf oco at_ aw mp mpl msh msl mwa mse) (fun o9 w9 => (bbC no nb b g = 0 ∧ o9 = some (Value.int (snM cap hom (nI t) (badF wf wt nw (nI t)) at_ olf fr ow ol bw bl no (nN b) (nN g))) ∧ w9 = wM a y (0 : Int32) (nI t) tb tf ts cap clr mov hom wm (nI nw) wf wt (nI nb) fr bw bl (nI no) od ow ol ork olf oco at_ aw mp mpl msh msl mwa mse) ∨ (bbC no nb b g ≠ 0 ∧ ∃ r9, o9 = some (Value.int r9) ∧ w9 = wM a y (nI (bbC no nb b g)) (nI t) tb tf ts cap clr mov hom wm (nI nw) wf wt (nI nb) fr bw bl (nI no) od ow ol ork olf oco at_ aw mp mpl msh msl mwa mse)) := by
  refine zP.of (by decide +kernel) (Nat.le_of_ble_eq_true rfl) ?_
  intro p e s m args below meth c A ls hx hb hr hta hown hlocks hml hin hN hK hP hD hS hA hl
  refine z_gen (fun G hG => ?_)
  have hl : lv_has ls 3 [(0, Value.ref (a 0)), (1, Value.int b), (2, Value.int g)] := hl
  refine lv_aload_n hx hb dX6_shiftReason_0 rfl (lv_at hl 0 rfl) ?_
  refine lv_aload_n hx hb dX6_shiftReason_1 rfl (lv_at hl 0 rfl) ?_
  refine lv_iload_n hx hb dX6_shiftReason_2 rfl (lv_at hl 1 rfl) ?_
  refine z_callV (As := [Value.int b]) (rest := [Value.ref (a 0)]) hx hb hml hown hta zm_X6_isBoat wd_14_10 (c_X6_isBoat l D y a mth t tb tf ts cap clr mov hom wm nw wf wt nb fr bw bl no od ow ol ork olf oco at_ aw mp mpl msh msl mwa mse b (by omega)) hN hK hP hD hS hA 0 rfl rfl rfl hl rfl (Nat.le_of_ble_eq_true rfl) ⟨Nat.le_of_ble_eq_true rfl, Nat.le_of_ble_eq_true rfl⟩ ⟨Nat.le_of_ble_eq_true rfl, Nat.le_of_ble_eq_true rfl⟩ dX6_shiftReason_3 (fun v w' H locs hq hP hD hS => ?_)
  obtain ⟨rfl, rfl⟩ := hq
  refine lv_if_eq (tgt := 21) hx hb dX6_shiftReason_6 (by decide) (fun c6 => ?_) (fun c6 => ?_)
  · have c6 := bI_0 c6
    refine lv_iconst (v := (1 : Int32)) hx hb dX6_shiftReason_21 (by decide) ?_
    refine pM6_thrown hx hb hta hown hK hP hD hS wd_7_12 dX6_shiftReason_22 (fun H locs hP hD hS => ?_)
    refine lv_aload_n hx hb dX6_shiftReason_25 rfl (lv_at hl 0 rfl) ?_
    refine gM6_thrown hx hb hta hown hK hP wd_7_12 dX6_shiftReason_26 ?_
    refine lv_if_ne (tgt := 41) hx hb dX6_shiftReason_29 (by decide) (fun c29 => ?_) (fun c29 => ?_)
    · refine lv_bipush (v := (97 : Int32)) hx hb dX6_shiftReason_41 (by decide) ?_
      refine z_zret hG hx hb hr hlocks hP hD hS (Nat.le_of_ble_eq_true rfl) (Nat.le_of_ble_eq_true rfl) dX6_shiftReason_43 ?_ ?_
      · rfl
      · have hcd : bbC no nb b g = 1 := by
          simp [bbC, c6]
        exact Or.inr ⟨by rw [hcd]; decide, _, rfl, by rw [hcd]; rfl⟩
    · exact absurd c29 (by decide)
  · have c6 := bI_1 c6
    refine lv_aload_n hx hb dX6_shiftReason_9 rfl (lv_at hl 0 rfl) ?_
    refine lv_iload_n hx hb dX6_shiftReason_10 rfl (lv_at hl 2 rfl) ?_
    refine z_callV (As := [Value.int g]) (rest := [Value.ref (a 0)]) hx hb hml hown hta zm_X6_isBerth wd_7_1 (c_X6_isBerth l D y a mth t tb tf ts cap clr mov hom wm nw wf wt nb fr bw bl no od ow ol ork olf oco at_ aw mp mpl msh msl mwa mse g (by omega)) hN hK hP hD hS hA 0 rfl rfl rfl hl rfl (Nat.le_of_ble_eq_true rfl) ⟨Nat.le_of_ble_eq_true rfl, Nat.le_of_ble_eq_true rfl⟩ ⟨Nat.le_of_ble_eq_true rfl, Nat.le_of_ble_eq_true rfl⟩ dX6_shiftReason_11 (fun v w' H locs hq hP hD hS => ?_)
    obtain ⟨rfl, rfl⟩ := hq
    refine lv_if_eq (tgt := 21) hx hb dX6_shiftReason_14 (by decide) (fun c14 => ?_) (fun c14 => ?_)
    · have c14 := bI_0 c14
      refine lv_iconst (v := (1 : Int32)) hx hb dX6_shiftReason_21 (by decide) ?_
      refine pM6_thrown hx hb hta hown hK hP hD hS wd_7_12 dX6_shiftReason_22 (fun H locs hP hD hS => ?_)
      refine lv_aload_n hx hb dX6_shiftReason_25 rfl (lv_at hl 0 rfl) ?_
      refine gM6_thrown hx hb hta hown hK hP wd_7_12 dX6_shiftReason_26 ?_
      refine lv_if_ne (tgt := 41) hx hb dX6_shiftReason_29 (by decide) (fun c29 => ?_) (fun c29 => ?_)
      · refine lv_bipush (v := (97 : Int32)) hx hb dX6_shiftReason_41 (by decide) ?_
        refine z_zret hG hx hb hr hlocks hP hD hS (Nat.le_of_ble_eq_true rfl) (Nat.le_of_ble_eq_true rfl) dX6_shiftReason_43 ?_ ?_
        · rfl
        · have hcd : bbC no nb b g = 1 := by
            simp [bbC, c6, c14]
          exact Or.inr ⟨by rw [hcd]; decide, _, rfl, by rw [hcd]; rfl⟩
      · exact absurd c29 (by decide)
    · have c14 := bI_1 c14
      refine lv_iconst (v := (0 : Int32)) hx hb dX6_shiftReason_17 (by decide) ?_
      refine lv_goto (tgt := 22) hx hb dX6_shiftReason_18 (by decide) ?_
      refine pM6_thrown hx hb hta hown hK hP hD hS wd_7_12 dX6_shiftReason_22 (fun H locs hP hD hS => ?_)
      refine lv_aload_n hx hb dX6_shiftReason_25 rfl (lv_at hl 0 rfl) ?_
      refine gM6_thrown hx hb hta hown hK hP wd_7_12 dX6_shiftReason_26 ?_
      refine lv_if_ne (tgt := 41) hx hb dX6_shiftReason_29 (by decide) (fun c29 => ?_) (fun c29 => ?_)
      · exact absurd c29 (by decide)
      · obtain ⟨j, hj, rfl⟩ := (inB_iff (by omega)).mp c6
        have ej : nN (nI j) = j := nI_clamp (by omega)
        obtain ⟨k, hk, rfl⟩ := (inB_iff (by omega)).mp c14
        have ek : nN (nI k) = k := nI_clamp (by omega)
        refine lv_aload_n hx hb dX6_shiftReason_32 rfl (lv_at hl 0 rfl) ?_
        refine lv_iload_n hx hb dX6_shiftReason_33 rfl (lv_at hl 1 rfl) ?_
        refine lv_iload_n hx hb dX6_shiftReason_34 rfl (lv_at hl 2 rfl) ?_
        refine z_callV (As := [Value.int (nI j), Value.int (nI k)]) (rest := []) hx hb hml hown hta zm_X6_shiftNow wd_21_7 (c_X6_shiftNow l D y a (0 : Int32) t tb tf ts cap clr mov hom wm nw wf wt nb fr bw bl no od ow ol ork olf oco at_ aw mp mpl msh msl mwa mse j k (by omega) (by omega) (by omega) (by omega) (by omega) (by omega) (by omega)) hN hK hP hD hS hA 0 rfl rfl rfl hl rfl (Nat.le_of_ble_eq_true rfl) ⟨Nat.le_of_ble_eq_true rfl, Nat.le_of_ble_eq_true rfl⟩ ⟨Nat.le_of_ble_eq_true rfl, Nat.le_of_ble_eq_true rfl⟩ dX6_shiftReason_35 (fun v w' H locs hq hP hD hS => ?_)
        obtain ⟨rfl, rfl⟩ := hq
        refine lv_goto (tgt := 43) hx hb dX6_shiftReason_38 (by decide) ?_
        refine z_zret hG hx hb hr hlocks hP hD hS (Nat.le_of_ble_eq_true rfl) (Nat.le_of_ble_eq_true rfl) dX6_shiftReason_43 ?_ ?_
        · exact snM_ch ..
        · refine Or.inl ⟨?_, congrArg (fun z => some (Value.int z)) ?_, ?_⟩
          · simp [bbC, c6, c14, ej, ek]
          · rw [ej, ek]
          · rfl
set_option maxHeartbeats 800000 in
set_option maxRecDepth 100000 in
theorem c_X6_launchReason (l : Launch) (D : va_G) (y : Nat → ClassId) (a : Nat → Nat) (mth : Int32) (t : Nat) (tb tf ts cap clr mov hom : Int32) (wm : Int64) (nw : Nat) (wf wt : Nat → Int32) (nb : Nat) (fr bw bl : Nat → Int32) (no : Nat) (od ow ol ork olf oco at_ aw : Nat → Int32) (mp : Int32) (mpl msh msl mwa mse : Nat → Int32) (b : Int32) (hb8 : no ≤ 8) (hb6 : nb ≤ 6) (hw : nw ≤ 6) (hfr : ∀ k, k < nb → fr k = -1 ∨ ∃ j, j < k ∧ fr k = nI j) (hat : ∀ j, j < no → at_ j = -1 ∨ ∃ k, k < nb ∧ at_ j = nI k) : zP l D y yX6_launchReason cX6_launchReason 2 (some .char) 4 0 0 84 [Value.ref (a 0), Value.int b] (wM a y mth (nI t) tb tf ts cap clr mov hom wm (nI nw) wf wt (nI nb) fr bw bl (nI no) od ow ol ork olf oco at_ aw mp mpl msh msl mwa mse) (fun o9 w9 => (boC no b = 0 ∧ o9 = some (Value.int (lnM cap clr tb tf ts hom (nI t) (badF wf wt nw (nI t)) at_ olf fr od ow no (nN b))) ∧ w9 = wM a y (0 : Int32) (nI t) tb tf ts cap clr mov hom wm (nI nw) wf wt (nI nb) fr bw bl (nI no) od ow ol ork olf oco at_ aw mp mpl msh msl mwa mse) ∨ (boC no b ≠ 0 ∧ ∃ r9, o9 = some (Value.int r9) ∧ w9 = wM a y (nI (boC no b)) (nI t) tb tf ts cap clr mov hom wm (nI nw) wf wt (nI nb) fr bw bl (nI no) od ow ol ork olf oco at_ aw mp mpl msh msl mwa mse)) := by
  refine zP.of (by decide +kernel) (Nat.le_of_ble_eq_true rfl) ?_
  intro p e s m args below meth c A ls hx hb hr hta hown hlocks hml hin hN hK hP hD hS hA hl
  refine z_gen (fun G hG => ?_)
  have hl : lv_has ls 2 [(0, Value.ref (a 0)), (1, Value.int b)] := hl
  refine lv_aload_n hx hb dX6_launchReason_0 rfl (lv_at hl 0 rfl) ?_
  refine lv_aload_n hx hb dX6_launchReason_1 rfl (lv_at hl 0 rfl) ?_
  refine lv_iload_n hx hb dX6_launchReason_2 rfl (lv_at hl 1 rfl) ?_
  refine z_callV (As := [Value.int b]) (rest := [Value.ref (a 0)]) hx hb hml hown hta zm_X6_isBoat wd_14_10 (c_X6_isBoat l D y a mth t tb tf ts cap clr mov hom wm nw wf wt nb fr bw bl no od ow ol ork olf oco at_ aw mp mpl msh msl mwa mse b (by omega)) hN hK hP hD hS hA 0 rfl rfl rfl hl rfl (Nat.le_of_ble_eq_true rfl) ⟨Nat.le_of_ble_eq_true rfl, Nat.le_of_ble_eq_true rfl⟩ ⟨Nat.le_of_ble_eq_true rfl, Nat.le_of_ble_eq_true rfl⟩ dX6_launchReason_3 (fun v w' H locs hq hP hD hS => ?_)
  obtain ⟨rfl, rfl⟩ := hq
  refine lv_if_eq (tgt := 13) hx hb dX6_launchReason_6 (by decide) (fun c6 => ?_) (fun c6 => ?_)
  · have c6 := bI_0 c6
    refine lv_iconst (v := (1 : Int32)) hx hb dX6_launchReason_13 (by decide) ?_
    refine pM6_thrown hx hb hta hown hK hP hD hS wd_7_12 dX6_launchReason_14 (fun H locs hP hD hS => ?_)
    refine lv_aload_n hx hb dX6_launchReason_17 rfl (lv_at hl 0 rfl) ?_
    refine gM6_thrown hx hb hta hown hK hP wd_7_12 dX6_launchReason_18 ?_
    refine lv_if_ne (tgt := 32) hx hb dX6_launchReason_21 (by decide) (fun c21 => ?_) (fun c21 => ?_)
    · refine lv_bipush (v := (97 : Int32)) hx hb dX6_launchReason_32 (by decide) ?_
      refine z_zret hG hx hb hr hlocks hP hD hS (Nat.le_of_ble_eq_true rfl) (Nat.le_of_ble_eq_true rfl) dX6_launchReason_34 ?_ ?_
      · rfl
      · have hcd : boC no b = 1 := by
          simp [boC, c6]
        exact Or.inr ⟨by rw [hcd]; decide, _, rfl, by rw [hcd]; rfl⟩
    · exact absurd c21 (by decide)
  · have c6 := bI_1 c6
    refine lv_iconst (v := (0 : Int32)) hx hb dX6_launchReason_9 (by decide) ?_
    refine lv_goto (tgt := 14) hx hb dX6_launchReason_10 (by decide) ?_
    refine pM6_thrown hx hb hta hown hK hP hD hS wd_7_12 dX6_launchReason_14 (fun H locs hP hD hS => ?_)
    refine lv_aload_n hx hb dX6_launchReason_17 rfl (lv_at hl 0 rfl) ?_
    refine gM6_thrown hx hb hta hown hK hP wd_7_12 dX6_launchReason_18 ?_
    refine lv_if_ne (tgt := 32) hx hb dX6_launchReason_21 (by decide) (fun c21 => ?_) (fun c21 => ?_)
    · exact absurd c21 (by decide)
    · obtain ⟨j, hj, rfl⟩ := (inB_iff (by omega)).mp c6
      have ej : nN (nI j) = j := nI_clamp (by omega)
      refine lv_aload_n hx hb dX6_launchReason_24 rfl (lv_at hl 0 rfl) ?_
      refine lv_iload_n hx hb dX6_launchReason_25 rfl (lv_at hl 1 rfl) ?_
      refine z_callV (As := [Value.int (nI j)]) (rest := []) hx hb hml hown hta zm_X6_launchNow wd_19_21 (c_X6_launchNow l D y a (0 : Int32) t tb tf ts cap clr mov hom wm nw wf wt nb fr bw bl no od ow ol ork olf oco at_ aw mp mpl msh msl mwa mse j (by omega) (by omega) (by omega) (by omega) (by omega) (by omega)) hN hK hP hD hS hA 0 rfl rfl rfl hl rfl (Nat.le_of_ble_eq_true rfl) ⟨Nat.le_of_ble_eq_true rfl, Nat.le_of_ble_eq_true rfl⟩ ⟨Nat.le_of_ble_eq_true rfl, Nat.le_of_ble_eq_true rfl⟩ dX6_launchReason_26 (fun v w' H locs hq hP hD hS => ?_)
      obtain ⟨rfl, rfl⟩ := hq
      refine lv_goto (tgt := 34) hx hb dX6_launchReason_29 (by decide) ?_
      refine z_zret hG hx hb hr hlocks hP hD hS (Nat.le_of_ble_eq_true rfl) (Nat.le_of_ble_eq_true rfl) dX6_launchReason_34 ?_ ?_
      · exact lnM_ch ..
      · refine Or.inl ⟨?_, congrArg (fun z => some (Value.int z)) ?_, ?_⟩
        · simp [boC, c6, ej]
        · rw [ej]
        · rfl
set_option maxHeartbeats 800000 in
set_option maxRecDepth 100000 in
theorem c_X6_waits (l : Launch) (D : va_G) (y : Nat → ClassId) (a : Nat → Nat) (mth : Int32) (t : Nat) (tb tf ts cap clr mov hom : Int32) (wm : Int64) (nw : Nat) (wf wt : Nat → Int32) (nb : Nat) (fr bw bl : Nat → Int32) (no : Nat) (od ow ol ork olf oco at_ aw : Nat → Int32) (mp : Int32) (mpl msh msl mwa mse : Nat → Int32) (j : Nat) (hj8 : j < 8) : zP l D y yX6_waits cX6_waits 2 (some .boolean) 0 0 0 0 [Value.ref (a 0), Value.int (nI j)] (wM a y mth (nI t) tb tf ts cap clr mov hom wm (nI nw) wf wt (nI nb) fr bw bl (nI no) od ow ol ork olf oco at_ aw mp mpl msh msl mwa mse) (fun o9 w9 => o9 = some (Value.int (bI (wtM aw at_ j))) ∧ w9 = wM a y mth (nI t) tb tf ts cap clr mov hom wm (nI nw) wf wt (nI nb) fr bw bl (nI no) od ow ol ork olf oco at_ aw mp mpl msh msl mwa mse) := by
  refine zP.of (by decide +kernel) (Nat.le_of_ble_eq_true rfl) ?_
  intro p e s m args below meth c A ls hx hb hr hta hown hlocks hml hin hN hK hP hD hS hA hl
  refine z_gen (fun G hG => ?_)
  have hl : lv_has ls 2 [(0, Value.ref (a 0)), (1, Value.int (nI j))] := hl
  refine lv_aload_n hx hb dX6_waits_0 rfl (lv_at hl 0 rfl) ?_
  refine gM6_isAway hx hb hta hown hK hP wd_5_8 dX6_waits_1 ?_
  refine lv_iload_n hx hb dX6_waits_4 rfl (lv_at hl 1 rfl) ?_
  refine aM_aw hx hb hK hP j rfl (by omega) dX6_waits_5 ?_
  refine lv_if_ne (tgt := 23) hx hb dX6_waits_6 (by decide) (fun c6 => ?_) (fun c6 => ?_)
  · refine lv_iconst (v := (0 : Int32)) hx hb dX6_waits_23 (by decide) ?_
    refine z_zret hG hx hb hr hlocks hP hD hS (Nat.le_of_ble_eq_true rfl) (Nat.le_of_ble_eq_true rfl) dX6_waits_24 ?_ ?_
    · rfl
    · refine zqi ?_
      unfold wtM
      first
      | exact bI_t (decide_eq_true ⟨c6, c16⟩)
      | exact bI_f (decide_eq_false (fun z => c6 z.1))
      | exact bI_f (decide_eq_false (fun z => c16 z.2))
  · refine lv_aload_n hx hb dX6_waits_9 rfl (lv_at hl 0 rfl) ?_
    refine gM6_at hx hb hta hown hK hP wd_5_6 dX6_waits_10 ?_
    refine lv_iload_n hx hb dX6_waits_13 rfl (lv_at hl 1 rfl) ?_
    refine aM_at_ hx hb hK hP j rfl (by omega) dX6_waits_14 ?_
    refine lv_iconst (v := (-1 : Int32)) hx hb dX6_waits_15 (by decide) ?_
    refine lv_icmp_ne (tgt := 23) hx hb dX6_waits_16 (by decide) (fun c16 => ?_) (fun c16 => ?_)
    · refine lv_iconst (v := (0 : Int32)) hx hb dX6_waits_23 (by decide) ?_
      refine z_zret hG hx hb hr hlocks hP hD hS (Nat.le_of_ble_eq_true rfl) (Nat.le_of_ble_eq_true rfl) dX6_waits_24 ?_ ?_
      · rfl
      · refine zqi ?_
        unfold wtM
        first
        | exact bI_t (decide_eq_true ⟨c6, c16⟩)
        | exact bI_f (decide_eq_false (fun z => c6 z.1))
        | exact bI_f (decide_eq_false (fun z => c16 z.2))
    · refine lv_iconst (v := (1 : Int32)) hx hb dX6_waits_19 (by decide) ?_
      refine lv_goto (tgt := 24) hx hb dX6_waits_20 (by decide) ?_
      refine z_zret hG hx hb hr hlocks hP hD hS (Nat.le_of_ble_eq_true rfl) (Nat.le_of_ble_eq_true rfl) dX6_waits_24 ?_ ?_
      · rfl
      · refine zqi ?_
        unfold wtM
        first
        | exact bI_t (decide_eq_true ⟨c6, c16⟩)
        | exact bI_f (decide_eq_false (fun z => c6 z.1))
        | exact bI_f (decide_eq_false (fun z => c16 z.2))
set_option maxHeartbeats 800000 in
set_option maxRecDepth 100000 in
theorem c_X6_waiting (l : Launch) (D : va_G) (y : Nat → ClassId) (a : Nat → Nat) (mth : Int32) (t : Nat) (tb tf ts cap clr mov hom : Int32) (wm : Int64) (nw : Nat) (wf wt : Nat → Int32) (nb : Nat) (fr bw bl : Nat → Int32) (no : Nat) (od ow ol ork olf oco at_ aw : Nat → Int32) (mp : Int32) (mpl msh msl mwa mse : Nat → Int32)  (hb8 : no ≤ 8) : zP l D y yX6_waiting cX6_waiting 3 (some .int) 1 0 0 21 [Value.ref (a 0)] (wM a y mth (nI t) tb tf ts cap clr mov hom wm (nI nw) wf wt (nI nb) fr bw bl (nI no) od ow ol ork olf oco at_ aw mp mpl msh msl mwa mse) (fun o9 w9 => o9 = some (Value.int (nI (fb_ct (wtM aw at_) no))) ∧ w9 = wM a y mth (nI t) tb tf ts cap clr mov hom wm (nI nw) wf wt (nI nb) fr bw bl (nI no) od ow ol ork olf oco at_ aw mp mpl msh msl mwa mse) := by
  refine zP.of (by decide +kernel) (Nat.le_of_ble_eq_true rfl) ?_
  intro p e s m args below meth c A ls hx hb hr hta hown hlocks hml hin hN hK hP hD hS hA hl
  refine z_gen (fun G hG => ?_)
  have hl : lv_has ls 3 [(0, Value.ref (a 0))] := hl
  refine lv_iconst (v := (0 : Int32)) hx hb dX6_waiting_0 (by decide) ?_
  refine lv_istore_n (lv' := [(1, Value.int (0 : Int32)), (0, Value.ref (a 0))]) hx hb dX6_waiting_1 rfl hl (by decide) rfl (fun ls hl => ?_)
  refine lv_iconst (v := (0 : Int32)) hx hb dX6_waiting_2 (by decide) ?_
  refine lv_istore_n (lv' := [(2, Value.int (0 : Int32)), (1, Value.int (0 : Int32)), (0, Value.ref (a 0))]) hx hb dX6_waiting_3 rfl hl (by decide) rfl (fun ls hl => ?_)
  have LP4 : ∀ (n : Nat) (k : Nat), (k ≤ no) → no - k < n → ∀ (H : Heap) (locs : List Loc) (ls : Array Slot), va_P D vwCl (wM a y mth (nI t) tb tf ts cap clr mov hom wm (nI nw) wf wt (nI nb) fr bw bl (nI no) od ow ol ork olf oco at_ aw mp mpl msh msl mwa mse) H → va_D A (wM a y mth (nI t) tb tf ts cap clr mov hom wm (nI nw) wf wt (nI nb) fr bw bl (nI no) od ow ol ork olf oco at_ aw mp mpl msh msl mwa mse) → va_S A s.heap H locs → lv_has ls 3 [(2, Value.int (nI k)), (1, Value.int (nI (fb_ct (wtM aw at_) k))), (0, Value.ref (a 0))] → W p l e ({ frames := 1, cells := 0, slots := 0, locals := 21 } : Room) s m args below meth c H locs 0 0 G (F0 m 4 ls []) := by
    intro n
    induction n with
    | zero => intro k hk hn; exact absurd hn (Nat.not_lt_zero _)
    | succ n ih4 =>
      intro k hk hn H locs ls hP hD hS hl
      refine lv_iload_n hx hb dX6_waiting_4 rfl (lv_at hl 0 rfl) ?_
      refine lv_aload_n hx hb dX6_waiting_5 rfl (lv_at hl 2 rfl) ?_
      refine gM6_boats hx hb hta hown hK hP wd_8_13 dX6_waiting_6 ?_
      refine lv_icmp_ge (tgt := 34) hx hb dX6_waiting_9 (by decide) (fun c9 => ?_) (fun c9 => ?_)
      · have c9 : no ≤ k := (nI_leI (a := no) (b := k) (by omega) (by omega)).mp c9
        refine lv_iload_n hx hb dX6_waiting_34 rfl (lv_at hl 1 rfl) ?_
        refine z_iret hG hx hb hr hlocks hP hD hS (Nat.le_of_ble_eq_true rfl) (Nat.le_of_ble_eq_true rfl) dX6_waiting_35 ?_
        refine zqi ?_
        rw [show k = no by omega]
      · have c9 : ¬ no ≤ k := fun z => c9 ((nI_leI (a := no) (b := k) (by omega) (by omega)).mpr z)
        refine lv_iload_n hx hb dX6_waiting_12 rfl (lv_at hl 1 rfl) ?_
        refine lv_aload_n hx hb dX6_waiting_13 rfl (lv_at hl 2 rfl) ?_
        refine lv_iload_n hx hb dX6_waiting_14 rfl (lv_at hl 0 rfl) ?_
        refine z_callV (As := [Value.int (nI k)]) (rest := [Value.int (nI (fb_ct (wtM aw at_) k))]) hx hb hml hown hta zm_X6_waits wd_22_21 (c_X6_waits l D y a mth t tb tf ts cap clr mov hom wm nw wf wt nb fr bw bl no od ow ol ork olf oco at_ aw mp mpl msh msl mwa mse k (by omega)) hN hK hP hD hS hA 0 rfl rfl rfl hl rfl (Nat.le_of_ble_eq_true rfl) ⟨Nat.le_of_ble_eq_true rfl, Nat.le_of_ble_eq_true rfl⟩ ⟨Nat.le_of_ble_eq_true rfl, Nat.le_of_ble_eq_true rfl⟩ dX6_waiting_15 (fun v w' H locs hq hP hD hS => ?_)
        obtain ⟨rfl, rfl⟩ := hq
        refine lv_if_eq (tgt := 25) hx hb dX6_waiting_18 (by decide) (fun c18 => ?_) (fun c18 => ?_)
        · have c18 := bI_0 c18
          refine lv_iconst (v := (0 : Int32)) hx hb dX6_waiting_25 (by decide) ?_
          refine lv_iadd hx hb dX6_waiting_26 ?_
          refine zr_top (y := nI ((fb_ct (wtM aw at_) k) + 0)) (nI_add (fb_ct (wtM aw at_) k) 0) ?_
          refine lv_istore_n (lv' := [(1, Value.int (nI ((fb_ct (wtM aw at_) k) + 0))), (2, Value.int (nI k)), (0, Value.ref (a 0))]) hx hb dX6_waiting_27 rfl hl (by decide) rfl (fun ls hl => ?_)
          refine lv_iinc (v := nI (k + 1)) (lv' := [(2, Value.int (nI (k + 1))), (1, Value.int (nI ((fb_ct (wtM aw at_) k) + 0))), (0, Value.ref (a 0))]) hx hb dX6_waiting_28 hl (k := 1) rfl (nI_add k 1) (by decide) rfl (fun ls hl => ?_)
          refine lv_goto (tgt := 4) hx hb dX6_waiting_31 (by decide) ?_
          have eq2_0 : nI ((fb_ct (wtM aw at_) k) + 0) = nI (fb_ct (wtM aw at_) (k + 1)) := by
            first
            | with_reducible rfl
            | rw [fb_ct_succ, if_pos c18]
            | (rw [fb_ct_succ, c18]; rfl)
          have hl := lv_sub hl [0, 1, 2] rfl
          have hl : lv_has ls 3 [(2, Value.int (nI (k + 1))), (1, Value.int (nI ((fb_ct (wtM aw at_) k) + 0))), (0, Value.ref (a 0))] := hl
          have hl : lv_has ls 3 [(2, Value.int (nI (k + 1))), (1, Value.int (nI (fb_ct (wtM aw at_) (k + 1)))), (0, Value.ref (a 0))] := lv_as hl (congrArg (fun z => [(2, Value.int (nI (k + 1))), (1, Value.int z), (0, Value.ref (a 0))]) eq2_0)
          exact ih4 (k + 1) (by omega) (by omega) _ _ _ hP hD hS hl
        · have c18 := bI_1 c18
          refine lv_iconst (v := (1 : Int32)) hx hb dX6_waiting_21 (by decide) ?_
          refine lv_goto (tgt := 26) hx hb dX6_waiting_22 (by decide) ?_
          refine lv_iadd hx hb dX6_waiting_26 ?_
          refine zr_top (y := nI ((fb_ct (wtM aw at_) k) + 1)) (nI_add (fb_ct (wtM aw at_) k) 1) ?_
          refine lv_istore_n (lv' := [(1, Value.int (nI ((fb_ct (wtM aw at_) k) + 1))), (2, Value.int (nI k)), (0, Value.ref (a 0))]) hx hb dX6_waiting_27 rfl hl (by decide) rfl (fun ls hl => ?_)
          refine lv_iinc (v := nI (k + 1)) (lv' := [(2, Value.int (nI (k + 1))), (1, Value.int (nI ((fb_ct (wtM aw at_) k) + 1))), (0, Value.ref (a 0))]) hx hb dX6_waiting_28 hl (k := 1) rfl (nI_add k 1) (by decide) rfl (fun ls hl => ?_)
          refine lv_goto (tgt := 4) hx hb dX6_waiting_31 (by decide) ?_
          have eq3_0 : nI ((fb_ct (wtM aw at_) k) + 1) = nI (fb_ct (wtM aw at_) (k + 1)) := by
            first
            | with_reducible rfl
            | rw [fb_ct_succ, if_pos c18]
            | (rw [fb_ct_succ, c18]; rfl)
          have hl := lv_sub hl [0, 1, 2] rfl
          have hl : lv_has ls 3 [(2, Value.int (nI (k + 1))), (1, Value.int (nI ((fb_ct (wtM aw at_) k) + 1))), (0, Value.ref (a 0))] := hl
          have hl : lv_has ls 3 [(2, Value.int (nI (k + 1))), (1, Value.int (nI (fb_ct (wtM aw at_) (k + 1)))), (0, Value.ref (a 0))] := lv_as hl (congrArg (fun z => [(2, Value.int (nI (k + 1))), (1, Value.int z), (0, Value.ref (a 0))]) eq3_0)
          exact ih4 (k + 1) (by omega) (by omega) _ _ _ hP hD hS hl
  have eq4_0 : (0 : Int32) = nI 0 := by
    rfl
  have eq5_1 : (0 : Int32) = nI (fb_ct (wtM aw at_) 0) := by
    rfl
  have hl := lv_sub hl [0, 1, 2] rfl
  have hl : lv_has ls 3 [(2, Value.int (0 : Int32)), (1, Value.int (0 : Int32)), (0, Value.ref (a 0))] := hl
  have hl : lv_has ls 3 [(2, Value.int (nI 0)), (1, Value.int (0 : Int32)), (0, Value.ref (a 0))] := lv_as hl (congrArg (fun z => [(2, Value.int z), (1, Value.int (0 : Int32)), (0, Value.ref (a 0))]) eq4_0)
  have hl : lv_has ls 3 [(2, Value.int (nI 0)), (1, Value.int (nI (fb_ct (wtM aw at_) 0))), (0, Value.ref (a 0))] := lv_as hl (congrArg (fun z => [(2, Value.int (nI 0)), (1, Value.int z), (0, Value.ref (a 0))]) eq5_1)
  exact LP4 (no - 0 + 1) 0 (by omega) (Nat.lt_succ_self _) _ _ _ hP hD hS hl
set_option maxHeartbeats 800000 in
set_option maxRecDepth 100000 in
theorem c_X6_comeBack (l : Launch) (D : va_G) (y : Nat → ClassId) (a : Nat → Nat) (mth : Int32) (t : Nat) (tb tf ts cap clr mov hom : Int32) (wm : Int64) (nw : Nat) (wf wt : Nat → Int32) (nb : Nat) (fr bw bl : Nat → Int32) (no : Nat) (od ow ol ork olf oco at_ aw : Nat → Int32) (mp : Int32) (mpl msh msl mwa mse : Nat → Int32) (b : Int32) (hb8 : no ≤ 8) : zP l D y yX6_comeBack cX6_comeBack 2 (some .int) 2 0 0 43 [Value.ref (a 0), Value.int b] (wM a y mth (nI t) tb tf ts cap clr mov hom wm (nI nw) wf wt (nI nb) fr bw bl (nI no) od ow ol ork olf oco at_ aw mp mpl msh msl mwa mse) (fun o9 w9 => (cbM no aw b = 0 ∧ o9 = some (Value.int (nI (fb_ct (wtM (upd aw (nN b) (0 : Int32)) at_) no))) ∧ w9 = wM a y (0 : Int32) (nI t) tb tf ts cap clr mov hom wm (nI nw) wf wt (nI nb) fr bw bl (nI no) od ow ol ork olf oco at_ (upd aw (nN b) (0 : Int32)) mp mpl msh msl mwa mse) ∨ (cbM no aw b ≠ 0 ∧ ∃ r9, o9 = some (Value.int r9) ∧ w9 = wM a y (nI (cbM no aw b)) (nI t) tb tf ts cap clr mov hom wm (nI nw) wf wt (nI nb) fr bw bl (nI no) od ow ol ork olf oco at_ aw mp mpl msh msl mwa mse)) := by
  refine zP.of (by decide +kernel) (Nat.le_of_ble_eq_true rfl) ?_
  intro p e s m args below meth c A ls hx hb hr hta hown hlocks hml hin hN hK hP hD hS hA hl
  refine z_gen (fun G hG => ?_)
  have hl : lv_has ls 2 [(0, Value.ref (a 0)), (1, Value.int b)] := hl
  refine lv_aload_n hx hb dX6_comeBack_0 rfl (lv_at hl 0 rfl) ?_
  refine lv_iload_n hx hb dX6_comeBack_1 rfl (lv_at hl 1 rfl) ?_
  refine z_callV (As := [Value.int b]) (rest := []) hx hb hml hown hta zm_X6_isBoat wd_14_10 (c_X6_isBoat l D y a mth t tb tf ts cap clr mov hom wm nw wf wt nb fr bw bl no od ow ol ork olf oco at_ aw mp mpl msh msl mwa mse b (by omega)) hN hK hP hD hS hA 0 rfl rfl rfl hl rfl (Nat.le_of_ble_eq_true rfl) ⟨Nat.le_of_ble_eq_true rfl, Nat.le_of_ble_eq_true rfl⟩ ⟨Nat.le_of_ble_eq_true rfl, Nat.le_of_ble_eq_true rfl⟩ dX6_comeBack_2 (fun v w' H locs hq hP hD hS => ?_)
  obtain ⟨rfl, rfl⟩ := hq
  refine lv_if_ne (tgt := 14) hx hb dX6_comeBack_5 (by decide) (fun c5 => ?_) (fun c5 => ?_)
  · have c5 := bI_1 c5
    obtain ⟨j, hj, rfl⟩ := (inB_iff (by omega)).mp c5
    have ej : nN (nI j) = j := nI_clamp (by omega)
    refine lv_aload_n hx hb dX6_comeBack_14 rfl (lv_at hl 0 rfl) ?_
    refine gM6_isAway hx hb hta hown hK hP wd_5_8 dX6_comeBack_15 ?_
    refine lv_iload_n hx hb dX6_comeBack_18 rfl (lv_at hl 1 rfl) ?_
    refine aM_aw hx hb hK hP j rfl (by omega) dX6_comeBack_19 ?_
    refine lv_if_ne (tgt := 29) hx hb dX6_comeBack_20 (by decide) (fun c20 => ?_) (fun c20 => ?_)
    · refine lv_aload_n hx hb dX6_comeBack_29 rfl (lv_at hl 0 rfl) ?_
      refine gM6_isAway hx hb hta hown hK hP wd_5_8 dX6_comeBack_30 ?_
      refine lv_iload_n hx hb dX6_comeBack_33 rfl (lv_at hl 1 rfl) ?_
      refine lv_iconst (v := (0 : Int32)) hx hb dX6_comeBack_34 (by decide) ?_
      refine sM_aw hx hb hK hP hD hS j rfl (by omega) (by decide) dX6_comeBack_35 (fun H locs hP hD hS => ?_)
      refine lv_aload_n hx hb dX6_comeBack_36 rfl (lv_at hl 0 rfl) ?_
      refine lv_aload_n hx hb dX6_comeBack_37 rfl (lv_at hl 0 rfl) ?_
      refine z_callV (As := []) (rest := [Value.ref (a 0)]) hx hb hml hown hta zm_X6_waiting wd_22_17 (c_X6_waiting l D y a mth t tb tf ts cap clr mov hom wm nw wf wt nb fr bw bl no od ow ol ork olf oco at_ (upd aw j (0 : Int32)) mp mpl msh msl mwa mse (by omega)) hN hK hP hD hS hA 0 rfl rfl rfl hl rfl (Nat.le_of_ble_eq_true rfl) ⟨Nat.le_of_ble_eq_true rfl, Nat.le_of_ble_eq_true rfl⟩ ⟨Nat.le_of_ble_eq_true rfl, Nat.le_of_ble_eq_true rfl⟩ dX6_comeBack_38 (fun v w' H locs hq hP hD hS => ?_)
      obtain ⟨rfl, rfl⟩ := hq
      refine z_callV (As := [Value.int (nI (fb_ct (wtM (upd aw j (0 : Int32)) at_) no))]) (rest := []) hx hb hml hown hta zm_X6_tells wd_7_13 (c_X6_tells l D y a mth t tb tf ts cap clr mov hom wm nw wf wt nb fr bw bl no od ow ol ork olf oco at_ (upd aw j (0 : Int32)) mp mpl msh msl mwa mse (nI (fb_ct (wtM (upd aw j (0 : Int32)) at_) no))) hN hK hP hD hS hA 0 rfl rfl rfl hl rfl (Nat.le_of_ble_eq_true rfl) ⟨Nat.le_of_ble_eq_true rfl, Nat.le_of_ble_eq_true rfl⟩ ⟨Nat.le_of_ble_eq_true rfl, Nat.le_of_ble_eq_true rfl⟩ dX6_comeBack_41 (fun v w' H locs hq hP hD hS => ?_)
      obtain ⟨rfl, rfl⟩ := hq
      refine z_iret hG hx hb hr hlocks hP hD hS (Nat.le_of_ble_eq_true rfl) (Nat.le_of_ble_eq_true rfl) dX6_comeBack_44 ?_
      refine Or.inl ⟨?_, congrArg (fun z => some (Value.int z)) ?_, ?_⟩
      · simp [cbM, c5, c20, ej]
      · rw [ej]
      · rw [ej]
    · refine lv_aload_n hx hb dX6_comeBack_23 rfl (lv_at hl 0 rfl) ?_
      refine lv_iconst (v := (2 : Int32)) hx hb dX6_comeBack_24 (by decide) ?_
      refine z_callV (As := [Value.int (2 : Int32)]) (rest := []) hx hb hml hown hta zm_X6_fails wd_7_8 (c_X6_fails l D y a mth t tb tf ts cap clr mov hom wm nw wf wt nb fr bw bl no od ow ol ork olf oco at_ aw mp mpl msh msl mwa mse (2 : Int32)) hN hK hP hD hS hA 0 rfl rfl rfl hl rfl (Nat.le_of_ble_eq_true rfl) ⟨Nat.le_of_ble_eq_true rfl, Nat.le_of_ble_eq_true rfl⟩ ⟨Nat.le_of_ble_eq_true rfl, Nat.le_of_ble_eq_true rfl⟩ dX6_comeBack_25 (fun v w' H locs hq hP hD hS => ?_)
      obtain ⟨rfl, rfl⟩ := hq
      refine z_iret hG hx hb hr hlocks hP hD hS (Nat.le_of_ble_eq_true rfl) (Nat.le_of_ble_eq_true rfl) dX6_comeBack_28 ?_
      have hcd : cbM no aw (nI j) = 2 := by
        simp [cbM, c5, c20, ej]
      exact Or.inr ⟨by rw [hcd]; decide, _, rfl, by rw [hcd]; rfl⟩
  · have c5 := bI_0 c5
    refine lv_aload_n hx hb dX6_comeBack_8 rfl (lv_at hl 0 rfl) ?_
    refine lv_iconst (v := (1 : Int32)) hx hb dX6_comeBack_9 (by decide) ?_
    refine z_callV (As := [Value.int (1 : Int32)]) (rest := []) hx hb hml hown hta zm_X6_fails wd_7_8 (c_X6_fails l D y a mth t tb tf ts cap clr mov hom wm nw wf wt nb fr bw bl no od ow ol ork olf oco at_ aw mp mpl msh msl mwa mse (1 : Int32)) hN hK hP hD hS hA 0 rfl rfl rfl hl rfl (Nat.le_of_ble_eq_true rfl) ⟨Nat.le_of_ble_eq_true rfl, Nat.le_of_ble_eq_true rfl⟩ ⟨Nat.le_of_ble_eq_true rfl, Nat.le_of_ble_eq_true rfl⟩ dX6_comeBack_10 (fun v w' H locs hq hP hD hS => ?_)
    obtain ⟨rfl, rfl⟩ := hq
    refine z_iret hG hx hb hr hlocks hP hD hS (Nat.le_of_ble_eq_true rfl) (Nat.le_of_ble_eq_true rfl) dX6_comeBack_13 ?_
    have hcd : cbM no aw b = 1 := by
      simp [cbM, c5]
    exact Or.inr ⟨by rw [hcd]; decide, _, rfl, by rw [hcd]; rfl⟩
set_option maxHeartbeats 800000 in
set_option maxRecDepth 100000 in
theorem c_X6_nextWaiting (l : Launch) (D : va_G) (y : Nat → ClassId) (a : Nat → Nat) (mth : Int32) (t : Nat) (tb tf ts cap clr mov hom : Int32) (wm : Int64) (nw : Nat) (wf wt : Nat → Int32) (nb : Nat) (fr bw bl : Nat → Int32) (no : Nat) (od ow ol ork olf oco at_ aw : Nat → Int32) (mp : Int32) (mpl msh msl mwa mse : Nat → Int32)  (hb8 : no ≤ 8) : zP l D y yX6_nextWaiting cX6_nextWaiting 3 (some .int) 1 0 0 21 [Value.ref (a 0)] (wM a y mth (nI t) tb tf ts cap clr mov hom wm (nI nw) wf wt (nI nb) fr bw bl (nI no) od ow ol ork olf oco at_ aw mp mpl msh msl mwa mse) (fun o9 w9 => (nwM no aw at_ ork ow = 0 ∧ o9 = some (Value.int (fI (fwM aw at_ ork ow no))) ∧ w9 = wM a y (0 : Int32) (nI t) tb tf ts cap clr mov hom wm (nI nw) wf wt (nI nb) fr bw bl (nI no) od ow ol ork olf oco at_ aw mp mpl msh msl mwa mse) ∨ (nwM no aw at_ ork ow ≠ 0 ∧ ∃ r9, o9 = some (Value.int r9) ∧ w9 = wM a y (nI (nwM no aw at_ ork ow)) (nI t) tb tf ts cap clr mov hom wm (nI nw) wf wt (nI nb) fr bw bl (nI no) od ow ol ork olf oco at_ aw mp mpl msh msl mwa mse)) := by
  refine zP.of (by decide +kernel) (Nat.le_of_ble_eq_true rfl) ?_
  intro p e s m args below meth c A ls hx hb hr hta hown hlocks hml hin hN hK hP hD hS hA hl
  refine z_gen (fun G hG => ?_)
  have hl : lv_has ls 3 [(0, Value.ref (a 0))] := hl
  refine lv_iconst (v := (-1 : Int32)) hx hb dX6_nextWaiting_0 (by decide) ?_
  refine lv_istore_n (lv' := [(1, Value.int (-1 : Int32)), (0, Value.ref (a 0))]) hx hb dX6_nextWaiting_1 rfl hl (by decide) rfl (fun ls hl => ?_)
  refine lv_iconst (v := (0 : Int32)) hx hb dX6_nextWaiting_2 (by decide) ?_
  refine lv_istore_n (lv' := [(2, Value.int (0 : Int32)), (1, Value.int (-1 : Int32)), (0, Value.ref (a 0))]) hx hb dX6_nextWaiting_3 rfl hl (by decide) rfl (fun ls hl => ?_)
  have LP4 : ∀ (n : Nat) (k : Nat), (k ≤ no) → no - k < n → ∀ (H : Heap) (locs : List Loc) (ls : Array Slot), va_P D vwCl (wM a y mth (nI t) tb tf ts cap clr mov hom wm (nI nw) wf wt (nI nb) fr bw bl (nI no) od ow ol ork olf oco at_ aw mp mpl msh msl mwa mse) H → va_D A (wM a y mth (nI t) tb tf ts cap clr mov hom wm (nI nw) wf wt (nI nb) fr bw bl (nI no) od ow ol ork olf oco at_ aw mp mpl msh msl mwa mse) → va_S A s.heap H locs → lv_has ls 3 [(2, Value.int (nI k)), (1, Value.int (fI (fwM aw at_ ork ow k))), (0, Value.ref (a 0))] → W p l e ({ frames := 1, cells := 0, slots := 0, locals := 21 } : Room) s m args below meth c H locs 0 0 G (F0 m 4 ls []) := by
    intro n
    induction n with
    | zero => intro k hk hn; exact absurd hn (Nat.not_lt_zero _)
    | succ n ih4 =>
      intro k hk hn H locs ls hP hD hS hl
      refine lv_iload_n hx hb dX6_nextWaiting_4 rfl (lv_at hl 0 rfl) ?_
      refine lv_aload_n hx hb dX6_nextWaiting_5 rfl (lv_at hl 2 rfl) ?_
      refine gM6_boats hx hb hta hown hK hP wd_8_13 dX6_nextWaiting_6 ?_
      refine lv_icmp_ge (tgt := 81) hx hb dX6_nextWaiting_9 (by decide) (fun c9 => ?_) (fun c9 => ?_)
      · have c9 : no ≤ k := (nI_leI (a := no) (b := k) (by omega) (by omega)).mp c9
        have hkn : k = no := by omega
        refine lv_iload_n hx hb dX6_nextWaiting_81 rfl (lv_at hl 1 rfl) ?_
        refine lv_iconst (v := (-1 : Int32)) hx hb dX6_nextWaiting_82 (by decide) ?_
        refine lv_icmp_ne (tgt := 94) hx hb dX6_nextWaiting_83 (by decide) (fun c83 => ?_) (fun c83 => ?_)
        · refine lv_aload_n hx hb dX6_nextWaiting_94 rfl (lv_at hl 2 rfl) ?_
          refine lv_iload_n hx hb dX6_nextWaiting_95 rfl (lv_at hl 1 rfl) ?_
          refine z_callV (As := [Value.int (fI (fwM aw at_ ork ow k))]) (rest := []) hx hb hml hown hta zm_X6_tells wd_7_13 (c_X6_tells l D y a mth t tb tf ts cap clr mov hom wm nw wf wt nb fr bw bl no od ow ol ork olf oco at_ aw mp mpl msh msl mwa mse (fI (fwM aw at_ ork ow k))) hN hK hP hD hS hA 0 rfl rfl rfl hl rfl (Nat.le_of_ble_eq_true rfl) ⟨Nat.le_of_ble_eq_true rfl, Nat.le_of_ble_eq_true rfl⟩ ⟨Nat.le_of_ble_eq_true rfl, Nat.le_of_ble_eq_true rfl⟩ dX6_nextWaiting_96 (fun v w' H locs hq hP hD hS => ?_)
          obtain ⟨rfl, rfl⟩ := hq
          refine z_iret hG hx hb hr hlocks hP hD hS (Nat.le_of_ble_eq_true rfl) (Nat.le_of_ble_eq_true rfl) dX6_nextWaiting_99 ?_
          refine Or.inl ⟨?_, congrArg (fun z => some (Value.int z)) ?_, ?_⟩
          · rw [nwM, if_neg (fun z => c83 (by rw [hkn, z]; rfl))]
          · rw [hkn]
          · rfl
        · refine lv_aload_n hx hb dX6_nextWaiting_86 rfl (lv_at hl 2 rfl) ?_
          refine lv_iconst (v := (1 : Int32)) hx hb dX6_nextWaiting_87 (by decide) ?_
          refine z_callV (As := [Value.int (1 : Int32)]) (rest := []) hx hb hml hown hta zm_X6_fails wd_7_8 (c_X6_fails l D y a mth t tb tf ts cap clr mov hom wm nw wf wt nb fr bw bl no od ow ol ork olf oco at_ aw mp mpl msh msl mwa mse (1 : Int32)) hN hK hP hD hS hA 0 rfl rfl rfl hl rfl (Nat.le_of_ble_eq_true rfl) ⟨Nat.le_of_ble_eq_true rfl, Nat.le_of_ble_eq_true rfl⟩ ⟨Nat.le_of_ble_eq_true rfl, Nat.le_of_ble_eq_true rfl⟩ dX6_nextWaiting_88 (fun v w' H locs hq hP hD hS => ?_)
          obtain ⟨rfl, rfl⟩ := hq
          refine lv_goto (tgt := 99) hx hb dX6_nextWaiting_91 (by decide) ?_
          refine z_iret hG hx hb hr hlocks hP hD hS (Nat.le_of_ble_eq_true rfl) (Nat.le_of_ble_eq_true rfl) dX6_nextWaiting_99 ?_
          have hcd : nwM no aw at_ ork ow = 1 := by
            rw [nwM, if_pos (fi_0 (by have := fwM_le aw at_ ork ow no; omega) (by rw [← hkn]; first | exact c83 | exact Decidable.not_not.mp c83))]
          exact Or.inr ⟨by rw [hcd]; decide, _, rfl, by rw [hcd]; rfl⟩
      · have c9 : ¬ no ≤ k := fun z => c9 ((nI_leI (a := no) (b := k) (by omega) (by omega)).mpr z)
        refine lv_aload_n hx hb dX6_nextWaiting_12 rfl (lv_at hl 2 rfl) ?_
        refine lv_iload_n hx hb dX6_nextWaiting_13 rfl (lv_at hl 0 rfl) ?_
        refine z_callV (As := [Value.int (nI k)]) (rest := []) hx hb hml hown hta zm_X6_waits wd_22_21 (c_X6_waits l D y a mth t tb tf ts cap clr mov hom wm nw wf wt nb fr bw bl no od ow ol ork olf oco at_ aw mp mpl msh msl mwa mse k (by omega)) hN hK hP hD hS hA 0 rfl rfl rfl hl rfl (Nat.le_of_ble_eq_true rfl) ⟨Nat.le_of_ble_eq_true rfl, Nat.le_of_ble_eq_true rfl⟩ ⟨Nat.le_of_ble_eq_true rfl, Nat.le_of_ble_eq_true rfl⟩ dX6_nextWaiting_14 (fun v w' H locs hq hP hD hS => ?_)
        obtain ⟨rfl, rfl⟩ := hq
        refine lv_if_ne (tgt := 23) hx hb dX6_nextWaiting_17 (by decide) (fun c17 => ?_) (fun c17 => ?_)
        · have c17 := bI_1 c17
          refine lv_iload_n hx hb dX6_nextWaiting_23 rfl (lv_at hl 1 rfl) ?_
          refine lv_iconst (v := (-1 : Int32)) hx hb dX6_nextWaiting_24 (by decide) ?_
          refine lv_icmp_eq (tgt := 73) hx hb dX6_nextWaiting_25 (by decide) (fun c25 => ?_) (fun c25 => ?_)
          · refine lv_iload_n hx hb dX6_nextWaiting_73 rfl (lv_at hl 0 rfl) ?_
            refine lv_istore_n (lv' := [(1, Value.int (nI k)), (2, Value.int (nI k)), (0, Value.ref (a 0))]) hx hb dX6_nextWaiting_74 rfl hl (by decide) rfl (fun ls hl => ?_)
            refine lv_iinc (v := nI (k + 1)) (lv' := [(2, Value.int (nI (k + 1))), (1, Value.int (nI k)), (0, Value.ref (a 0))]) hx hb dX6_nextWaiting_75 hl (k := 1) rfl (nI_add k 1) (by decide) rfl (fun ls hl => ?_)
            refine lv_goto (tgt := 4) hx hb dX6_nextWaiting_78 (by decide) ?_
            have eq4_0 : nI k = fI (fwM aw at_ ork ow (k + 1)) := by
              first
              | with_reducible rfl
              | (rw [fwM, c17, if_neg Bool.false_ne_true])
              | (rw [fwM, if_pos c17, if_pos (fi_0 (by have := fwM_le aw at_ ork ow k; omega) c25)]; rfl)
              | (rw [fwM, if_pos c17, if_neg hf0, if_pos (gb_a c40)]; rfl)
              | (rw [fwM, if_pos c17, if_neg hf0, if_neg (by rw [gb_b c40 c55]; decide)])
              | (rw [fwM, if_pos c17, if_neg hf0, if_neg (by rw [gb_c c55 c70]; decide)])
              | (rw [fwM, if_pos c17, if_neg hf0, if_pos (gb_d c55 c70)]; rfl)
            have hl := lv_sub hl [0, 1, 2] rfl
            have hl : lv_has ls 3 [(2, Value.int (nI (k + 1))), (1, Value.int (nI k)), (0, Value.ref (a 0))] := hl
            have hl : lv_has ls 3 [(2, Value.int (nI (k + 1))), (1, Value.int (fI (fwM aw at_ ork ow (k + 1)))), (0, Value.ref (a 0))] := lv_as hl (congrArg (fun z => [(2, Value.int (nI (k + 1))), (1, Value.int z), (0, Value.ref (a 0))]) eq4_0)
            exact ih4 (k + 1) (by omega) (by omega) _ _ _ hP hD hS hl
          · have hfl := fwM_le aw at_ ork ow k
            have hf0 : fwM aw at_ ork ow k ≠ 0 := fun z => c25 (by rw [z]; rfl)
            have ef : fI (fwM aw at_ ork ow k) = nI (fwM aw at_ ork ow k - 1) := by
              cases hz : fwM aw at_ ork ow k with
              | zero => exact absurd hz hf0
              | succ z => rfl
            refine lv_aload_n hx hb dX6_nextWaiting_28 rfl (lv_at hl 2 rfl) ?_
            refine gM6_rank hx hb hta hown hK hP wd_5_3 dX6_nextWaiting_29 ?_
            refine lv_iload_n hx hb dX6_nextWaiting_32 rfl (lv_at hl 0 rfl) ?_
            refine aM_ork hx hb hK hP k rfl (by omega) dX6_nextWaiting_33 ?_
            refine lv_aload_n hx hb dX6_nextWaiting_34 rfl (lv_at hl 2 rfl) ?_
            refine gM6_rank hx hb hta hown hK hP wd_5_3 dX6_nextWaiting_35 ?_
            refine lv_iload_n hx hb dX6_nextWaiting_38 rfl (lv_at hl 1 rfl) ?_
            refine zr_top (y := nI (fwM aw at_ ork ow k - 1)) ef ?_
            refine aM_ork hx hb hK hP (fwM aw at_ ork ow k - 1) rfl (by omega) dX6_nextWaiting_39 ?_
            refine lv_icmp_gt (tgt := 73) hx hb dX6_nextWaiting_40 (by decide) (fun c40 => ?_) (fun c40 => ?_)
            · refine lv_iload_n hx hb dX6_nextWaiting_73 rfl (lv_at hl 0 rfl) ?_
              refine lv_istore_n (lv' := [(1, Value.int (nI k)), (2, Value.int (nI k)), (0, Value.ref (a 0))]) hx hb dX6_nextWaiting_74 rfl hl (by decide) rfl (fun ls hl => ?_)
              refine lv_iinc (v := nI (k + 1)) (lv' := [(2, Value.int (nI (k + 1))), (1, Value.int (nI k)), (0, Value.ref (a 0))]) hx hb dX6_nextWaiting_75 hl (k := 1) rfl (nI_add k 1) (by decide) rfl (fun ls hl => ?_)
              refine lv_goto (tgt := 4) hx hb dX6_nextWaiting_78 (by decide) ?_
              have eq5_0 : nI k = fI (fwM aw at_ ork ow (k + 1)) := by
                first
                | with_reducible rfl
                | (rw [fwM, c17, if_neg Bool.false_ne_true])
                | (rw [fwM, if_pos c17, if_pos (fi_0 (by have := fwM_le aw at_ ork ow k; omega) c25)]; rfl)
                | (rw [fwM, if_pos c17, if_neg hf0, if_pos (gb_a c40)]; rfl)
                | (rw [fwM, if_pos c17, if_neg hf0, if_neg (by rw [gb_b c40 c55]; decide)])
                | (rw [fwM, if_pos c17, if_neg hf0, if_neg (by rw [gb_c c55 c70]; decide)])
                | (rw [fwM, if_pos c17, if_neg hf0, if_pos (gb_d c55 c70)]; rfl)
              have hl := lv_sub hl [0, 1, 2] rfl
              have hl : lv_has ls 3 [(2, Value.int (nI (k + 1))), (1, Value.int (nI k)), (0, Value.ref (a 0))] := hl
              have hl : lv_has ls 3 [(2, Value.int (nI (k + 1))), (1, Value.int (fI (fwM aw at_ ork ow (k + 1)))), (0, Value.ref (a 0))] := lv_as hl (congrArg (fun z => [(2, Value.int (nI (k + 1))), (1, Value.int z), (0, Value.ref (a 0))]) eq5_0)
              exact ih4 (k + 1) (by omega) (by omega) _ _ _ hP hD hS hl
            · refine lv_aload_n hx hb dX6_nextWaiting_43 rfl (lv_at hl 2 rfl) ?_
              refine gM6_rank hx hb hta hown hK hP wd_5_3 dX6_nextWaiting_44 ?_
              refine lv_iload_n hx hb dX6_nextWaiting_47 rfl (lv_at hl 0 rfl) ?_
              refine aM_ork hx hb hK hP k rfl (by omega) dX6_nextWaiting_48 ?_
              refine lv_aload_n hx hb dX6_nextWaiting_49 rfl (lv_at hl 2 rfl) ?_
              refine gM6_rank hx hb hta hown hK hP wd_5_3 dX6_nextWaiting_50 ?_
              refine lv_iload_n hx hb dX6_nextWaiting_53 rfl (lv_at hl 1 rfl) ?_
              refine zr_top (y := nI (fwM aw at_ ork ow k - 1)) ef ?_
              refine aM_ork hx hb hK hP (fwM aw at_ ork ow k - 1) rfl (by omega) dX6_nextWaiting_54 ?_
              refine lv_icmp_ne (tgt := 75) hx hb dX6_nextWaiting_55 (by decide) (fun c55 => ?_) (fun c55 => ?_)
              · refine lv_iinc (v := nI (k + 1)) (lv' := [(2, Value.int (nI (k + 1))), (1, Value.int (fI (fwM aw at_ ork ow k))), (0, Value.ref (a 0))]) hx hb dX6_nextWaiting_75 hl (k := 0) rfl (nI_add k 1) (by decide) rfl (fun ls hl => ?_)
                refine lv_goto (tgt := 4) hx hb dX6_nextWaiting_78 (by decide) ?_
                have eq6_0 : fI (fwM aw at_ ork ow k) = fI (fwM aw at_ ork ow (k + 1)) := by
                  first
                  | with_reducible rfl
                  | (rw [fwM, c17, if_neg Bool.false_ne_true])
                  | (rw [fwM, if_pos c17, if_pos (fi_0 (by have := fwM_le aw at_ ork ow k; omega) c25)]; rfl)
                  | (rw [fwM, if_pos c17, if_neg hf0, if_pos (gb_a c40)]; rfl)
                  | (rw [fwM, if_pos c17, if_neg hf0, if_neg (by rw [gb_b c40 c55]; decide)])
                  | (rw [fwM, if_pos c17, if_neg hf0, if_neg (by rw [gb_c c55 c70]; decide)])
                  | (rw [fwM, if_pos c17, if_neg hf0, if_pos (gb_d c55 c70)]; rfl)
                have hl := lv_sub hl [0, 1, 2] rfl
                have hl : lv_has ls 3 [(2, Value.int (nI (k + 1))), (1, Value.int (fI (fwM aw at_ ork ow k))), (0, Value.ref (a 0))] := hl
                have hl : lv_has ls 3 [(2, Value.int (nI (k + 1))), (1, Value.int (fI (fwM aw at_ ork ow (k + 1)))), (0, Value.ref (a 0))] := lv_as hl (congrArg (fun z => [(2, Value.int (nI (k + 1))), (1, Value.int z), (0, Value.ref (a 0))]) eq6_0)
                exact ih4 (k + 1) (by omega) (by omega) _ _ _ hP hD hS hl
              · refine lv_aload_n hx hb dX6_nextWaiting_58 rfl (lv_at hl 2 rfl) ?_
                refine gM6_weight hx hb hta hown hK hP wd_5_1 dX6_nextWaiting_59 ?_
                refine lv_iload_n hx hb dX6_nextWaiting_62 rfl (lv_at hl 0 rfl) ?_
                refine aM_ow hx hb hK hP k rfl (by omega) dX6_nextWaiting_63 ?_
                refine lv_aload_n hx hb dX6_nextWaiting_64 rfl (lv_at hl 2 rfl) ?_
                refine gM6_weight hx hb hta hown hK hP wd_5_1 dX6_nextWaiting_65 ?_
                refine lv_iload_n hx hb dX6_nextWaiting_68 rfl (lv_at hl 1 rfl) ?_
                refine zr_top (y := nI (fwM aw at_ ork ow k - 1)) ef ?_
                refine aM_ow hx hb hK hP (fwM aw at_ ork ow k - 1) rfl (by omega) dX6_nextWaiting_69 ?_
                refine lv_icmp_ge (tgt := 75) hx hb dX6_nextWaiting_70 (by decide) (fun c70 => ?_) (fun c70 => ?_)
                · refine lv_iinc (v := nI (k + 1)) (lv' := [(2, Value.int (nI (k + 1))), (1, Value.int (fI (fwM aw at_ ork ow k))), (0, Value.ref (a 0))]) hx hb dX6_nextWaiting_75 hl (k := 0) rfl (nI_add k 1) (by decide) rfl (fun ls hl => ?_)
                  refine lv_goto (tgt := 4) hx hb dX6_nextWaiting_78 (by decide) ?_
                  have eq7_0 : fI (fwM aw at_ ork ow k) = fI (fwM aw at_ ork ow (k + 1)) := by
                    first
                    | with_reducible rfl
                    | (rw [fwM, c17, if_neg Bool.false_ne_true])
                    | (rw [fwM, if_pos c17, if_pos (fi_0 (by have := fwM_le aw at_ ork ow k; omega) c25)]; rfl)
                    | (rw [fwM, if_pos c17, if_neg hf0, if_pos (gb_a c40)]; rfl)
                    | (rw [fwM, if_pos c17, if_neg hf0, if_neg (by rw [gb_b c40 c55]; decide)])
                    | (rw [fwM, if_pos c17, if_neg hf0, if_neg (by rw [gb_c c55 c70]; decide)])
                    | (rw [fwM, if_pos c17, if_neg hf0, if_pos (gb_d c55 c70)]; rfl)
                  have hl := lv_sub hl [0, 1, 2] rfl
                  have hl : lv_has ls 3 [(2, Value.int (nI (k + 1))), (1, Value.int (fI (fwM aw at_ ork ow k))), (0, Value.ref (a 0))] := hl
                  have hl : lv_has ls 3 [(2, Value.int (nI (k + 1))), (1, Value.int (fI (fwM aw at_ ork ow (k + 1)))), (0, Value.ref (a 0))] := lv_as hl (congrArg (fun z => [(2, Value.int (nI (k + 1))), (1, Value.int z), (0, Value.ref (a 0))]) eq7_0)
                  exact ih4 (k + 1) (by omega) (by omega) _ _ _ hP hD hS hl
                · refine lv_iload_n hx hb dX6_nextWaiting_73 rfl (lv_at hl 0 rfl) ?_
                  refine lv_istore_n (lv' := [(1, Value.int (nI k)), (2, Value.int (nI k)), (0, Value.ref (a 0))]) hx hb dX6_nextWaiting_74 rfl hl (by decide) rfl (fun ls hl => ?_)
                  refine lv_iinc (v := nI (k + 1)) (lv' := [(2, Value.int (nI (k + 1))), (1, Value.int (nI k)), (0, Value.ref (a 0))]) hx hb dX6_nextWaiting_75 hl (k := 1) rfl (nI_add k 1) (by decide) rfl (fun ls hl => ?_)
                  refine lv_goto (tgt := 4) hx hb dX6_nextWaiting_78 (by decide) ?_
                  have eq8_0 : nI k = fI (fwM aw at_ ork ow (k + 1)) := by
                    first
                    | with_reducible rfl
                    | (rw [fwM, c17, if_neg Bool.false_ne_true])
                    | (rw [fwM, if_pos c17, if_pos (fi_0 (by have := fwM_le aw at_ ork ow k; omega) c25)]; rfl)
                    | (rw [fwM, if_pos c17, if_neg hf0, if_pos (gb_a c40)]; rfl)
                    | (rw [fwM, if_pos c17, if_neg hf0, if_neg (by rw [gb_b c40 c55]; decide)])
                    | (rw [fwM, if_pos c17, if_neg hf0, if_neg (by rw [gb_c c55 c70]; decide)])
                    | (rw [fwM, if_pos c17, if_neg hf0, if_pos (gb_d c55 c70)]; rfl)
                  have hl := lv_sub hl [0, 1, 2] rfl
                  have hl : lv_has ls 3 [(2, Value.int (nI (k + 1))), (1, Value.int (nI k)), (0, Value.ref (a 0))] := hl
                  have hl : lv_has ls 3 [(2, Value.int (nI (k + 1))), (1, Value.int (fI (fwM aw at_ ork ow (k + 1)))), (0, Value.ref (a 0))] := lv_as hl (congrArg (fun z => [(2, Value.int (nI (k + 1))), (1, Value.int z), (0, Value.ref (a 0))]) eq8_0)
                  exact ih4 (k + 1) (by omega) (by omega) _ _ _ hP hD hS hl
        · have c17 := bI_0 c17
          refine lv_goto (tgt := 75) hx hb dX6_nextWaiting_20 (by decide) ?_
          refine lv_iinc (v := nI (k + 1)) (lv' := [(2, Value.int (nI (k + 1))), (1, Value.int (fI (fwM aw at_ ork ow k))), (0, Value.ref (a 0))]) hx hb dX6_nextWaiting_75 hl (k := 0) rfl (nI_add k 1) (by decide) rfl (fun ls hl => ?_)
          refine lv_goto (tgt := 4) hx hb dX6_nextWaiting_78 (by decide) ?_
          have eq9_0 : fI (fwM aw at_ ork ow k) = fI (fwM aw at_ ork ow (k + 1)) := by
            first
            | with_reducible rfl
            | (rw [fwM, c17, if_neg Bool.false_ne_true])
            | (rw [fwM, if_pos c17, if_pos (fi_0 (by have := fwM_le aw at_ ork ow k; omega) c25)]; rfl)
            | (rw [fwM, if_pos c17, if_neg hf0, if_pos (gb_a c40)]; rfl)
            | (rw [fwM, if_pos c17, if_neg hf0, if_neg (by rw [gb_b c40 c55]; decide)])
            | (rw [fwM, if_pos c17, if_neg hf0, if_neg (by rw [gb_c c55 c70]; decide)])
            | (rw [fwM, if_pos c17, if_neg hf0, if_pos (gb_d c55 c70)]; rfl)
          have hl := lv_sub hl [0, 1, 2] rfl
          have hl : lv_has ls 3 [(2, Value.int (nI (k + 1))), (1, Value.int (fI (fwM aw at_ ork ow k))), (0, Value.ref (a 0))] := hl
          have hl : lv_has ls 3 [(2, Value.int (nI (k + 1))), (1, Value.int (fI (fwM aw at_ ork ow (k + 1)))), (0, Value.ref (a 0))] := lv_as hl (congrArg (fun z => [(2, Value.int (nI (k + 1))), (1, Value.int z), (0, Value.ref (a 0))]) eq9_0)
          exact ih4 (k + 1) (by omega) (by omega) _ _ _ hP hD hS hl
  have eq10_0 : (0 : Int32) = nI 0 := by
    rfl
  have eq11_1 : (-1 : Int32) = fI (fwM aw at_ ork ow 0) := by
    rfl
  have hl := lv_sub hl [0, 1, 2] rfl
  have hl : lv_has ls 3 [(2, Value.int (0 : Int32)), (1, Value.int (-1 : Int32)), (0, Value.ref (a 0))] := hl
  have hl : lv_has ls 3 [(2, Value.int (nI 0)), (1, Value.int (-1 : Int32)), (0, Value.ref (a 0))] := lv_as hl (congrArg (fun z => [(2, Value.int z), (1, Value.int (-1 : Int32)), (0, Value.ref (a 0))]) eq10_0)
  have hl : lv_has ls 3 [(2, Value.int (nI 0)), (1, Value.int (fI (fwM aw at_ ork ow 0))), (0, Value.ref (a 0))] := lv_as hl (congrArg (fun z => [(2, Value.int (nI 0)), (1, Value.int z), (0, Value.ref (a 0))]) eq11_1)
  exact LP4 (no - 0 + 1) 0 (by omega) (Nat.lt_succ_self _) _ _ _ hP hD hS hl
set_option maxHeartbeats 800000 in
set_option maxRecDepth 100000 in
theorem c_X6_state (l : Launch) (D : va_G) (y : Nat → ClassId) (a : Nat → Nat) (mth : Int32) (t : Nat) (tb tf ts cap clr mov hom : Int32) (wm : Int64) (nw : Nat) (wf wt : Nat → Int32) (nb : Nat) (fr bw bl : Nat → Int32) (no : Nat) (od ow ol ork olf oco at_ aw : Nat → Int32) (mp : Int32) (mpl msh msl mwa mse : Nat → Int32) (b : Int32) (hb8 : no ≤ 8) : zP l D y yX6_state cX6_state 2 (some .char) 2 0 0 43 [Value.ref (a 0), Value.int b] (wM a y mth (nI t) tb tf ts cap clr mov hom wm (nI nw) wf wt (nI nb) fr bw bl (nI no) od ow ol ork olf oco at_ aw mp mpl msh msl mwa mse) (fun o9 w9 => (boC no b = 0 ∧ o9 = some (Value.int (stM aw at_ (nN b))) ∧ w9 = wM a y (0 : Int32) (nI t) tb tf ts cap clr mov hom wm (nI nw) wf wt (nI nb) fr bw bl (nI no) od ow ol ork olf oco at_ aw mp mpl msh msl mwa mse) ∨ (boC no b ≠ 0 ∧ ∃ r9, o9 = some (Value.int r9) ∧ w9 = wM a y (nI (boC no b)) (nI t) tb tf ts cap clr mov hom wm (nI nw) wf wt (nI nb) fr bw bl (nI no) od ow ol ork olf oco at_ aw mp mpl msh msl mwa mse)) := by
  refine zP.of (by decide +kernel) (Nat.le_of_ble_eq_true rfl) ?_
  intro p e s m args below meth c A ls hx hb hr hta hown hlocks hml hin hN hK hP hD hS hA hl
  refine z_gen (fun G hG => ?_)
  have hl : lv_has ls 2 [(0, Value.ref (a 0)), (1, Value.int b)] := hl
  refine lv_aload_n hx hb dX6_state_0 rfl (lv_at hl 0 rfl) ?_
  refine lv_aload_n hx hb dX6_state_1 rfl (lv_at hl 0 rfl) ?_
  refine lv_iload_n hx hb dX6_state_2 rfl (lv_at hl 1 rfl) ?_
  refine z_callV (As := [Value.int b]) (rest := [Value.ref (a 0)]) hx hb hml hown hta zm_X6_isBoat wd_14_10 (c_X6_isBoat l D y a mth t tb tf ts cap clr mov hom wm nw wf wt nb fr bw bl no od ow ol ork olf oco at_ aw mp mpl msh msl mwa mse b (by omega)) hN hK hP hD hS hA 0 rfl rfl rfl hl rfl (Nat.le_of_ble_eq_true rfl) ⟨Nat.le_of_ble_eq_true rfl, Nat.le_of_ble_eq_true rfl⟩ ⟨Nat.le_of_ble_eq_true rfl, Nat.le_of_ble_eq_true rfl⟩ dX6_state_3 (fun v w' H locs hq hP hD hS => ?_)
  obtain ⟨rfl, rfl⟩ := hq
  refine lv_if_eq (tgt := 13) hx hb dX6_state_6 (by decide) (fun c6 => ?_) (fun c6 => ?_)
  · have c6 := bI_0 c6
    refine lv_iconst (v := (1 : Int32)) hx hb dX6_state_13 (by decide) ?_
    refine pM6_thrown hx hb hta hown hK hP hD hS wd_7_12 dX6_state_14 (fun H locs hP hD hS => ?_)
    refine lv_aload_n hx hb dX6_state_17 rfl (lv_at hl 0 rfl) ?_
    refine gM6_thrown hx hb hta hown hK hP wd_7_12 dX6_state_18 ?_
    refine lv_if_le (tgt := 29) hx hb dX6_state_21 (by decide) (fun c21 => ?_) (fun c21 => ?_)
    · exact absurd c21 (by decide)
    · refine lv_bipush (v := (97 : Int32)) hx hb dX6_state_24 (by decide) ?_
      refine lv_goto (tgt := 59) hx hb dX6_state_26 (by decide) ?_
      refine z_zret hG hx hb hr hlocks hP hD hS (Nat.le_of_ble_eq_true rfl) (Nat.le_of_ble_eq_true rfl) dX6_state_59 ?_ ?_
      · rfl
      · have hcd : boC no b = 1 := by
          simp [boC, c6]
        exact Or.inr ⟨by rw [hcd]; decide, _, rfl, by rw [hcd]; rfl⟩
  · have c6 := bI_1 c6
    refine lv_iconst (v := (0 : Int32)) hx hb dX6_state_9 (by decide) ?_
    refine lv_goto (tgt := 14) hx hb dX6_state_10 (by decide) ?_
    refine pM6_thrown hx hb hta hown hK hP hD hS wd_7_12 dX6_state_14 (fun H locs hP hD hS => ?_)
    refine lv_aload_n hx hb dX6_state_17 rfl (lv_at hl 0 rfl) ?_
    refine gM6_thrown hx hb hta hown hK hP wd_7_12 dX6_state_18 ?_
    refine lv_if_le (tgt := 29) hx hb dX6_state_21 (by decide) (fun c21 => ?_) (fun c21 => ?_)
    · obtain ⟨j, hj, rfl⟩ := (inB_iff (by omega)).mp c6
      have ej : nN (nI j) = j := nI_clamp (by omega)
      refine lv_aload_n hx hb dX6_state_29 rfl (lv_at hl 0 rfl) ?_
      refine lv_iload_n hx hb dX6_state_30 rfl (lv_at hl 1 rfl) ?_
      refine z_callV (As := [Value.int (nI j)]) (rest := []) hx hb hml hown hta zm_X6_waits wd_22_21 (c_X6_waits l D y a (0 : Int32) t tb tf ts cap clr mov hom wm nw wf wt nb fr bw bl no od ow ol ork olf oco at_ aw mp mpl msh msl mwa mse j (by omega)) hN hK hP hD hS hA 0 rfl rfl rfl hl rfl (Nat.le_of_ble_eq_true rfl) ⟨Nat.le_of_ble_eq_true rfl, Nat.le_of_ble_eq_true rfl⟩ ⟨Nat.le_of_ble_eq_true rfl, Nat.le_of_ble_eq_true rfl⟩ dX6_state_31 (fun v w' H locs hq hP hD hS => ?_)
      obtain ⟨rfl, rfl⟩ := hq
      refine lv_if_eq (tgt := 42) hx hb dX6_state_34 (by decide) (fun c34 => ?_) (fun c34 => ?_)
      · have c34 := bI_0 c34
        refine lv_aload_n hx hb dX6_state_42 rfl (lv_at hl 0 rfl) ?_
        refine gM6_at hx hb hta hown hK hP wd_5_6 dX6_state_43 ?_
        refine lv_iload_n hx hb dX6_state_46 rfl (lv_at hl 1 rfl) ?_
        refine aM_at_ hx hb hK hP j rfl (by omega) dX6_state_47 ?_
        refine lv_iconst (v := (-1 : Int32)) hx hb dX6_state_48 (by decide) ?_
        refine lv_icmp_eq (tgt := 57) hx hb dX6_state_49 (by decide) (fun c49 => ?_) (fun c49 => ?_)
        · refine lv_bipush (v := (97 : Int32)) hx hb dX6_state_57 (by decide) ?_
          refine z_zret hG hx hb hr hlocks hP hD hS (Nat.le_of_ble_eq_true rfl) (Nat.le_of_ble_eq_true rfl) dX6_state_59 ?_ ?_
          · rfl
          · refine Or.inl ⟨?_, congrArg (fun z => some (Value.int z)) ?_, ?_⟩
            · simp [boC, c6, c34, c49, ej]
            · simp [stM, boC, c6, c34, c49, ej]
            · rfl
        · refine lv_bipush (v := (98 : Int32)) hx hb dX6_state_52 (by decide) ?_
          refine lv_goto (tgt := 59) hx hb dX6_state_54 (by decide) ?_
          refine z_zret hG hx hb hr hlocks hP hD hS (Nat.le_of_ble_eq_true rfl) (Nat.le_of_ble_eq_true rfl) dX6_state_59 ?_ ?_
          · rfl
          · refine Or.inl ⟨?_, congrArg (fun z => some (Value.int z)) ?_, ?_⟩
            · simp [boC, c6, c34, c49, ej]
            · simp [stM, boC, c6, c34, c49, ej]
            · rfl
      · have c34 := bI_1 c34
        refine lv_bipush (v := (119 : Int32)) hx hb dX6_state_37 (by decide) ?_
        refine lv_goto (tgt := 59) hx hb dX6_state_39 (by decide) ?_
        refine z_zret hG hx hb hr hlocks hP hD hS (Nat.le_of_ble_eq_true rfl) (Nat.le_of_ble_eq_true rfl) dX6_state_59 ?_ ?_
        · rfl
        · refine Or.inl ⟨?_, congrArg (fun z => some (Value.int z)) ?_, ?_⟩
          · simp [boC, c6, c34, ej]
          · simp [stM, boC, c6, c34, ej]
          · rfl
    · exact absurd c21 (by decide)
set_option maxHeartbeats 800000 in
set_option maxRecDepth 100000 in
theorem c_X6_berthOf (l : Launch) (D : va_G) (y : Nat → ClassId) (a : Nat → Nat) (mth : Int32) (t : Nat) (tb tf ts cap clr mov hom : Int32) (wm : Int64) (nw : Nat) (wf wt : Nat → Int32) (nb : Nat) (fr bw bl : Nat → Int32) (no : Nat) (od ow ol ork olf oco at_ aw : Nat → Int32) (mp : Int32) (mpl msh msl mwa mse : Nat → Int32) (b : Int32) (hb8 : no ≤ 8) : zP l D y yX6_berthOf cX6_berthOf 2 (some .int) 2 0 0 43 [Value.ref (a 0), Value.int b] (wM a y mth (nI t) tb tf ts cap clr mov hom wm (nI nw) wf wt (nI nb) fr bw bl (nI no) od ow ol ork olf oco at_ aw mp mpl msh msl mwa mse) (fun o9 w9 => (beM no at_ b = 0 ∧ o9 = some (Value.int (at_ (nN b))) ∧ w9 = wM a y (0 : Int32) (nI t) tb tf ts cap clr mov hom wm (nI nw) wf wt (nI nb) fr bw bl (nI no) od ow ol ork olf oco at_ aw mp mpl msh msl mwa mse) ∨ (beM no at_ b ≠ 0 ∧ ∃ r9, o9 = some (Value.int r9) ∧ w9 = wM a y (nI (beM no at_ b)) (nI t) tb tf ts cap clr mov hom wm (nI nw) wf wt (nI nb) fr bw bl (nI no) od ow ol ork olf oco at_ aw mp mpl msh msl mwa mse)) := by
  refine zP.of (by decide +kernel) (Nat.le_of_ble_eq_true rfl) ?_
  intro p e s m args below meth c A ls hx hb hr hta hown hlocks hml hin hN hK hP hD hS hA hl
  refine z_gen (fun G hG => ?_)
  have hl : lv_has ls 2 [(0, Value.ref (a 0)), (1, Value.int b)] := hl
  refine lv_aload_n hx hb dX6_berthOf_0 rfl (lv_at hl 0 rfl) ?_
  refine lv_iload_n hx hb dX6_berthOf_1 rfl (lv_at hl 1 rfl) ?_
  refine z_callV (As := [Value.int b]) (rest := []) hx hb hml hown hta zm_X6_isBoat wd_14_10 (c_X6_isBoat l D y a mth t tb tf ts cap clr mov hom wm nw wf wt nb fr bw bl no od ow ol ork olf oco at_ aw mp mpl msh msl mwa mse b (by omega)) hN hK hP hD hS hA 0 rfl rfl rfl hl rfl (Nat.le_of_ble_eq_true rfl) ⟨Nat.le_of_ble_eq_true rfl, Nat.le_of_ble_eq_true rfl⟩ ⟨Nat.le_of_ble_eq_true rfl, Nat.le_of_ble_eq_true rfl⟩ dX6_berthOf_2 (fun v w' H locs hq hP hD hS => ?_)
  obtain ⟨rfl, rfl⟩ := hq
  refine lv_if_ne (tgt := 14) hx hb dX6_berthOf_5 (by decide) (fun c5 => ?_) (fun c5 => ?_)
  · have c5 := bI_1 c5
    obtain ⟨j, hj, rfl⟩ := (inB_iff (by omega)).mp c5
    have ej : nN (nI j) = j := nI_clamp (by omega)
    refine lv_aload_n hx hb dX6_berthOf_14 rfl (lv_at hl 0 rfl) ?_
    refine gM6_at hx hb hta hown hK hP wd_5_6 dX6_berthOf_15 ?_
    refine lv_iload_n hx hb dX6_berthOf_18 rfl (lv_at hl 1 rfl) ?_
    refine aM_at_ hx hb hK hP j rfl (by omega) dX6_berthOf_19 ?_
    refine lv_iconst (v := (-1 : Int32)) hx hb dX6_berthOf_20 (by decide) ?_
    refine lv_icmp_ne (tgt := 32) hx hb dX6_berthOf_21 (by decide) (fun c21 => ?_) (fun c21 => ?_)
    · refine lv_aload_n hx hb dX6_berthOf_32 rfl (lv_at hl 0 rfl) ?_
      refine lv_aload_n hx hb dX6_berthOf_33 rfl (lv_at hl 0 rfl) ?_
      refine gM6_at hx hb hta hown hK hP wd_5_6 dX6_berthOf_34 ?_
      refine lv_iload_n hx hb dX6_berthOf_37 rfl (lv_at hl 1 rfl) ?_
      refine aM_at_ hx hb hK hP j rfl (by omega) dX6_berthOf_38 ?_
      refine z_callV (As := [Value.int (at_ j)]) (rest := []) hx hb hml hown hta zm_X6_tells wd_7_13 (c_X6_tells l D y a mth t tb tf ts cap clr mov hom wm nw wf wt nb fr bw bl no od ow ol ork olf oco at_ aw mp mpl msh msl mwa mse (at_ j)) hN hK hP hD hS hA 0 rfl rfl rfl hl rfl (Nat.le_of_ble_eq_true rfl) ⟨Nat.le_of_ble_eq_true rfl, Nat.le_of_ble_eq_true rfl⟩ ⟨Nat.le_of_ble_eq_true rfl, Nat.le_of_ble_eq_true rfl⟩ dX6_berthOf_39 (fun v w' H locs hq hP hD hS => ?_)
      obtain ⟨rfl, rfl⟩ := hq
      refine z_iret hG hx hb hr hlocks hP hD hS (Nat.le_of_ble_eq_true rfl) (Nat.le_of_ble_eq_true rfl) dX6_berthOf_42 ?_
      refine Or.inl ⟨?_, congrArg (fun z => some (Value.int z)) ?_, ?_⟩
      · simp [beM, c5, c21, ej]
      · rw [ej]
      · rfl
    · refine lv_aload_n hx hb dX6_berthOf_24 rfl (lv_at hl 0 rfl) ?_
      refine lv_iconst (v := (2 : Int32)) hx hb dX6_berthOf_25 (by decide) ?_
      refine z_callV (As := [Value.int (2 : Int32)]) (rest := []) hx hb hml hown hta zm_X6_fails wd_7_8 (c_X6_fails l D y a mth t tb tf ts cap clr mov hom wm nw wf wt nb fr bw bl no od ow ol ork olf oco at_ aw mp mpl msh msl mwa mse (2 : Int32)) hN hK hP hD hS hA 0 rfl rfl rfl hl rfl (Nat.le_of_ble_eq_true rfl) ⟨Nat.le_of_ble_eq_true rfl, Nat.le_of_ble_eq_true rfl⟩ ⟨Nat.le_of_ble_eq_true rfl, Nat.le_of_ble_eq_true rfl⟩ dX6_berthOf_26 (fun v w' H locs hq hP hD hS => ?_)
      obtain ⟨rfl, rfl⟩ := hq
      refine lv_goto (tgt := 42) hx hb dX6_berthOf_29 (by decide) ?_
      refine z_iret hG hx hb hr hlocks hP hD hS (Nat.le_of_ble_eq_true rfl) (Nat.le_of_ble_eq_true rfl) dX6_berthOf_42 ?_
      have hcd : beM no at_ (nI j) = 2 := by
        simp [beM, c5, c21, ej]
      exact Or.inr ⟨by rw [hcd]; decide, _, rfl, by rw [hcd]; rfl⟩
  · have c5 := bI_0 c5
    refine lv_aload_n hx hb dX6_berthOf_8 rfl (lv_at hl 0 rfl) ?_
    refine lv_iconst (v := (1 : Int32)) hx hb dX6_berthOf_9 (by decide) ?_
    refine z_callV (As := [Value.int (1 : Int32)]) (rest := []) hx hb hml hown hta zm_X6_fails wd_7_8 (c_X6_fails l D y a mth t tb tf ts cap clr mov hom wm nw wf wt nb fr bw bl no od ow ol ork olf oco at_ aw mp mpl msh msl mwa mse (1 : Int32)) hN hK hP hD hS hA 0 rfl rfl rfl hl rfl (Nat.le_of_ble_eq_true rfl) ⟨Nat.le_of_ble_eq_true rfl, Nat.le_of_ble_eq_true rfl⟩ ⟨Nat.le_of_ble_eq_true rfl, Nat.le_of_ble_eq_true rfl⟩ dX6_berthOf_10 (fun v w' H locs hq hP hD hS => ?_)
    obtain ⟨rfl, rfl⟩ := hq
    refine z_iret hG hx hb hr hlocks hP hD hS (Nat.le_of_ble_eq_true rfl) (Nat.le_of_ble_eq_true rfl) dX6_berthOf_13 ?_
    have hcd : beM no at_ b = 1 := by
      simp [beM, c5]
    exact Or.inr ⟨by rw [hcd]; decide, _, rfl, by rw [hcd]; rfl⟩
set_option maxHeartbeats 800000 in
set_option maxRecDepth 100000 in
theorem c_X6_boatIn (l : Launch) (D : va_G) (y : Nat → ClassId) (a : Nat → Nat) (mth : Int32) (t : Nat) (tb tf ts cap clr mov hom : Int32) (wm : Int64) (nw : Nat) (wf wt : Nat → Int32) (nb : Nat) (fr bw bl : Nat → Int32) (no : Nat) (od ow ol ork olf oco at_ aw : Nat → Int32) (mp : Int32) (mpl msh msl mwa mse : Nat → Int32) (b : Int32) (hb6 : nb ≤ 6) (hb8 : no ≤ 8) : zP l D y yX6_boatIn cX6_boatIn 2 (some .int) 2 0 0 43 [Value.ref (a 0), Value.int b] (wM a y mth (nI t) tb tf ts cap clr mov hom wm (nI nw) wf wt (nI nb) fr bw bl (nI no) od ow ol ork olf oco at_ aw mp mpl msh msl mwa mse) (fun o9 w9 => (bnM nb no at_ b = 0 ∧ o9 = some (Value.int (fI (baM at_ b no))) ∧ w9 = wM a y (0 : Int32) (nI t) tb tf ts cap clr mov hom wm (nI nw) wf wt (nI nb) fr bw bl (nI no) od ow ol ork olf oco at_ aw mp mpl msh msl mwa mse) ∨ (bnM nb no at_ b ≠ 0 ∧ ∃ r9, o9 = some (Value.int r9) ∧ w9 = wM a y (nI (bnM nb no at_ b)) (nI t) tb tf ts cap clr mov hom wm (nI nw) wf wt (nI nb) fr bw bl (nI no) od ow ol ork olf oco at_ aw mp mpl msh msl mwa mse)) := by
  refine zP.of (by decide +kernel) (Nat.le_of_ble_eq_true rfl) ?_
  intro p e s m args below meth c A ls hx hb hr hta hown hlocks hml hin hN hK hP hD hS hA hl
  refine z_gen (fun G hG => ?_)
  have hl : lv_has ls 2 [(0, Value.ref (a 0)), (1, Value.int b)] := hl
  refine lv_aload_n hx hb dX6_boatIn_0 rfl (lv_at hl 0 rfl) ?_
  refine lv_iload_n hx hb dX6_boatIn_1 rfl (lv_at hl 1 rfl) ?_
  refine z_callV (As := [Value.int b]) (rest := []) hx hb hml hown hta zm_X6_isBerth wd_7_1 (c_X6_isBerth l D y a mth t tb tf ts cap clr mov hom wm nw wf wt nb fr bw bl no od ow ol ork olf oco at_ aw mp mpl msh msl mwa mse b (by omega)) hN hK hP hD hS hA 0 rfl rfl rfl hl rfl (Nat.le_of_ble_eq_true rfl) ⟨Nat.le_of_ble_eq_true rfl, Nat.le_of_ble_eq_true rfl⟩ ⟨Nat.le_of_ble_eq_true rfl, Nat.le_of_ble_eq_true rfl⟩ dX6_boatIn_2 (fun v w' H locs hq hP hD hS => ?_)
  obtain ⟨rfl, rfl⟩ := hq
  refine lv_if_ne (tgt := 14) hx hb dX6_boatIn_5 (by decide) (fun c5 => ?_) (fun c5 => ?_)
  · have c5 := bI_1 c5
    refine lv_aload_n hx hb dX6_boatIn_14 rfl (lv_at hl 0 rfl) ?_
    refine lv_iload_n hx hb dX6_boatIn_15 rfl (lv_at hl 1 rfl) ?_
    refine z_callV (As := [Value.int b]) (rest := []) hx hb hml hown hta zm_X6_boatAt wd_18_0 (c_X6_boatAt l D y a mth t tb tf ts cap clr mov hom wm nw wf wt nb fr bw bl no od ow ol ork olf oco at_ aw mp mpl msh msl mwa mse b (by omega)) hN hK hP hD hS hA 0 rfl rfl rfl hl rfl (Nat.le_of_ble_eq_true rfl) ⟨Nat.le_of_ble_eq_true rfl, Nat.le_of_ble_eq_true rfl⟩ ⟨Nat.le_of_ble_eq_true rfl, Nat.le_of_ble_eq_true rfl⟩ dX6_boatIn_16 (fun v w' H locs hq hP hD hS => ?_)
    obtain ⟨rfl, rfl⟩ := hq
    refine lv_iconst (v := (-1 : Int32)) hx hb dX6_boatIn_19 (by decide) ?_
    refine lv_icmp_ne (tgt := 31) hx hb dX6_boatIn_20 (by decide) (fun c20 => ?_) (fun c20 => ?_)
    · refine lv_aload_n hx hb dX6_boatIn_31 rfl (lv_at hl 0 rfl) ?_
      refine lv_aload_n hx hb dX6_boatIn_32 rfl (lv_at hl 0 rfl) ?_
      refine lv_iload_n hx hb dX6_boatIn_33 rfl (lv_at hl 1 rfl) ?_
      refine z_callV (As := [Value.int b]) (rest := [Value.ref (a 0)]) hx hb hml hown hta zm_X6_boatAt wd_18_0 (c_X6_boatAt l D y a mth t tb tf ts cap clr mov hom wm nw wf wt nb fr bw bl no od ow ol ork olf oco at_ aw mp mpl msh msl mwa mse b (by omega)) hN hK hP hD hS hA 0 rfl rfl rfl hl rfl (Nat.le_of_ble_eq_true rfl) ⟨Nat.le_of_ble_eq_true rfl, Nat.le_of_ble_eq_true rfl⟩ ⟨Nat.le_of_ble_eq_true rfl, Nat.le_of_ble_eq_true rfl⟩ dX6_boatIn_34 (fun v w' H locs hq hP hD hS => ?_)
      obtain ⟨rfl, rfl⟩ := hq
      refine z_callV (As := [Value.int (fI (baM at_ b no))]) (rest := []) hx hb hml hown hta zm_X6_tells wd_7_13 (c_X6_tells l D y a mth t tb tf ts cap clr mov hom wm nw wf wt nb fr bw bl no od ow ol ork olf oco at_ aw mp mpl msh msl mwa mse (fI (baM at_ b no))) hN hK hP hD hS hA 0 rfl rfl rfl hl rfl (Nat.le_of_ble_eq_true rfl) ⟨Nat.le_of_ble_eq_true rfl, Nat.le_of_ble_eq_true rfl⟩ ⟨Nat.le_of_ble_eq_true rfl, Nat.le_of_ble_eq_true rfl⟩ dX6_boatIn_37 (fun v w' H locs hq hP hD hS => ?_)
      obtain ⟨rfl, rfl⟩ := hq
      refine z_iret hG hx hb hr hlocks hP hD hS (Nat.le_of_ble_eq_true rfl) (Nat.le_of_ble_eq_true rfl) dX6_boatIn_40 ?_
      refine Or.inl ⟨?_, congrArg (fun z => some (Value.int z)) ?_, ?_⟩
      · simp [bnM, c5, c20]
      · rfl
      · rfl
    · refine lv_aload_n hx hb dX6_boatIn_23 rfl (lv_at hl 0 rfl) ?_
      refine lv_iconst (v := (2 : Int32)) hx hb dX6_boatIn_24 (by decide) ?_
      refine z_callV (As := [Value.int (2 : Int32)]) (rest := []) hx hb hml hown hta zm_X6_fails wd_7_8 (c_X6_fails l D y a mth t tb tf ts cap clr mov hom wm nw wf wt nb fr bw bl no od ow ol ork olf oco at_ aw mp mpl msh msl mwa mse (2 : Int32)) hN hK hP hD hS hA 0 rfl rfl rfl hl rfl (Nat.le_of_ble_eq_true rfl) ⟨Nat.le_of_ble_eq_true rfl, Nat.le_of_ble_eq_true rfl⟩ ⟨Nat.le_of_ble_eq_true rfl, Nat.le_of_ble_eq_true rfl⟩ dX6_boatIn_25 (fun v w' H locs hq hP hD hS => ?_)
      obtain ⟨rfl, rfl⟩ := hq
      refine lv_goto (tgt := 40) hx hb dX6_boatIn_28 (by decide) ?_
      refine z_iret hG hx hb hr hlocks hP hD hS (Nat.le_of_ble_eq_true rfl) (Nat.le_of_ble_eq_true rfl) dX6_boatIn_40 ?_
      have hcd : bnM nb no at_ b = 2 := by
        simp [bnM, c5, c20]
      exact Or.inr ⟨by rw [hcd]; decide, _, rfl, by rw [hcd]; rfl⟩
  · have c5 := bI_0 c5
    refine lv_aload_n hx hb dX6_boatIn_8 rfl (lv_at hl 0 rfl) ?_
    refine lv_iconst (v := (1 : Int32)) hx hb dX6_boatIn_9 (by decide) ?_
    refine z_callV (As := [Value.int (1 : Int32)]) (rest := []) hx hb hml hown hta zm_X6_fails wd_7_8 (c_X6_fails l D y a mth t tb tf ts cap clr mov hom wm nw wf wt nb fr bw bl no od ow ol ork olf oco at_ aw mp mpl msh msl mwa mse (1 : Int32)) hN hK hP hD hS hA 0 rfl rfl rfl hl rfl (Nat.le_of_ble_eq_true rfl) ⟨Nat.le_of_ble_eq_true rfl, Nat.le_of_ble_eq_true rfl⟩ ⟨Nat.le_of_ble_eq_true rfl, Nat.le_of_ble_eq_true rfl⟩ dX6_boatIn_10 (fun v w' H locs hq hP hD hS => ?_)
    obtain ⟨rfl, rfl⟩ := hq
    refine z_iret hG hx hb hr hlocks hP hD hS (Nat.le_of_ble_eq_true rfl) (Nat.le_of_ble_eq_true rfl) dX6_boatIn_13 ?_
    have hcd : bnM nb no at_ b = 1 := by
      simp [bnM, c5]
    exact Or.inr ⟨by rw [hcd]; decide, _, rfl, by rw [hcd]; rfl⟩
set_option maxHeartbeats 800000 in
set_option maxRecDepth 100000 in
theorem c_X6_paint (l : Launch) (D : va_G) (y : Nat → ClassId) (a : Nat → Nat) (mth : Int32) (t : Nat) (tb tf ts cap clr mov hom : Int32) (wm : Int64) (nw : Nat) (wf wt : Nat → Int32) (nb : Nat) (fr bw bl : Nat → Int32) (no : Nat) (od ow ol ork olf oco at_ aw : Nat → Int32) (mp : Int32) (mpl msh msl mwa mse : Nat → Int32) (b : Int32) (h : Int32) (hb8 : no ≤ 8) (hw : nw ≤ 6) : zP l D y yX6_paint cX6_paint 3 (some .int) 2 0 0 43 [Value.ref (a 0), Value.int b, Value.int h] (wM a y mth (nI t) tb tf ts cap clr mov hom wm (nI nw) wf wt (nI nb) fr bw bl (nI no) od ow ol ork olf oco at_ aw mp mpl msh msl mwa mse) (fun o9 w9 => (paM no (badF wf wt nw (nI t)) at_ olf b h = 0 ∧ o9 = some (Value.int (oco (nN b) + (1 : Int32))) ∧ w9 = wM a y (0 : Int32) (nI t) tb tf ts cap clr mov hom wm (nI nw) wf wt (nI nb) fr bw bl (nI no) od ow ol ork (upd olf (nN b) h) (upd oco (nN b) (oco (nN b) + (1 : Int32))) at_ aw mp mpl msh msl mwa mse) ∨ (paM no (badF wf wt nw (nI t)) at_ olf b h ≠ 0 ∧ ∃ r9, o9 = some (Value.int r9) ∧ w9 = wM a y (nI (paM no (badF wf wt nw (nI t)) at_ olf b h)) (nI t) tb tf ts cap clr mov hom wm (nI nw) wf wt (nI nb) fr bw bl (nI no) od ow ol ork olf oco at_ aw mp mpl msh msl mwa mse)) := by
  refine zP.of (by decide +kernel) (Nat.le_of_ble_eq_true rfl) ?_
  intro p e s m args below meth c A ls hx hb hr hta hown hlocks hml hin hN hK hP hD hS hA hl
  refine z_gen (fun G hG => ?_)
  have hl : lv_has ls 3 [(0, Value.ref (a 0)), (1, Value.int b), (2, Value.int h)] := hl
  refine lv_aload_n hx hb dX6_paint_0 rfl (lv_at hl 0 rfl) ?_
  refine lv_iload_n hx hb dX6_paint_1 rfl (lv_at hl 1 rfl) ?_
  refine z_callV (As := [Value.int b]) (rest := []) hx hb hml hown hta zm_X6_isBoat wd_14_10 (c_X6_isBoat l D y a mth t tb tf ts cap clr mov hom wm nw wf wt nb fr bw bl no od ow ol ork olf oco at_ aw mp mpl msh msl mwa mse b (by omega)) hN hK hP hD hS hA 0 rfl rfl rfl hl rfl (Nat.le_of_ble_eq_true rfl) ⟨Nat.le_of_ble_eq_true rfl, Nat.le_of_ble_eq_true rfl⟩ ⟨Nat.le_of_ble_eq_true rfl, Nat.le_of_ble_eq_true rfl⟩ dX6_paint_2 (fun v w' H locs hq hP hD hS => ?_)
  obtain ⟨rfl, rfl⟩ := hq
  refine lv_if_ne (tgt := 14) hx hb dX6_paint_5 (by decide) (fun c5 => ?_) (fun c5 => ?_)
  · have c5 := bI_1 c5
    obtain ⟨j, hj, rfl⟩ := (inB_iff (by omega)).mp c5
    have ej : nN (nI j) = j := nI_clamp (by omega)
    refine lv_iload_n hx hb dX6_paint_14 rfl (lv_at hl 2 rfl) ?_
    refine lv_iconst (v := (4 : Int32)) hx hb dX6_paint_15 (by decide) ?_
    refine lv_bipush (v := (48 : Int32)) hx hb dX6_paint_16 (by decide) ?_
    refine z_callS (As := [Value.int h, Value.int (4 : Int32), Value.int (48 : Int32)]) (rest := []) hx hb hml hown hta zm_X6_in wd_7_5 (c_X6_in l D y a mth t tb tf ts cap clr mov hom wm nw wf wt nb fr bw bl no od ow ol ork olf oco at_ aw mp mpl msh msl mwa mse h (4 : Int32) (48 : Int32)) hN hK hP hD hS hA rfl hl rfl (Nat.le_of_ble_eq_true rfl) ⟨Nat.le_of_ble_eq_true rfl, Nat.le_of_ble_eq_true rfl⟩ ⟨Nat.le_of_ble_eq_true rfl, Nat.le_of_ble_eq_true rfl⟩ dX6_paint_18 (fun v w' H locs hq hP hD hS => ?_)
    obtain ⟨rfl, rfl⟩ := hq
    refine lv_if_ne (tgt := 30) hx hb dX6_paint_21 (by decide) (fun c21 => ?_) (fun c21 => ?_)
    · have c21 := bI_n1 c21
      refine lv_aload_n hx hb dX6_paint_30 rfl (lv_at hl 0 rfl) ?_
      refine gM6_at hx hb hta hown hK hP wd_5_6 dX6_paint_31 ?_
      refine lv_iload_n hx hb dX6_paint_34 rfl (lv_at hl 1 rfl) ?_
      refine aM_at_ hx hb hK hP j rfl (by omega) dX6_paint_35 ?_
      refine lv_iconst (v := (-1 : Int32)) hx hb dX6_paint_36 (by decide) ?_
      refine lv_icmp_eq (tgt := 60) hx hb dX6_paint_37 (by decide) (fun c37 => ?_) (fun c37 => ?_)
      · refine lv_aload_n hx hb dX6_paint_60 rfl (lv_at hl 0 rfl) ?_
        refine lv_iconst (v := (3 : Int32)) hx hb dX6_paint_61 (by decide) ?_
        refine z_callV (As := [Value.int (3 : Int32)]) (rest := []) hx hb hml hown hta zm_X6_fails wd_7_8 (c_X6_fails l D y a mth t tb tf ts cap clr mov hom wm nw wf wt nb fr bw bl no od ow ol ork olf oco at_ aw mp mpl msh msl mwa mse (3 : Int32)) hN hK hP hD hS hA 0 rfl rfl rfl hl rfl (Nat.le_of_ble_eq_true rfl) ⟨Nat.le_of_ble_eq_true rfl, Nat.le_of_ble_eq_true rfl⟩ ⟨Nat.le_of_ble_eq_true rfl, Nat.le_of_ble_eq_true rfl⟩ dX6_paint_62 (fun v w' H locs hq hP hD hS => ?_)
        obtain ⟨rfl, rfl⟩ := hq
        refine z_iret hG hx hb hr hlocks hP hD hS (Nat.le_of_ble_eq_true rfl) (Nat.le_of_ble_eq_true rfl) dX6_paint_65 ?_
        have hcd : paM no (badF wf wt nw (nI t)) at_ olf (nI j) h = 3 := by
          simp [paM, c5, c21, c37, ej]
        exact Or.inr ⟨by rw [hcd]; decide, _, rfl, by rw [hcd]; rfl⟩
      · refine lv_aload_n hx hb dX6_paint_40 rfl (lv_at hl 0 rfl) ?_
        refine gM6_dry hx hb hta hown hK hP wd_5_4 dX6_paint_41 ?_
        refine lv_iload_n hx hb dX6_paint_44 rfl (lv_at hl 1 rfl) ?_
        refine aM_olf hx hb hK hP j rfl (by omega) dX6_paint_45 ?_
        refine lv_if_gt (tgt := 60) hx hb dX6_paint_46 (by decide) (fun c46 => ?_) (fun c46 => ?_)
        · refine lv_aload_n hx hb dX6_paint_60 rfl (lv_at hl 0 rfl) ?_
          refine lv_iconst (v := (3 : Int32)) hx hb dX6_paint_61 (by decide) ?_
          refine z_callV (As := [Value.int (3 : Int32)]) (rest := []) hx hb hml hown hta zm_X6_fails wd_7_8 (c_X6_fails l D y a mth t tb tf ts cap clr mov hom wm nw wf wt nb fr bw bl no od ow ol ork olf oco at_ aw mp mpl msh msl mwa mse (3 : Int32)) hN hK hP hD hS hA 0 rfl rfl rfl hl rfl (Nat.le_of_ble_eq_true rfl) ⟨Nat.le_of_ble_eq_true rfl, Nat.le_of_ble_eq_true rfl⟩ ⟨Nat.le_of_ble_eq_true rfl, Nat.le_of_ble_eq_true rfl⟩ dX6_paint_62 (fun v w' H locs hq hP hD hS => ?_)
          obtain ⟨rfl, rfl⟩ := hq
          refine z_iret hG hx hb hr hlocks hP hD hS (Nat.le_of_ble_eq_true rfl) (Nat.le_of_ble_eq_true rfl) dX6_paint_65 ?_
          have hcd : paM no (badF wf wt nw (nI t)) at_ olf (nI j) h = 3 := by
            simp [paM, c5, c21, c37, c46, ej]
          exact Or.inr ⟨by rw [hcd]; decide, _, rfl, by rw [hcd]; rfl⟩
        · refine lv_aload_n hx hb dX6_paint_49 rfl (lv_at hl 0 rfl) ?_
          refine lv_aload_n hx hb dX6_paint_50 rfl (lv_at hl 0 rfl) ?_
          refine gM6_time hx hb hta hown hK hP wd_9_12 dX6_paint_51 ?_
          refine z_callV (As := [Value.int (nI t)]) (rest := []) hx hb hml hown hta zm_X6_badAt wd_12_18 (c_X6_badAt l D y a mth t tb tf ts cap clr mov hom wm nw wf wt nb fr bw bl no od ow ol ork olf oco at_ aw mp mpl msh msl mwa mse (nI t) (by omega)) hN hK hP hD hS hA 0 rfl rfl rfl hl rfl (Nat.le_of_ble_eq_true rfl) ⟨Nat.le_of_ble_eq_true rfl, Nat.le_of_ble_eq_true rfl⟩ ⟨Nat.le_of_ble_eq_true rfl, Nat.le_of_ble_eq_true rfl⟩ dX6_paint_54 (fun v w' H locs hq hP hD hS => ?_)
          obtain ⟨rfl, rfl⟩ := hq
          refine lv_if_eq (tgt := 66) hx hb dX6_paint_57 (by decide) (fun c57 => ?_) (fun c57 => ?_)
          · have c57 := bI_0 c57
            refine lv_aload_n hx hb dX6_paint_66 rfl (lv_at hl 0 rfl) ?_
            refine gM6_dry hx hb hta hown hK hP wd_5_4 dX6_paint_67 ?_
            refine lv_iload_n hx hb dX6_paint_70 rfl (lv_at hl 1 rfl) ?_
            refine lv_iload_n hx hb dX6_paint_71 rfl (lv_at hl 2 rfl) ?_
            refine sM_olf hx hb hK hP hD hS j rfl (by omega) dX6_paint_72 (fun H locs hP hD hS => ?_)
            refine lv_aload_n hx hb dX6_paint_73 rfl (lv_at hl 0 rfl) ?_
            refine gM6_coats hx hb hta hown hK hP wd_5_5 dX6_paint_74 ?_
            refine lv_iload_n hx hb dX6_paint_77 rfl (lv_at hl 1 rfl) ?_
            refine lv_dup2_11 hx hb dX6_paint_78 rfl rfl ?_
            refine aM_oco hx hb hK hP j rfl (by omega) dX6_paint_79 ?_
            refine lv_iconst (v := (1 : Int32)) hx hb dX6_paint_80 (by decide) ?_
            refine lv_iadd hx hb dX6_paint_81 ?_
            refine sM_oco hx hb hK hP hD hS j rfl (by omega) dX6_paint_82 (fun H locs hP hD hS => ?_)
            refine lv_aload_n hx hb dX6_paint_83 rfl (lv_at hl 0 rfl) ?_
            refine lv_aload_n hx hb dX6_paint_84 rfl (lv_at hl 0 rfl) ?_
            refine gM6_coats hx hb hta hown hK hP wd_5_5 dX6_paint_85 ?_
            refine lv_iload_n hx hb dX6_paint_88 rfl (lv_at hl 1 rfl) ?_
            refine aM_oco hx hb hK hP j rfl (by omega) dX6_paint_89 ?_
            refine z_callV (As := [Value.int ((upd oco j ((oco j) + (1 : Int32))) j)]) (rest := []) hx hb hml hown hta zm_X6_tells wd_7_13 (c_X6_tells l D y a mth t tb tf ts cap clr mov hom wm nw wf wt nb fr bw bl no od ow ol ork (upd olf j h) (upd oco j ((oco j) + (1 : Int32))) at_ aw mp mpl msh msl mwa mse ((upd oco j ((oco j) + (1 : Int32))) j)) hN hK hP hD hS hA 0 rfl rfl rfl hl rfl (Nat.le_of_ble_eq_true rfl) ⟨Nat.le_of_ble_eq_true rfl, Nat.le_of_ble_eq_true rfl⟩ ⟨Nat.le_of_ble_eq_true rfl, Nat.le_of_ble_eq_true rfl⟩ dX6_paint_90 (fun v w' H locs hq hP hD hS => ?_)
            obtain ⟨rfl, rfl⟩ := hq
            refine z_iret hG hx hb hr hlocks hP hD hS (Nat.le_of_ble_eq_true rfl) (Nat.le_of_ble_eq_true rfl) dX6_paint_93 ?_
            refine Or.inl ⟨?_, congrArg (fun z => some (Value.int z)) ?_, ?_⟩
            · simp [paM, c5, c21, c37, c46, c57, ej]
            · rw [ej]; simp [upd]
            · rw [ej]
          · have c57 := bI_1 c57
            refine lv_aload_n hx hb dX6_paint_60 rfl (lv_at hl 0 rfl) ?_
            refine lv_iconst (v := (3 : Int32)) hx hb dX6_paint_61 (by decide) ?_
            refine z_callV (As := [Value.int (3 : Int32)]) (rest := []) hx hb hml hown hta zm_X6_fails wd_7_8 (c_X6_fails l D y a mth t tb tf ts cap clr mov hom wm nw wf wt nb fr bw bl no od ow ol ork olf oco at_ aw mp mpl msh msl mwa mse (3 : Int32)) hN hK hP hD hS hA 0 rfl rfl rfl hl rfl (Nat.le_of_ble_eq_true rfl) ⟨Nat.le_of_ble_eq_true rfl, Nat.le_of_ble_eq_true rfl⟩ ⟨Nat.le_of_ble_eq_true rfl, Nat.le_of_ble_eq_true rfl⟩ dX6_paint_62 (fun v w' H locs hq hP hD hS => ?_)
            obtain ⟨rfl, rfl⟩ := hq
            refine z_iret hG hx hb hr hlocks hP hD hS (Nat.le_of_ble_eq_true rfl) (Nat.le_of_ble_eq_true rfl) dX6_paint_65 ?_
            have hcd : paM no (badF wf wt nw (nI t)) at_ olf (nI j) h = 3 := by
              simp [paM, c5, c21, c37, c46, c57, ej]
            exact Or.inr ⟨by rw [hcd]; decide, _, rfl, by rw [hcd]; rfl⟩
    · have c21 := bI_n0 c21
      refine lv_aload_n hx hb dX6_paint_24 rfl (lv_at hl 0 rfl) ?_
      refine lv_iconst (v := (2 : Int32)) hx hb dX6_paint_25 (by decide) ?_
      refine z_callV (As := [Value.int (2 : Int32)]) (rest := []) hx hb hml hown hta zm_X6_fails wd_7_8 (c_X6_fails l D y a mth t tb tf ts cap clr mov hom wm nw wf wt nb fr bw bl no od ow ol ork olf oco at_ aw mp mpl msh msl mwa mse (2 : Int32)) hN hK hP hD hS hA 0 rfl rfl rfl hl rfl (Nat.le_of_ble_eq_true rfl) ⟨Nat.le_of_ble_eq_true rfl, Nat.le_of_ble_eq_true rfl⟩ ⟨Nat.le_of_ble_eq_true rfl, Nat.le_of_ble_eq_true rfl⟩ dX6_paint_26 (fun v w' H locs hq hP hD hS => ?_)
      obtain ⟨rfl, rfl⟩ := hq
      refine z_iret hG hx hb hr hlocks hP hD hS (Nat.le_of_ble_eq_true rfl) (Nat.le_of_ble_eq_true rfl) dX6_paint_29 ?_
      have hcd : paM no (badF wf wt nw (nI t)) at_ olf (nI j) h = 2 := by
        simp [paM, c5, c21, ej]
      exact Or.inr ⟨by rw [hcd]; decide, _, rfl, by rw [hcd]; rfl⟩
  · have c5 := bI_0 c5
    refine lv_aload_n hx hb dX6_paint_8 rfl (lv_at hl 0 rfl) ?_
    refine lv_iconst (v := (1 : Int32)) hx hb dX6_paint_9 (by decide) ?_
    refine z_callV (As := [Value.int (1 : Int32)]) (rest := []) hx hb hml hown hta zm_X6_fails wd_7_8 (c_X6_fails l D y a mth t tb tf ts cap clr mov hom wm nw wf wt nb fr bw bl no od ow ol ork olf oco at_ aw mp mpl msh msl mwa mse (1 : Int32)) hN hK hP hD hS hA 0 rfl rfl rfl hl rfl (Nat.le_of_ble_eq_true rfl) ⟨Nat.le_of_ble_eq_true rfl, Nat.le_of_ble_eq_true rfl⟩ ⟨Nat.le_of_ble_eq_true rfl, Nat.le_of_ble_eq_true rfl⟩ dX6_paint_10 (fun v w' H locs hq hP hD hS => ?_)
    obtain ⟨rfl, rfl⟩ := hq
    refine z_iret hG hx hb hr hlocks hP hD hS (Nat.le_of_ble_eq_true rfl) (Nat.le_of_ble_eq_true rfl) dX6_paint_13 ?_
    have hcd : paM no (badF wf wt nw (nI t)) at_ olf b h = 1 := by
      simp [paM, c5]
    exact Or.inr ⟨by rw [hcd]; decide, _, rfl, by rw [hcd]; rfl⟩
set_option maxHeartbeats 800000 in
set_option maxRecDepth 100000 in
theorem c_X6_dryLeft (l : Launch) (D : va_G) (y : Nat → ClassId) (a : Nat → Nat) (mth : Int32) (t : Nat) (tb tf ts cap clr mov hom : Int32) (wm : Int64) (nw : Nat) (wf wt : Nat → Int32) (nb : Nat) (fr bw bl : Nat → Int32) (no : Nat) (od ow ol ork olf oco at_ aw : Nat → Int32) (mp : Int32) (mpl msh msl mwa mse : Nat → Int32) (b : Int32) (hb8 : no ≤ 8) : zP l D y yX6_dryLeft cX6_dryLeft 2 (some .int) 2 0 0 43 [Value.ref (a 0), Value.int b] (wM a y mth (nI t) tb tf ts cap clr mov hom wm (nI nw) wf wt (nI nb) fr bw bl (nI no) od ow ol ork olf oco at_ aw mp mpl msh msl mwa mse) (fun o9 w9 => (boC no b = 0 ∧ o9 = some (Value.int (olf (nN b))) ∧ w9 = wM a y (0 : Int32) (nI t) tb tf ts cap clr mov hom wm (nI nw) wf wt (nI nb) fr bw bl (nI no) od ow ol ork olf oco at_ aw mp mpl msh msl mwa mse) ∨ (boC no b ≠ 0 ∧ ∃ r9, o9 = some (Value.int r9) ∧ w9 = wM a y (nI (boC no b)) (nI t) tb tf ts cap clr mov hom wm (nI nw) wf wt (nI nb) fr bw bl (nI no) od ow ol ork olf oco at_ aw mp mpl msh msl mwa mse)) := by
  refine zP.of (by decide +kernel) (Nat.le_of_ble_eq_true rfl) ?_
  intro p e s m args below meth c A ls hx hb hr hta hown hlocks hml hin hN hK hP hD hS hA hl
  refine z_gen (fun G hG => ?_)
  have hl : lv_has ls 2 [(0, Value.ref (a 0)), (1, Value.int b)] := hl
  refine lv_aload_n hx hb dX6_dryLeft_0 rfl (lv_at hl 0 rfl) ?_
  refine lv_iload_n hx hb dX6_dryLeft_1 rfl (lv_at hl 1 rfl) ?_
  refine z_callV (As := [Value.int b]) (rest := []) hx hb hml hown hta zm_X6_isBoat wd_14_10 (c_X6_isBoat l D y a mth t tb tf ts cap clr mov hom wm nw wf wt nb fr bw bl no od ow ol ork olf oco at_ aw mp mpl msh msl mwa mse b (by omega)) hN hK hP hD hS hA 0 rfl rfl rfl hl rfl (Nat.le_of_ble_eq_true rfl) ⟨Nat.le_of_ble_eq_true rfl, Nat.le_of_ble_eq_true rfl⟩ ⟨Nat.le_of_ble_eq_true rfl, Nat.le_of_ble_eq_true rfl⟩ dX6_dryLeft_2 (fun v w' H locs hq hP hD hS => ?_)
  obtain ⟨rfl, rfl⟩ := hq
  refine lv_if_eq (tgt := 21) hx hb dX6_dryLeft_5 (by decide) (fun c5 => ?_) (fun c5 => ?_)
  · have c5 := bI_0 c5
    refine lv_aload_n hx hb dX6_dryLeft_21 rfl (lv_at hl 0 rfl) ?_
    refine lv_iconst (v := (1 : Int32)) hx hb dX6_dryLeft_22 (by decide) ?_
    refine z_callV (As := [Value.int (1 : Int32)]) (rest := []) hx hb hml hown hta zm_X6_fails wd_7_8 (c_X6_fails l D y a mth t tb tf ts cap clr mov hom wm nw wf wt nb fr bw bl no od ow ol ork olf oco at_ aw mp mpl msh msl mwa mse (1 : Int32)) hN hK hP hD hS hA 0 rfl rfl rfl hl rfl (Nat.le_of_ble_eq_true rfl) ⟨Nat.le_of_ble_eq_true rfl, Nat.le_of_ble_eq_true rfl⟩ ⟨Nat.le_of_ble_eq_true rfl, Nat.le_of_ble_eq_true rfl⟩ dX6_dryLeft_23 (fun v w' H locs hq hP hD hS => ?_)
    obtain ⟨rfl, rfl⟩ := hq
    refine z_iret hG hx hb hr hlocks hP hD hS (Nat.le_of_ble_eq_true rfl) (Nat.le_of_ble_eq_true rfl) dX6_dryLeft_26 ?_
    have hcd : boC no b = 1 := by
      simp [boC, c5]
    exact Or.inr ⟨by rw [hcd]; decide, _, rfl, by rw [hcd]; rfl⟩
  · have c5 := bI_1 c5
    obtain ⟨j, hj, rfl⟩ := (inB_iff (by omega)).mp c5
    have ej : nN (nI j) = j := nI_clamp (by omega)
    refine lv_aload_n hx hb dX6_dryLeft_8 rfl (lv_at hl 0 rfl) ?_
    refine lv_aload_n hx hb dX6_dryLeft_9 rfl (lv_at hl 0 rfl) ?_
    refine gM6_dry hx hb hta hown hK hP wd_5_4 dX6_dryLeft_10 ?_
    refine lv_iload_n hx hb dX6_dryLeft_13 rfl (lv_at hl 1 rfl) ?_
    refine aM_olf hx hb hK hP j rfl (by omega) dX6_dryLeft_14 ?_
    refine z_callV (As := [Value.int (olf j)]) (rest := []) hx hb hml hown hta zm_X6_tells wd_7_13 (c_X6_tells l D y a mth t tb tf ts cap clr mov hom wm nw wf wt nb fr bw bl no od ow ol ork olf oco at_ aw mp mpl msh msl mwa mse (olf j)) hN hK hP hD hS hA 0 rfl rfl rfl hl rfl (Nat.le_of_ble_eq_true rfl) ⟨Nat.le_of_ble_eq_true rfl, Nat.le_of_ble_eq_true rfl⟩ ⟨Nat.le_of_ble_eq_true rfl, Nat.le_of_ble_eq_true rfl⟩ dX6_dryLeft_15 (fun v w' H locs hq hP hD hS => ?_)
    obtain ⟨rfl, rfl⟩ := hq
    refine lv_goto (tgt := 26) hx hb dX6_dryLeft_18 (by decide) ?_
    refine z_iret hG hx hb hr hlocks hP hD hS (Nat.le_of_ble_eq_true rfl) (Nat.le_of_ble_eq_true rfl) dX6_dryLeft_26 ?_
    refine Or.inl ⟨?_, congrArg (fun z => some (Value.int z)) ?_, ?_⟩
    · simp [boC, c5, ej]
    · rw [ej]
    · rfl
set_option maxHeartbeats 800000 in
set_option maxRecDepth 100000 in
theorem c_X6_pass (l : Launch) (D : va_G) (y : Nat → ClassId) (a : Nat → Nat) (mth : Int32) (t : Nat) (tb tf ts cap clr mov hom : Int32) (wm : Int64) (nw : Nat) (wf wt : Nat → Int32) (nb : Nat) (fr bw bl : Nat → Int32) (no : Nat) (od ow ol ork olf oco at_ aw : Nat → Int32) (mp : Int32) (mpl msh msl mwa mse : Nat → Int32) (h : Int32) (hb8 : no ≤ 8) (hw : nw ≤ 6) (ht : t ≤ 9999) : zP l D y yX6_pass cX6_pass 5 (some .int) 1 0 0 23 [Value.ref (a 0), Value.int h] (wM a y mth (nI t) tb tf ts cap clr mov hom wm (nI nw) wf wt (nI nb) fr bw bl (nI no) od ow ol ork olf oco at_ aw mp mpl msh msl mwa mse) (fun o9 w9 => (psC t h = 0 ∧ o9 = some (Value.int (nI (t + nN h))) ∧ w9 = wM a y (0 : Int32) (nI (t + nN h)) tb tf ts cap clr mov hom wm (nI nw) wf wt (nI nb) fr bw bl (nI no) od ow ol ork (pdF wf wt nw no t olf (nN h)) oco at_ aw mp mpl msh msl mwa mse) ∨ (psC t h ≠ 0 ∧ ∃ r9, o9 = some (Value.int r9) ∧ w9 = wM a y (nI (psC t h)) (nI t) tb tf ts cap clr mov hom wm (nI nw) wf wt (nI nb) fr bw bl (nI no) od ow ol ork olf oco at_ aw mp mpl msh msl mwa mse)) := by
  refine zP.of (by decide +kernel) (Nat.le_of_ble_eq_true rfl) ?_
  intro p e s m args below meth c A ls hx hb hr hta hown hlocks hml hin hN hK hP hD hS hA hl
  refine z_gen (fun G hG => ?_)
  have hl : lv_has ls 5 [(0, Value.ref (a 0)), (1, Value.int h)] := hl
  refine lv_iload_n hx hb dX6_pass_0 rfl (lv_at hl 1 rfl) ?_
  refine lv_iconst (v := (1 : Int32)) hx hb dX6_pass_1 (by decide) ?_
  refine lv_sipush (v := (336 : Int32)) hx hb dX6_pass_2 (by decide) ?_
  refine z_callS (As := [Value.int h, Value.int (1 : Int32), Value.int (336 : Int32)]) (rest := []) hx hb hml hown hta zm_X6_in wd_7_5 (c_X6_in l D y a mth t tb tf ts cap clr mov hom wm nw wf wt nb fr bw bl no od ow ol ork olf oco at_ aw mp mpl msh msl mwa mse h (1 : Int32) (336 : Int32)) hN hK hP hD hS hA rfl hl rfl (Nat.le_of_ble_eq_true rfl) ⟨Nat.le_of_ble_eq_true rfl, Nat.le_of_ble_eq_true rfl⟩ ⟨Nat.le_of_ble_eq_true rfl, Nat.le_of_ble_eq_true rfl⟩ dX6_pass_5 (fun v w' H locs hq hP hD hS => ?_)
  obtain ⟨rfl, rfl⟩ := hq
  refine lv_if_eq (tgt := 23) hx hb dX6_pass_8 (by decide) (fun c8 => ?_) (fun c8 => ?_)
  · have c8 := bI_n0 c8
    refine lv_aload_n hx hb dX6_pass_23 rfl (lv_at hl 0 rfl) ?_
    refine lv_iconst (v := (1 : Int32)) hx hb dX6_pass_24 (by decide) ?_
    refine z_callV (As := [Value.int (1 : Int32)]) (rest := []) hx hb hml hown hta zm_X6_fails wd_7_8 (c_X6_fails l D y a mth t tb tf ts cap clr mov hom wm nw wf wt nb fr bw bl no od ow ol ork olf oco at_ aw mp mpl msh msl mwa mse (1 : Int32)) hN hK hP hD hS hA 0 rfl rfl rfl hl rfl (Nat.le_of_ble_eq_true rfl) ⟨Nat.le_of_ble_eq_true rfl, Nat.le_of_ble_eq_true rfl⟩ ⟨Nat.le_of_ble_eq_true rfl, Nat.le_of_ble_eq_true rfl⟩ dX6_pass_25 (fun v w' H locs hq hP hD hS => ?_)
    obtain ⟨rfl, rfl⟩ := hq
    refine z_iret hG hx hb hr hlocks hP hD hS (Nat.le_of_ble_eq_true rfl) (Nat.le_of_ble_eq_true rfl) dX6_pass_28 ?_
    have hcd : psC t h = 1 := by
      first
      | (rw [psC, c8]; rfl)
      | rw [psC, if_pos c8, en9, if_neg (by omega)]
    exact Or.inr ⟨by rw [hcd]; decide, _, rfl, by rw [hcd]; rfl⟩
  · have c8 := bI_n1 c8
    obtain ⟨n9, hn1, hn2, rfl⟩ := outR_nat (lo := 1) (hi := 336) c8 (by decide) (by decide)
    have en9 : nN (nI n9) = n9 := nI_clamp (by omega)
    refine lv_aload_n hx hb dX6_pass_11 rfl (lv_at hl 0 rfl) ?_
    refine gM6_time hx hb hta hown hK hP wd_9_12 dX6_pass_12 ?_
    refine lv_iload_n hx hb dX6_pass_15 rfl (lv_at hl 1 rfl) ?_
    refine lv_iadd hx hb dX6_pass_16 ?_
    refine zr_top (y := nI (t + n9)) (nI_add t n9) ?_
    refine lv_sipush (v := (9999 : Int32)) hx hb dX6_pass_17 (by decide) ?_
    refine lv_icmp_le (tgt := 29) hx hb dX6_pass_20 (by decide) (fun c20 => ?_) (fun c20 => ?_)
    · have c20 : (t + n9) ≤ 9999 := (nI_leI (a := (t + n9)) (b := 9999) (by omega) (by omega)).mp c20
      refine lv_iconst (v := (0 : Int32)) hx hb dX6_pass_29 (by decide) ?_
      refine lv_istore_n (lv' := [(2, Value.int (0 : Int32)), (0, Value.ref (a 0)), (1, Value.int (nI n9))]) hx hb dX6_pass_30 rfl hl (by decide) rfl (fun ls hl => ?_)
      have LP31 : ∀ (n : Nat) (k : Nat), (k ≤ n9) → n9 - k < n → ∀ (H : Heap) (locs : List Loc) (ls : Array Slot), va_P D vwCl (wM a y mth (nI (t + k)) tb tf ts cap clr mov hom wm (nI nw) wf wt (nI nb) fr bw bl (nI no) od ow ol ork (pdF wf wt nw no t olf k) oco at_ aw mp mpl msh msl mwa mse) H → va_D A (wM a y mth (nI (t + k)) tb tf ts cap clr mov hom wm (nI nw) wf wt (nI nb) fr bw bl (nI no) od ow ol ork (pdF wf wt nw no t olf k) oco at_ aw mp mpl msh msl mwa mse) → va_S A s.heap H locs → lv_has ls 5 [(2, Value.int (nI k)), (0, Value.ref (a 0)), (1, Value.int (nI n9))] → W p l e ({ frames := 1, cells := 0, slots := 0, locals := 23 } : Room) s m args below meth c H locs 0 0 G (F0 m 31 ls []) := by
        intro n
        induction n with
        | zero => intro k hk hn; exact absurd hn (Nat.not_lt_zero _)
        | succ n ih31 =>
          intro k hk hn H locs ls hP hD hS hl
          refine lv_iload_n hx hb dX6_pass_31 rfl (lv_at hl 0 rfl) ?_
          refine lv_iload_n hx hb dX6_pass_32 rfl (lv_at hl 2 rfl) ?_
          refine lv_icmp_ge (tgt := 108) hx hb dX6_pass_33 (by decide) (fun c33 => ?_) (fun c33 => ?_)
          · have c33 : n9 ≤ k := (nI_leI (a := n9) (b := k) (by omega) (by omega)).mp c33
            refine lv_aload_n hx hb dX6_pass_108 rfl (lv_at hl 1 rfl) ?_
            refine lv_aload_n hx hb dX6_pass_109 rfl (lv_at hl 1 rfl) ?_
            refine gM6_time hx hb hta hown hK hP wd_9_12 dX6_pass_110 ?_
            refine z_callV (As := [Value.int (nI (t + k))]) (rest := []) hx hb hml hown hta zm_X6_tells wd_7_13 (c_X6_tells l D y a mth (t + k) tb tf ts cap clr mov hom wm nw wf wt nb fr bw bl no od ow ol ork (pdF wf wt nw no t olf k) oco at_ aw mp mpl msh msl mwa mse (nI (t + k))) hN hK hP hD hS hA 0 rfl rfl rfl hl rfl (Nat.le_of_ble_eq_true rfl) ⟨Nat.le_of_ble_eq_true rfl, Nat.le_of_ble_eq_true rfl⟩ ⟨Nat.le_of_ble_eq_true rfl, Nat.le_of_ble_eq_true rfl⟩ dX6_pass_113 (fun v w' H locs hq hP hD hS => ?_)
            obtain ⟨rfl, rfl⟩ := hq
            refine z_iret hG hx hb hr hlocks hP hD hS (Nat.le_of_ble_eq_true rfl) (Nat.le_of_ble_eq_true rfl) dX6_pass_116 ?_
            refine Or.inl ⟨?_, congrArg (fun z => some (Value.int z)) ?_, ?_⟩
            · rw [psC, if_pos c8, en9, if_pos (by omega)]
            · rw [en9, show k = n9 by omega]
            · rw [en9, show k = n9 by omega]
          · have c33 : ¬ n9 ≤ k := fun z => c33 ((nI_leI (a := n9) (b := k) (by omega) (by omega)).mpr z)
            refine lv_aload_n hx hb dX6_pass_36 rfl (lv_at hl 1 rfl) ?_
            refine lv_aload_n hx hb dX6_pass_37 rfl (lv_at hl 1 rfl) ?_
            refine gM6_time hx hb hta hown hK hP wd_9_12 dX6_pass_38 ?_
            refine z_callV (As := [Value.int (nI (t + k))]) (rest := []) hx hb hml hown hta zm_X6_badAt wd_12_18 (c_X6_badAt l D y a mth (t + k) tb tf ts cap clr mov hom wm nw wf wt nb fr bw bl no od ow ol ork (pdF wf wt nw no t olf k) oco at_ aw mp mpl msh msl mwa mse (nI (t + k)) (by omega)) hN hK hP hD hS hA 0 rfl rfl rfl hl rfl (Nat.le_of_ble_eq_true rfl) ⟨Nat.le_of_ble_eq_true rfl, Nat.le_of_ble_eq_true rfl⟩ ⟨Nat.le_of_ble_eq_true rfl, Nat.le_of_ble_eq_true rfl⟩ dX6_pass_41 (fun v w' H locs hq hP hD hS => ?_)
            obtain ⟨rfl, rfl⟩ := hq
            refine lv_istore_n (lv' := [(3, Value.int (bI (badF wf wt nw (nI (t + k))))), (2, Value.int (nI k)), (0, Value.ref (a 0)), (1, Value.int (nI n9))]) hx hb dX6_pass_44 rfl hl (by decide) rfl (fun ls hl => ?_)
            refine lv_iconst (v := (0 : Int32)) hx hb dX6_pass_45 (by decide) ?_
            refine lv_istore (lv' := [(4, Value.int (0 : Int32)), (3, Value.int (bI (badF wf wt nw (nI (t + k))))), (2, Value.int (nI k)), (0, Value.ref (a 0)), (1, Value.int (nI n9))]) hx hb dX6_pass_46 hl (by decide) rfl (fun ls hl => ?_)
            have LP48 : ∀ (n : Nat) (i : Nat), (i ≤ no) → (badF wf wt nw (nI (t + k)) = true → i = 0) → no - i < n → ∀ (H : Heap) (locs : List Loc) (ls : Array Slot), va_P D vwCl (wM a y mth (nI (t + k)) tb tf ts cap clr mov hom wm (nI nw) wf wt (nI nb) fr bw bl (nI no) od ow ol ork (dry1 (pdF wf wt nw no t olf k) i) oco at_ aw mp mpl msh msl mwa mse) H → va_D A (wM a y mth (nI (t + k)) tb tf ts cap clr mov hom wm (nI nw) wf wt (nI nb) fr bw bl (nI no) od ow ol ork (dry1 (pdF wf wt nw no t olf k) i) oco at_ aw mp mpl msh msl mwa mse) → va_S A s.heap H locs → lv_has ls 5 [(4, Value.int (nI i)), (3, Value.int (bI (badF wf wt nw (nI (t + k))))), (2, Value.int (nI k)), (0, Value.ref (a 0)), (1, Value.int (nI n9))] → W p l e ({ frames := 1, cells := 0, slots := 0, locals := 23 } : Room) s m args below meth c H locs 0 0 G (F0 m 48 ls []) := by
              intro n
              induction n with
              | zero => intro i hi hb0 hn; exact absurd hn (Nat.not_lt_zero _)
              | succ n ih48 =>
                intro i hi hb0 hn H locs ls hP hD hS hl
                refine lv_iload hx hb dX6_pass_48 (lv_at hl 0 rfl) ?_
                refine lv_aload_n hx hb dX6_pass_50 rfl (lv_at hl 3 rfl) ?_
                refine gM6_boats hx hb hta hown hK hP wd_8_13 dX6_pass_51 ?_
                refine lv_icmp_ge (tgt := 92) hx hb dX6_pass_54 (by decide) (fun c54 => ?_) (fun c54 => ?_)
                · have c54 : no ≤ i := (nI_leI (a := no) (b := i) (by omega) (by omega)).mp c54
                  refine lv_aload_n hx hb dX6_pass_92 rfl (lv_at hl 3 rfl) ?_
                  refine lv_dup hx hb dX6_pass_93 rfl ?_
                  refine gM6_time hx hb hta hown hK hP wd_9_12 dX6_pass_94 ?_
                  refine lv_iconst (v := (1 : Int32)) hx hb dX6_pass_97 (by decide) ?_
                  refine lv_iadd hx hb dX6_pass_98 ?_
                  refine zr_top (y := nI ((t + k) + 1)) (nI_add (t + k) 1) ?_
                  refine pM6_time hx hb hta hown hK hP hD hS wd_9_12 dX6_pass_99 (fun H locs hP hD hS => ?_)
                  refine lv_iinc (v := nI (k + 1)) (lv' := [(2, Value.int (nI (k + 1))), (4, Value.int (nI i)), (3, Value.int (bI (badF wf wt nw (nI (t + k))))), (0, Value.ref (a 0)), (1, Value.int (nI n9))]) hx hb dX6_pass_102 hl (k := 2) rfl (nI_add k 1) (by decide) rfl (fun ls hl => ?_)
                  refine lv_goto (tgt := 31) hx hb dX6_pass_105 (by decide) ?_
                  have hl := lv_sub hl [0, 3, 4] rfl
                  have ew5_olf : dry1 (pdF wf wt nw no t olf k) i = pdF wf wt nw no t olf (k + 1) := by
                    first
                    | with_reducible rfl
                    | (rw [pdF, if_pos c58, hb0 c58]; rfl)
                    | (rw [pdF, c58, if_neg Bool.false_ne_true, show i = no by omega])
                    | (obtain rfl : i = no := by omega
                       cases hbd : badF wf wt nw (nI (t + k)) with
                       | true => rw [pdF, if_pos hbd, hb0 hbd]; rfl
                       | false => rw [pdF, hbd, if_neg Bool.false_ne_true])
                  have ew5_olf := congrArg (fun z => wM a y mth (nI ((t + k) + 1)) tb tf ts cap clr mov hom wm (nI nw) wf wt (nI nb) fr bw bl (nI no) od ow ol ork z oco at_ aw mp mpl msh msl mwa mse) ew5_olf
                  have hP : va_P D vwCl (wM a y mth (nI ((t + k) + 1)) tb tf ts cap clr mov hom wm (nI nw) wf wt (nI nb) fr bw bl (nI no) od ow ol ork (pdF wf wt nw no t olf (k + 1)) oco at_ aw mp mpl msh msl mwa mse) _ := zw_P ew5_olf hP
                  have hD : va_D A (wM a y mth (nI ((t + k) + 1)) tb tf ts cap clr mov hom wm (nI nw) wf wt (nI nb) fr bw bl (nI no) od ow ol ork (pdF wf wt nw no t olf (k + 1)) oco at_ aw mp mpl msh msl mwa mse) := zw_D ew5_olf hD
                  have ew6_now : nI ((t + k) + 1) = nI (t + (k + 1)) := by
                    rfl
                  have ew6_now := congrArg (fun z => wM a y mth z tb tf ts cap clr mov hom wm (nI nw) wf wt (nI nb) fr bw bl (nI no) od ow ol ork (pdF wf wt nw no t olf (k + 1)) oco at_ aw mp mpl msh msl mwa mse) ew6_now
                  have hP : va_P D vwCl (wM a y mth (nI (t + (k + 1))) tb tf ts cap clr mov hom wm (nI nw) wf wt (nI nb) fr bw bl (nI no) od ow ol ork (pdF wf wt nw no t olf (k + 1)) oco at_ aw mp mpl msh msl mwa mse) _ := zw_P ew6_now hP
                  have hD : va_D A (wM a y mth (nI (t + (k + 1))) tb tf ts cap clr mov hom wm (nI nw) wf wt (nI nb) fr bw bl (nI no) od ow ol ork (pdF wf wt nw no t olf (k + 1)) oco at_ aw mp mpl msh msl mwa mse) := zw_D ew6_now hD
                  exact ih31 (k + 1) (by omega) (by omega) _ _ _ hP hD hS hl
                · have c54 : ¬ no ≤ i := fun z => c54 ((nI_leI (a := no) (b := i) (by omega) (by omega)).mpr z)
                  refine lv_iload_n hx hb dX6_pass_57 rfl (lv_at hl 1 rfl) ?_
                  refine lv_if_ne (tgt := 92) hx hb dX6_pass_58 (by decide) (fun c58 => ?_) (fun c58 => ?_)
                  · have c58 := bI_1 c58
                    refine lv_aload_n hx hb dX6_pass_92 rfl (lv_at hl 3 rfl) ?_
                    refine lv_dup hx hb dX6_pass_93 rfl ?_
                    refine gM6_time hx hb hta hown hK hP wd_9_12 dX6_pass_94 ?_
                    refine lv_iconst (v := (1 : Int32)) hx hb dX6_pass_97 (by decide) ?_
                    refine lv_iadd hx hb dX6_pass_98 ?_
                    refine zr_top (y := nI ((t + k) + 1)) (nI_add (t + k) 1) ?_
                    refine pM6_time hx hb hta hown hK hP hD hS wd_9_12 dX6_pass_99 (fun H locs hP hD hS => ?_)
                    refine lv_iinc (v := nI (k + 1)) (lv' := [(2, Value.int (nI (k + 1))), (4, Value.int (nI i)), (3, Value.int (bI (badF wf wt nw (nI (t + k))))), (0, Value.ref (a 0)), (1, Value.int (nI n9))]) hx hb dX6_pass_102 hl (k := 2) rfl (nI_add k 1) (by decide) rfl (fun ls hl => ?_)
                    refine lv_goto (tgt := 31) hx hb dX6_pass_105 (by decide) ?_
                    have hl := lv_sub hl [0, 3, 4] rfl
                    have ew7_olf : dry1 (pdF wf wt nw no t olf k) i = pdF wf wt nw no t olf (k + 1) := by
                      first
                      | with_reducible rfl
                      | (rw [pdF, if_pos c58, hb0 c58]; rfl)
                      | (rw [pdF, c58, if_neg Bool.false_ne_true, show i = no by omega])
                      | (obtain rfl : i = no := by omega
                         cases hbd : badF wf wt nw (nI (t + k)) with
                         | true => rw [pdF, if_pos hbd, hb0 hbd]; rfl
                         | false => rw [pdF, hbd, if_neg Bool.false_ne_true])
                    have ew7_olf := congrArg (fun z => wM a y mth (nI ((t + k) + 1)) tb tf ts cap clr mov hom wm (nI nw) wf wt (nI nb) fr bw bl (nI no) od ow ol ork z oco at_ aw mp mpl msh msl mwa mse) ew7_olf
                    have hP : va_P D vwCl (wM a y mth (nI ((t + k) + 1)) tb tf ts cap clr mov hom wm (nI nw) wf wt (nI nb) fr bw bl (nI no) od ow ol ork (pdF wf wt nw no t olf (k + 1)) oco at_ aw mp mpl msh msl mwa mse) _ := zw_P ew7_olf hP
                    have hD : va_D A (wM a y mth (nI ((t + k) + 1)) tb tf ts cap clr mov hom wm (nI nw) wf wt (nI nb) fr bw bl (nI no) od ow ol ork (pdF wf wt nw no t olf (k + 1)) oco at_ aw mp mpl msh msl mwa mse) := zw_D ew7_olf hD
                    have ew8_now : nI ((t + k) + 1) = nI (t + (k + 1)) := by
                      rfl
                    have ew8_now := congrArg (fun z => wM a y mth z tb tf ts cap clr mov hom wm (nI nw) wf wt (nI nb) fr bw bl (nI no) od ow ol ork (pdF wf wt nw no t olf (k + 1)) oco at_ aw mp mpl msh msl mwa mse) ew8_now
                    have hP : va_P D vwCl (wM a y mth (nI (t + (k + 1))) tb tf ts cap clr mov hom wm (nI nw) wf wt (nI nb) fr bw bl (nI no) od ow ol ork (pdF wf wt nw no t olf (k + 1)) oco at_ aw mp mpl msh msl mwa mse) _ := zw_P ew8_now hP
                    have hD : va_D A (wM a y mth (nI (t + (k + 1))) tb tf ts cap clr mov hom wm (nI nw) wf wt (nI nb) fr bw bl (nI no) od ow ol ork (pdF wf wt nw no t olf (k + 1)) oco at_ aw mp mpl msh msl mwa mse) := zw_D ew8_now hD
                    exact ih31 (k + 1) (by omega) (by omega) _ _ _ hP hD hS hl
                  · have c58 := bI_0 c58
                    refine lv_aload_n hx hb dX6_pass_61 rfl (lv_at hl 3 rfl) ?_
                    refine gM6_dry hx hb hta hown hK hP wd_5_4 dX6_pass_62 ?_
                    refine lv_iload hx hb dX6_pass_65 (lv_at hl 0 rfl) ?_
                    refine lv_dup2_11 hx hb dX6_pass_67 rfl rfl ?_
                    refine aM_olf hx hb hK hP i rfl (by omega) dX6_pass_68 ?_
                    refine lv_aload_n hx hb dX6_pass_69 rfl (lv_at hl 3 rfl) ?_
                    refine gM6_dry hx hb hta hown hK hP wd_5_4 dX6_pass_70 ?_
                    refine lv_iload hx hb dX6_pass_73 (lv_at hl 0 rfl) ?_
                    refine aM_olf hx hb hK hP i rfl (by omega) dX6_pass_75 ?_
                    refine lv_if_le (tgt := 83) hx hb dX6_pass_76 (by decide) (fun c76 => ?_) (fun c76 => ?_)
                    · refine lv_iconst (v := (0 : Int32)) hx hb dX6_pass_83 (by decide) ?_
                      refine lv_isub hx hb dX6_pass_84 ?_
                      refine sM_olf hx hb hK hP hD hS i rfl (by omega) dX6_pass_85 (fun H locs hP hD hS => ?_)
                      refine lv_iinc (v := nI (i + 1)) (lv' := [(4, Value.int (nI (i + 1))), (3, Value.int (bI (badF wf wt nw (nI (t + k))))), (2, Value.int (nI k)), (0, Value.ref (a 0)), (1, Value.int (nI n9))]) hx hb dX6_pass_86 hl (k := 0) rfl (nI_add i 1) (by decide) rfl (fun ls hl => ?_)
                      refine lv_goto (tgt := 48) hx hb dX6_pass_89 (by decide) ?_
                      have hl := lv_sub hl [0, 1, 2, 3, 4] rfl
                      have ew9_olf : upd (dry1 (pdF wf wt nw no t olf k) i) i (((dry1 (pdF wf wt nw no t olf k) i) i) - (0 : Int32)) = dry1 (pdF wf wt nw no t olf k) (i + 1) := by
                        first
                        | with_reducible rfl
                        | rw [dry1, if_pos c76, upd_same0]
                        | rw [dry1, if_neg c76]
                      have ew9_olf := congrArg (fun z => wM a y mth (nI (t + k)) tb tf ts cap clr mov hom wm (nI nw) wf wt (nI nb) fr bw bl (nI no) od ow ol ork z oco at_ aw mp mpl msh msl mwa mse) ew9_olf
                      have hP : va_P D vwCl (wM a y mth (nI (t + k)) tb tf ts cap clr mov hom wm (nI nw) wf wt (nI nb) fr bw bl (nI no) od ow ol ork (dry1 (pdF wf wt nw no t olf k) (i + 1)) oco at_ aw mp mpl msh msl mwa mse) _ := zw_P ew9_olf hP
                      have hD : va_D A (wM a y mth (nI (t + k)) tb tf ts cap clr mov hom wm (nI nw) wf wt (nI nb) fr bw bl (nI no) od ow ol ork (dry1 (pdF wf wt nw no t olf k) (i + 1)) oco at_ aw mp mpl msh msl mwa mse) := zw_D ew9_olf hD
                      have hv10_hb0 : badF wf wt nw (nI (t + k)) = true → (i + 1) = 0 := by
                        intro z; rw [c58] at z; cases z
                      exact ih48 (i + 1) (by omega) hv10_hb0 (by omega) _ _ _ hP hD hS hl
                    · refine lv_iconst (v := (1 : Int32)) hx hb dX6_pass_79 (by decide) ?_
                      refine lv_goto (tgt := 84) hx hb dX6_pass_80 (by decide) ?_
                      refine lv_isub hx hb dX6_pass_84 ?_
                      refine sM_olf hx hb hK hP hD hS i rfl (by omega) dX6_pass_85 (fun H locs hP hD hS => ?_)
                      refine lv_iinc (v := nI (i + 1)) (lv' := [(4, Value.int (nI (i + 1))), (3, Value.int (bI (badF wf wt nw (nI (t + k))))), (2, Value.int (nI k)), (0, Value.ref (a 0)), (1, Value.int (nI n9))]) hx hb dX6_pass_86 hl (k := 0) rfl (nI_add i 1) (by decide) rfl (fun ls hl => ?_)
                      refine lv_goto (tgt := 48) hx hb dX6_pass_89 (by decide) ?_
                      have hl := lv_sub hl [0, 1, 2, 3, 4] rfl
                      have ew11_olf : upd (dry1 (pdF wf wt nw no t olf k) i) i (((dry1 (pdF wf wt nw no t olf k) i) i) - (1 : Int32)) = dry1 (pdF wf wt nw no t olf k) (i + 1) := by
                        first
                        | with_reducible rfl
                        | rw [dry1, if_pos c76, upd_same0]
                        | rw [dry1, if_neg c76]
                      have ew11_olf := congrArg (fun z => wM a y mth (nI (t + k)) tb tf ts cap clr mov hom wm (nI nw) wf wt (nI nb) fr bw bl (nI no) od ow ol ork z oco at_ aw mp mpl msh msl mwa mse) ew11_olf
                      have hP : va_P D vwCl (wM a y mth (nI (t + k)) tb tf ts cap clr mov hom wm (nI nw) wf wt (nI nb) fr bw bl (nI no) od ow ol ork (dry1 (pdF wf wt nw no t olf k) (i + 1)) oco at_ aw mp mpl msh msl mwa mse) _ := zw_P ew11_olf hP
                      have hD : va_D A (wM a y mth (nI (t + k)) tb tf ts cap clr mov hom wm (nI nw) wf wt (nI nb) fr bw bl (nI no) od ow ol ork (dry1 (pdF wf wt nw no t olf k) (i + 1)) oco at_ aw mp mpl msh msl mwa mse) := zw_D ew11_olf hD
                      have hv12_hb0 : badF wf wt nw (nI (t + k)) = true → (i + 1) = 0 := by
                        intro z; rw [c58] at z; cases z
                      exact ih48 (i + 1) (by omega) hv12_hb0 (by omega) _ _ _ hP hD hS hl
            have eq13_0 : (0 : Int32) = nI 0 := by
              rfl
            have hl := lv_sub hl [0, 1, 2, 3, 4] rfl
            have hl : lv_has ls 5 [(4, Value.int (0 : Int32)), (3, Value.int (bI (badF wf wt nw (nI (t + k))))), (2, Value.int (nI k)), (0, Value.ref (a 0)), (1, Value.int (nI n9))] := hl
            have hl : lv_has ls 5 [(4, Value.int (nI 0)), (3, Value.int (bI (badF wf wt nw (nI (t + k))))), (2, Value.int (nI k)), (0, Value.ref (a 0)), (1, Value.int (nI n9))] := lv_as hl (congrArg (fun z => [(4, Value.int z), (3, Value.int (bI (badF wf wt nw (nI (t + k))))), (2, Value.int (nI k)), (0, Value.ref (a 0)), (1, Value.int (nI n9))]) eq13_0)
            have ew14_olf : pdF wf wt nw no t olf k = dry1 (pdF wf wt nw no t olf k) 0 := by
              rfl
            have ew14_olf := congrArg (fun z => wM a y mth (nI (t + k)) tb tf ts cap clr mov hom wm (nI nw) wf wt (nI nb) fr bw bl (nI no) od ow ol ork z oco at_ aw mp mpl msh msl mwa mse) ew14_olf
            have hP : va_P D vwCl (wM a y mth (nI (t + k)) tb tf ts cap clr mov hom wm (nI nw) wf wt (nI nb) fr bw bl (nI no) od ow ol ork (dry1 (pdF wf wt nw no t olf k) 0) oco at_ aw mp mpl msh msl mwa mse) _ := zw_P ew14_olf hP
            have hD : va_D A (wM a y mth (nI (t + k)) tb tf ts cap clr mov hom wm (nI nw) wf wt (nI nb) fr bw bl (nI no) od ow ol ork (dry1 (pdF wf wt nw no t olf k) 0) oco at_ aw mp mpl msh msl mwa mse) := zw_D ew14_olf hD
            have hv15_hb0 : badF wf wt nw (nI (t + k)) = true → 0 = 0 := by
              intro _; rfl
            exact LP48 (no - 0 + 1) 0 (by omega) hv15_hb0 (Nat.lt_succ_self _) _ _ _ hP hD hS hl
      have eq16_0 : (0 : Int32) = nI 0 := by
        rfl
      have hl := lv_sub hl [0, 1, 2] rfl
      have hl : lv_has ls 5 [(2, Value.int (0 : Int32)), (0, Value.ref (a 0)), (1, Value.int (nI n9))] := hl
      have hl : lv_has ls 5 [(2, Value.int (nI 0)), (0, Value.ref (a 0)), (1, Value.int (nI n9))] := lv_as hl (congrArg (fun z => [(2, Value.int z), (0, Value.ref (a 0)), (1, Value.int (nI n9))]) eq16_0)
      have ew17_olf : olf = pdF wf wt nw no t olf 0 := by
        rfl
      have ew17_olf := congrArg (fun z => wM a y mth (nI t) tb tf ts cap clr mov hom wm (nI nw) wf wt (nI nb) fr bw bl (nI no) od ow ol ork z oco at_ aw mp mpl msh msl mwa mse) ew17_olf
      have hP : va_P D vwCl (wM a y mth (nI t) tb tf ts cap clr mov hom wm (nI nw) wf wt (nI nb) fr bw bl (nI no) od ow ol ork (pdF wf wt nw no t olf 0) oco at_ aw mp mpl msh msl mwa mse) _ := zw_P ew17_olf hP
      have hD : va_D A (wM a y mth (nI t) tb tf ts cap clr mov hom wm (nI nw) wf wt (nI nb) fr bw bl (nI no) od ow ol ork (pdF wf wt nw no t olf 0) oco at_ aw mp mpl msh msl mwa mse) := zw_D ew17_olf hD
      have ew18_now : nI t = nI (t + 0) := by
        rfl
      have ew18_now := congrArg (fun z => wM a y mth z tb tf ts cap clr mov hom wm (nI nw) wf wt (nI nb) fr bw bl (nI no) od ow ol ork (pdF wf wt nw no t olf 0) oco at_ aw mp mpl msh msl mwa mse) ew18_now
      have hP : va_P D vwCl (wM a y mth (nI (t + 0)) tb tf ts cap clr mov hom wm (nI nw) wf wt (nI nb) fr bw bl (nI no) od ow ol ork (pdF wf wt nw no t olf 0) oco at_ aw mp mpl msh msl mwa mse) _ := zw_P ew18_now hP
      have hD : va_D A (wM a y mth (nI (t + 0)) tb tf ts cap clr mov hom wm (nI nw) wf wt (nI nb) fr bw bl (nI no) od ow ol ork (pdF wf wt nw no t olf 0) oco at_ aw mp mpl msh msl mwa mse) := zw_D ew18_now hD
      exact LP31 (n9 - 0 + 1) 0 (by omega) (Nat.lt_succ_self _) _ _ _ hP hD hS hl
    · have c20 : ¬ (t + n9) ≤ 9999 := fun z => c20 ((nI_leI (a := (t + n9)) (b := 9999) (by omega) (by omega)).mpr z)
      refine lv_aload_n hx hb dX6_pass_23 rfl (lv_at hl 0 rfl) ?_
      refine lv_iconst (v := (1 : Int32)) hx hb dX6_pass_24 (by decide) ?_
      refine z_callV (As := [Value.int (1 : Int32)]) (rest := []) hx hb hml hown hta zm_X6_fails wd_7_8 (c_X6_fails l D y a mth t tb tf ts cap clr mov hom wm nw wf wt nb fr bw bl no od ow ol ork olf oco at_ aw mp mpl msh msl mwa mse (1 : Int32)) hN hK hP hD hS hA 0 rfl rfl rfl hl rfl (Nat.le_of_ble_eq_true rfl) ⟨Nat.le_of_ble_eq_true rfl, Nat.le_of_ble_eq_true rfl⟩ ⟨Nat.le_of_ble_eq_true rfl, Nat.le_of_ble_eq_true rfl⟩ dX6_pass_25 (fun v w' H locs hq hP hD hS => ?_)
      obtain ⟨rfl, rfl⟩ := hq
      refine z_iret hG hx hb hr hlocks hP hD hS (Nat.le_of_ble_eq_true rfl) (Nat.le_of_ble_eq_true rfl) dX6_pass_28 ?_
      have hcd : psC t (nI n9) = 1 := by
        first
        | (rw [psC, c8]; rfl)
        | rw [psC, if_pos c8, en9, if_neg (by omega)]
      exact Or.inr ⟨by rw [hcd]; decide, _, rfl, by rw [hcd]; rfl⟩
set_option maxHeartbeats 800000 in
set_option maxRecDepth 100000 in
theorem c_X6_time (l : Launch) (D : va_G) (y : Nat → ClassId) (a : Nat → Nat) (mth : Int32) (t : Nat) (tb tf ts cap clr mov hom : Int32) (wm : Int64) (nw : Nat) (wf wt : Nat → Int32) (nb : Nat) (fr bw bl : Nat → Int32) (no : Nat) (od ow ol ork olf oco at_ aw : Nat → Int32) (mp : Int32) (mpl msh msl mwa mse : Nat → Int32)   : zP l D y yX6_time cX6_time 1 (some .int) 1 0 0 21 [Value.ref (a 0)] (wM a y mth (nI t) tb tf ts cap clr mov hom wm (nI nw) wf wt (nI nb) fr bw bl (nI no) od ow ol ork olf oco at_ aw mp mpl msh msl mwa mse) (fun o9 w9 => o9 = some (Value.int (nI t)) ∧ w9 = wM a y (0 : Int32) (nI t) tb tf ts cap clr mov hom wm (nI nw) wf wt (nI nb) fr bw bl (nI no) od ow ol ork olf oco at_ aw mp mpl msh msl mwa mse) := by
  refine zP.of (by decide +kernel) (Nat.le_of_ble_eq_true rfl) ?_
  intro p e s m args below meth c A ls hx hb hr hta hown hlocks hml hin hN hK hP hD hS hA hl
  refine z_gen (fun G hG => ?_)
  have hl : lv_has ls 1 [(0, Value.ref (a 0))] := hl
  refine lv_aload_n hx hb dX6_time_0 rfl (lv_at hl 0 rfl) ?_
  refine lv_aload_n hx hb dX6_time_1 rfl (lv_at hl 0 rfl) ?_
  refine gM6_time hx hb hta hown hK hP wd_9_12 dX6_time_2 ?_
  refine z_callV (As := [Value.int (nI t)]) (rest := []) hx hb hml hown hta zm_X6_tells wd_7_13 (c_X6_tells l D y a mth t tb tf ts cap clr mov hom wm nw wf wt nb fr bw bl no od ow ol ork olf oco at_ aw mp mpl msh msl mwa mse (nI t)) hN hK hP hD hS hA 0 rfl rfl rfl hl rfl (Nat.le_of_ble_eq_true rfl) ⟨Nat.le_of_ble_eq_true rfl, Nat.le_of_ble_eq_true rfl⟩ ⟨Nat.le_of_ble_eq_true rfl, Nat.le_of_ble_eq_true rfl⟩ dX6_time_5 (fun v w' H locs hq hP hD hS => ?_)
  obtain ⟨rfl, rfl⟩ := hq
  refine z_iret hG hx hb hr hlocks hP hD hS (Nat.le_of_ble_eq_true rfl) (Nat.le_of_ble_eq_true rfl) dX6_time_8 ?_
  refine zqi ?_
  rfl
set_option maxHeartbeats 800000 in
set_option maxRecDepth 100000 in
theorem c_X6_movedWeight (l : Launch) (D : va_G) (y : Nat → ClassId) (a : Nat → Nat) (mth : Int32) (t : Nat) (tb tf ts cap clr mov hom : Int32) (wm : Int64) (nw : Nat) (wf wt : Nat → Int32) (nb : Nat) (fr bw bl : Nat → Int32) (no : Nat) (od ow ol ork olf oco at_ aw : Nat → Int32) (mp : Int32) (mpl msh msl mwa mse : Nat → Int32)   : zP l D y yX6_movedWeight cX6_movedWeight 1 (some .long) 0 0 0 0 [Value.ref (a 0)] (wM a y mth (nI t) tb tf ts cap clr mov hom wm (nI nw) wf wt (nI nb) fr bw bl (nI no) od ow ol ork olf oco at_ aw mp mpl msh msl mwa mse) (fun o9 w9 => o9 = some (Value.long wm) ∧ w9 = wM a y (0 : Int32) (nI t) tb tf ts cap clr mov hom wm (nI nw) wf wt (nI nb) fr bw bl (nI no) od ow ol ork olf oco at_ aw mp mpl msh msl mwa mse) := by
  refine zP.of (by decide +kernel) (Nat.le_of_ble_eq_true rfl) ?_
  intro p e s m args below meth c A ls hx hb hr hta hown hlocks hml hin hN hK hP hD hS hA hl
  refine z_gen (fun G hG => ?_)
  have hl : lv_has ls 1 [(0, Value.ref (a 0))] := hl
  refine lv_aload_n hx hb dX6_movedWeight_0 rfl (lv_at hl 0 rfl) ?_
  refine lv_iconst (v := (0 : Int32)) hx hb dX6_movedWeight_1 (by decide) ?_
  refine pM6_thrown hx hb hta hown hK hP hD hS wd_7_12 dX6_movedWeight_2 (fun H locs hP hD hS => ?_)
  refine lv_aload_n hx hb dX6_movedWeight_5 rfl (lv_at hl 0 rfl) ?_
  refine gM6_moved hx hb hta hown hK hP wd_18_16 dX6_movedWeight_6 ?_
  refine z_lret hG hx hb hr hlocks hP hD hS (Nat.le_of_ble_eq_true rfl) (Nat.le_of_ble_eq_true rfl) dX6_movedWeight_9 ?_
  refine zql ?_
  rfl
