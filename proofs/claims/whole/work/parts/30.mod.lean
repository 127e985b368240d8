set_option maxHeartbeats 800000 in
set_option maxRecDepth 100000 in
theorem c_X6_in (l : Launch) (D : va_G) (y : Nat → ClassId) (a : Nat → Nat) (mth : Int32) (t : Nat) (tb tf ts cap clr mov hom : Int32) (wm : Int64) (nw : Nat) (wf wt : Nat → Int32) (nb : Nat) (fr bw bl : Nat → Int32) (no : Nat) (od ow ol ork olf oco at_ aw : Nat → Int32) (mp : Int32) (mpl msh msl mwa mse : Nat → Int32) (x : Int32) (lo : Int32) (hi : Int32)  : zP l D y yX6_in cX6_in 3 (some .boolean) 0 0 0 0 [Value.int x, Value.int lo, Value.int hi] (wM a y mth (nI t) tb tf ts cap clr mov hom wm (nI nw) wf wt (nI nb) fr bw bl (nI no) od ow ol ork olf oco at_ aw mp mpl msh msl mwa mse) (fun o9 w9 => o9 = some (Value.int (bI (!outR x lo hi))) ∧ w9 = wM a y mth (nI t) tb tf ts cap clr mov hom wm (nI nw) wf wt (nI nb) fr bw bl (nI no) od ow ol ork olf oco at_ aw mp mpl msh msl mwa mse) := by
  refine zP.of (by decide +kernel) (Nat.le_of_ble_eq_true rfl) ?_
  intro p e s m args below meth c A ls hx hb hr hta hown hlocks hml hin hN hK hP hD hS hA hl
  refine z_gen (fun G hG => ?_)
  have hl : lv_has ls 3 [(0, Value.int x), (1, Value.int lo), (2, Value.int hi)] := hl
  refine lv_iload_n hx hb dX6_in_0 rfl (lv_at hl 0 rfl) ?_
  refine lv_iload_n hx hb dX6_in_1 rfl (lv_at hl 1 rfl) ?_
  refine lv_icmp_lt (tgt := 14) hx hb dX6_in_2 (by decide) (fun c2 => ?_) (fun c2 => ?_)
  · refine lv_iconst (v := (0 : Int32)) hx hb dX6_in_14 (by decide) ?_
    refine z_zret hG hx hb hr hlocks hP hD hS (Nat.le_of_ble_eq_true rfl) (Nat.le_of_ble_eq_true rfl) dX6_in_15 ?_ ?_
    · rfl
    · refine zqi ?_
      unfold outR
      first
      | (rw [decide_eq_true (by simp only [Int32.lt_iff_toInt_lt, Int32.le_iff_toInt_le] at c2 ⊢; omega)]; rfl)
      | (rw [decide_eq_false (by simp only [Int32.lt_iff_toInt_lt, Int32.le_iff_toInt_le] at c2 ⊢; omega)]; rfl)
  · refine lv_iload_n hx hb dX6_in_5 rfl (lv_at hl 0 rfl) ?_
    refine lv_iload_n hx hb dX6_in_6 rfl (lv_at hl 2 rfl) ?_
    refine lv_icmp_gt (tgt := 14) hx hb dX6_in_7 (by decide) (fun c7 => ?_) (fun c7 => ?_)
    · refine lv_iconst (v := (0 : Int32)) hx hb dX6_in_14 (by decide) ?_
      refine z_zret hG hx hb hr hlocks hP hD hS (Nat.le_of_ble_eq_true rfl) (Nat.le_of_ble_eq_true rfl) dX6_in_15 ?_ ?_
      · rfl
      · refine zqi ?_
        unfold outR
        first
        | (rw [decide_eq_true (by simp only [Int32.lt_iff_toInt_lt, Int32.le_iff_toInt_le] at c2 c7 ⊢; omega)]; rfl)
        | (rw [decide_eq_false (by simp only [Int32.lt_iff_toInt_lt, Int32.le_iff_toInt_le] at c2 c7 ⊢; omega)]; rfl)
    · refine lv_iconst (v := (1 : Int32)) hx hb dX6_in_10 (by decide) ?_
      refine lv_goto (tgt := 15) hx hb dX6_in_11 (by decide) ?_
      refine z_zret hG hx hb hr hlocks hP hD hS (Nat.le_of_ble_eq_true rfl) (Nat.le_of_ble_eq_true rfl) dX6_in_15 ?_ ?_
      · rfl
      · refine zqi ?_
        unfold outR
        first
        | (rw [decide_eq_true (by simp only [Int32.lt_iff_toInt_lt, Int32.le_iff_toInt_le] at c2 c7 ⊢; omega)]; rfl)
        | (rw [decide_eq_false (by simp only [Int32.lt_iff_toInt_lt, Int32.le_iff_toInt_le] at c2 c7 ⊢; omega)]; rfl)
set_option maxHeartbeats 800000 in
set_option maxRecDepth 100000 in
theorem c_X6_thrown (l : Launch) (D : va_G) (y : Nat → ClassId) (a : Nat → Nat) (mth : Int32) (t : Nat) (tb tf ts cap clr mov hom : Int32) (wm : Int64) (nw : Nat) (wf wt : Nat → Int32) (nb : Nat) (fr bw bl : Nat → Int32) (no : Nat) (od ow ol ork olf oco at_ aw : Nat → Int32) (mp : Int32) (mpl msh msl mwa mse : Nat → Int32)   : zP l D y yX6_thrown cX6_thrown 1 (some .int) 0 0 0 0 [Value.ref (a 0)] (wM a y mth (nI t) tb tf ts cap clr mov hom wm (nI nw) wf wt (nI nb) fr bw bl (nI no) od ow ol ork olf oco at_ aw mp mpl msh msl mwa mse) (fun o9 w9 => o9 = some (Value.int mth) ∧ w9 = wM a y mth (nI t) tb tf ts cap clr mov hom wm (nI nw) wf wt (nI nb) fr bw bl (nI no) od ow ol ork olf oco at_ aw mp mpl msh msl mwa mse) := by
  refine zP.of (by decide +kernel) (Nat.le_of_ble_eq_true rfl) ?_
  intro p e s m args below meth c A ls hx hb hr hta hown hlocks hml hin hN hK hP hD hS hA hl
  refine z_gen (fun G hG => ?_)
  have hl : lv_has ls 1 [(0, Value.ref (a 0))] := hl
  refine lv_aload_n hx hb dX6_thrown_0 rfl (lv_at hl 0 rfl) ?_
  refine gM6_thrown hx hb hta hown hK hP wd_7_12 dX6_thrown_1 ?_
  refine z_iret hG hx hb hr hlocks hP hD hS (Nat.le_of_ble_eq_true rfl) (Nat.le_of_ble_eq_true rfl) dX6_thrown_4 ?_
  refine zqi ?_
  rfl
set_option maxHeartbeats 800000 in
set_option maxRecDepth 100000 in
theorem c_X6_fails (l : Launch) (D : va_G) (y : Nat → ClassId) (a : Nat → Nat) (mth : Int32) (t : Nat) (tb tf ts cap clr mov hom : Int32) (wm : Int64) (nw : Nat) (wf wt : Nat → Int32) (nb : Nat) (fr bw bl : Nat → Int32) (no : Nat) (od ow ol ork olf oco at_ aw : Nat → Int32) (mp : Int32) (mpl msh msl mwa mse : Nat → Int32) (x : Int32)  : zP l D y yX6_fails cX6_fails 2 (some .int) 0 0 0 0 [Value.ref (a 0), Value.int x] (wM a y mth (nI t) tb tf ts cap clr mov hom wm (nI nw) wf wt (nI nb) fr bw bl (nI no) od ow ol ork olf oco at_ aw mp mpl msh msl mwa mse) (fun o9 w9 => o9 = some (Value.int (0 : Int32)) ∧ w9 = wM a y x (nI t) tb tf ts cap clr mov hom wm (nI nw) wf wt (nI nb) fr bw bl (nI no) od ow ol ork olf oco at_ aw mp mpl msh msl mwa mse) := by
  refine zP.of (by decide +kernel) (Nat.le_of_ble_eq_true rfl) ?_
  intro p e s m args below meth c A ls hx hb hr hta hown hlocks hml hin hN hK hP hD hS hA hl
  refine z_gen (fun G hG => ?_)
  have hl : lv_has ls 2 [(0, Value.ref (a 0)), (1, Value.int x)] := hl
  refine lv_aload_n hx hb dX6_fails_0 rfl (lv_at hl 0 rfl) ?_
  refine lv_iload_n hx hb dX6_fails_1 rfl (lv_at hl 1 rfl) ?_
  refine pM6_thrown hx hb hta hown hK hP hD hS wd_7_12 dX6_fails_2 (fun H locs hP hD hS => ?_)
  refine lv_iconst (v := (0 : Int32)) hx hb dX6_fails_5 (by decide) ?_
  refine z_iret hG hx hb hr hlocks hP hD hS (Nat.le_of_ble_eq_true rfl) (Nat.le_of_ble_eq_true rfl) dX6_fails_6 ?_
  refine zqi ?_
  rfl
set_option maxHeartbeats 800000 in
set_option maxRecDepth 100000 in
theorem c_X6_tells (l : Launch) (D : va_G) (y : Nat → ClassId) (a : Nat → Nat) (mth : Int32) (t : Nat) (tb tf ts cap clr mov hom : Int32) (wm : Int64) (nw : Nat) (wf wt : Nat → Int32) (nb : Nat) (fr bw bl : Nat → Int32) (no : Nat) (od ow ol ork olf oco at_ aw : Nat → Int32) (mp : Int32) (mpl msh msl mwa mse : Nat → Int32) (x : Int32)  : zP l D y yX6_tells cX6_tells 2 (some .int) 0 0 0 0 [Value.ref (a 0), Value.int x] (wM a y mth (nI t) tb tf ts cap clr mov hom wm (nI nw) wf wt (nI nb) fr bw bl (nI no) od ow ol ork olf oco at_ aw mp mpl msh msl mwa mse) (fun o9 w9 => o9 = some (Value.int x) ∧ w9 = wM a y (0 : Int32) (nI t) tb tf ts cap clr mov hom wm (nI nw) wf wt (nI nb) fr bw bl (nI no) od ow ol ork olf oco at_ aw mp mpl msh msl mwa mse) := by
  refine zP.of (by decide +kernel) (Nat.le_of_ble_eq_true rfl) ?_
  intro p e s m args below meth c A ls hx hb hr hta hown hlocks hml hin hN hK hP hD hS hA hl
  refine z_gen (fun G hG => ?_)
  have hl : lv_has ls 2 [(0, Value.ref (a 0)), (1, Value.int x)] := hl
  refine lv_aload_n hx hb dX6_tells_0 rfl (lv_at hl 0 rfl) ?_
  refine lv_iconst (v := (0 : Int32)) hx hb dX6_tells_1 (by decide) ?_
  refine pM6_thrown hx hb hta hown hK hP hD hS wd_7_12 dX6_tells_2 (fun H locs hP hD hS => ?_)
  refine lv_iload_n hx hb dX6_tells_5 rfl (lv_at hl 1 rfl) ?_
  refine z_iret hG hx hb hr hlocks hP hD hS (Nat.le_of_ble_eq_true rfl) (Nat.le_of_ble_eq_true rfl) dX6_tells_6 ?_
  refine zqi ?_
  rfl
set_option maxHeartbeats 800000 in
set_option maxRecDepth 100000 in
theorem c_X6_isBoat (l : Launch) (D : va_G) (y : Nat → ClassId) (a : Nat → Nat) (mth : Int32) (t : Nat) (tb tf ts cap clr mov hom : Int32) (wm : Int64) (nw : Nat) (wf wt : Nat → Int32) (nb : Nat) (fr bw bl : Nat → Int32) (no : Nat) (od ow ol ork olf oco at_ aw : Nat → Int32) (mp : Int32) (mpl msh msl mwa mse : Nat → Int32) (x : Int32) (hb8 : no ≤ 8) : zP l D y yX6_isBoat cX6_isBoat 2 (some .boolean) 1 0 0 22 [Value.ref (a 0), Value.int x] (wM a y mth (nI t) tb tf ts cap clr mov hom wm (nI nw) wf wt (nI nb) fr bw bl (nI no) od ow ol ork olf oco at_ aw mp mpl msh msl mwa mse) (fun o9 w9 => o9 = some (Value.int (bI (inB x no))) ∧ w9 = wM a y mth (nI t) tb tf ts cap clr mov hom wm (nI nw) wf wt (nI nb) fr bw bl (nI no) od ow ol ork olf oco at_ aw mp mpl msh msl mwa mse) := by
  refine zP.of (by decide +kernel) (Nat.le_of_ble_eq_true rfl) ?_
  intro p e s m args below meth c A ls hx hb hr hta hown hlocks hml hin hN hK hP hD hS hA hl
  refine z_gen (fun G hG => ?_)
  have hl : lv_has ls 2 [(0, Value.ref (a 0)), (1, Value.int x)] := hl
  refine lv_iload_n hx hb dX6_isBoat_0 rfl (lv_at hl 1 rfl) ?_
  refine lv_iconst (v := (0 : Int32)) hx hb dX6_isBoat_1 (by decide) ?_
  refine lv_aload_n hx hb dX6_isBoat_2 rfl (lv_at hl 0 rfl) ?_
  refine gM6_boats hx hb hta hown hK hP wd_8_13 dX6_isBoat_3 ?_
  refine lv_iconst (v := (1 : Int32)) hx hb dX6_isBoat_6 (by decide) ?_
  refine lv_isub hx hb dX6_isBoat_7 ?_
  refine z_callS (As := [Value.int x, Value.int (0 : Int32), Value.int ((nI no) - (1 : Int32))]) (rest := []) hx hb hml hown hta zm_X6_in wd_7_5 (c_X6_in l D y a mth t tb tf ts cap clr mov hom wm nw wf wt nb fr bw bl no od ow ol ork olf oco at_ aw mp mpl msh msl mwa mse x (0 : Int32) ((nI no) - (1 : Int32))) hN hK hP hD hS hA rfl hl rfl (Nat.le_of_ble_eq_true rfl) ⟨Nat.le_of_ble_eq_true rfl, Nat.le_of_ble_eq_true rfl⟩ ⟨Nat.le_of_ble_eq_true rfl, Nat.le_of_ble_eq_true rfl⟩ dX6_isBoat_8 (fun v w' H locs hq hP hD hS => ?_)
  obtain ⟨rfl, rfl⟩ := hq
  refine z_zret hG hx hb hr hlocks hP hD hS (Nat.le_of_ble_eq_true rfl) (Nat.le_of_ble_eq_true rfl) dX6_isBoat_11 ?_ ?_
  · exact bI_nar _
  · refine zqi ?_
    rw [inB_out hb8]
set_option maxHeartbeats 800000 in
set_option maxRecDepth 100000 in
theorem c_X6_isBerth (l : Launch) (D : va_G) (y : Nat → ClassId) (a : Nat → Nat) (mth : Int32) (t : Nat) (tb tf ts cap clr mov hom : Int32) (wm : Int64) (nw : Nat) (wf wt : Nat → Int32) (nb : Nat) (fr bw bl : Nat → Int32) (no : Nat) (od ow ol ork olf oco at_ aw : Nat → Int32) (mp : Int32) (mpl msh msl mwa mse : Nat → Int32) (x : Int32) (hb6 : nb ≤ 6) : zP l D y yX6_isBerth cX6_isBerth 2 (some .boolean) 1 0 0 22 [Value.ref (a 0), Value.int x] (wM a y mth (nI t) tb tf ts cap clr mov hom wm (nI nw) wf wt (nI nb) fr bw bl (nI no) od ow ol ork olf oco at_ aw mp mpl msh msl mwa mse) (fun o9 w9 => o9 = some (Value.int (bI (inB x nb))) ∧ w9 = wM a y mth (nI t) tb tf ts cap clr mov hom wm (nI nw) wf wt (nI nb) fr bw bl (nI no) od ow ol ork olf oco at_ aw mp mpl msh msl mwa mse) := by
  refine zP.of (by decide +kernel) (Nat.le_of_ble_eq_true rfl) ?_
  intro p e s m args below meth c A ls hx hb hr hta hown hlocks hml hin hN hK hP hD hS hA hl
  refine z_gen (fun G hG => ?_)
  have hl : lv_has ls 2 [(0, Value.ref (a 0)), (1, Value.int x)] := hl
  refine lv_iload_n hx hb dX6_isBerth_0 rfl (lv_at hl 1 rfl) ?_
  refine lv_iconst (v := (0 : Int32)) hx hb dX6_isBerth_1 (by decide) ?_
  refine lv_aload_n hx hb dX6_isBerth_2 rfl (lv_at hl 0 rfl) ?_
  refine gM6_berths hx hb hta hown hK hP wd_7_0 dX6_isBerth_3 ?_
  refine lv_iconst (v := (1 : Int32)) hx hb dX6_isBerth_6 (by decide) ?_
  refine lv_isub hx hb dX6_isBerth_7 ?_
  refine z_callS (As := [Value.int x, Value.int (0 : Int32), Value.int ((nI nb) - (1 : Int32))]) (rest := []) hx hb hml hown hta zm_X6_in wd_7_5 (c_X6_in l D y a mth t tb tf ts cap clr mov hom wm nw wf wt nb fr bw bl no od ow ol ork olf oco at_ aw mp mpl msh msl mwa mse x (0 : Int32) ((nI nb) - (1 : Int32))) hN hK hP hD hS hA rfl hl rfl (Nat.le_of_ble_eq_true rfl) ⟨Nat.le_of_ble_eq_true rfl, Nat.le_of_ble_eq_true rfl⟩ ⟨Nat.le_of_ble_eq_true rfl, Nat.le_of_ble_eq_true rfl⟩ dX6_isBerth_8 (fun v w' H locs hq hP hD hS => ?_)
  obtain ⟨rfl, rfl⟩ := hq
  refine z_zret hG hx hb hr hlocks hP hD hS (Nat.le_of_ble_eq_true rfl) (Nat.le_of_ble_eq_true rfl) dX6_isBerth_11 ?_ ?_
  · exact bI_nar _
  · refine zqi ?_
    rw [inB_out (by omega)]
set_option maxHeartbeats 800000 in
set_option maxRecDepth 100000 in
theorem c_X6_size (l : Launch) (D : va_G) (y : Nat → ClassId) (a : Nat → Nat) (mth : Int32) (t : Nat) (tb tf ts cap clr mov hom : Int32) (wm : Int64) (nw : Nat) (wf wt : Nat → Int32) (nb : Nat) (fr bw bl : Nat → Int32) (no : Nat) (od ow ol ork olf oco at_ aw : Nat → Int32) (mp : Int32) (mpl msh msl mwa mse : Nat → Int32) (x : Int32)  : zP l D y yX6_size cX6_size 1 (some .int) 0 0 0 0 [Value.int x] (wM a y mth (nI t) tb tf ts cap clr mov hom wm (nI nw) wf wt (nI nb) fr bw bl (nI no) od ow ol ork olf oco at_ aw mp mpl msh msl mwa mse) (fun o9 w9 => o9 = some (Value.int (iab x)) ∧ w9 = wM a y mth (nI t) tb tf ts cap clr mov hom wm (nI nw) wf wt (nI nb) fr bw bl (nI no) od ow ol ork olf oco at_ aw mp mpl msh msl mwa mse) := by
  refine zP.of (by decide +kernel) (Nat.le_of_ble_eq_true rfl) ?_
  intro p e s m args below meth c A ls hx hb hr hta hown hlocks hml hin hN hK hP hD hS hA hl
  refine z_gen (fun G hG => ?_)
  have hl : lv_has ls 1 [(0, Value.int x)] := hl
  refine lv_iload_n hx hb dX6_size_0 rfl (lv_at hl 0 rfl) ?_
  refine lv_if_ge (tgt := 9) hx hb dX6_size_1 (by decide) (fun c1 => ?_) (fun c1 => ?_)
  · refine lv_iload_n hx hb dX6_size_9 rfl (lv_at hl 0 rfl) ?_
    refine z_iret hG hx hb hr hlocks hP hD hS (Nat.le_of_ble_eq_true rfl) (Nat.le_of_ble_eq_true rfl) dX6_size_10 ?_
    refine zqi ?_
    unfold iab
    first
    | rw [if_pos c1]
    | (rw [if_neg c1, Int32.zero_sub])
  · refine lv_iload_n hx hb dX6_size_4 rfl (lv_at hl 0 rfl) ?_
    refine lv_ineg hx hb dX6_size_5 ?_
    refine lv_goto (tgt := 10) hx hb dX6_size_6 (by decide) ?_
    refine z_iret hG hx hb hr hlocks hP hD hS (Nat.le_of_ble_eq_true rfl) (Nat.le_of_ble_eq_true rfl) dX6_size_10 ?_
    refine zqi ?_
    unfold iab
    first
    | rw [if_pos c1]
    | (rw [if_neg c1, Int32.zero_sub])
set_option maxHeartbeats 800000 in
set_option maxRecDepth 100000 in
theorem c_X6_levelAt (l : Launch) (D : va_G) (y : Nat → ClassId) (a : Nat → Nat) (mth : Int32) (t : Nat) (tb tf ts cap clr mov hom : Int32) (wm : Int64) (nw : Nat) (wf wt : Nat → Int32) (nb : Nat) (fr bw bl : Nat → Int32) (no : Nat) (od ow ol ork olf oco at_ aw : Nat → Int32) (mp : Int32) (mpl msh msl mwa mse : Nat → Int32) (h : Int32)  : zP l D y yX6_levelAt cX6_levelAt 2 (some .int) 1 0 0 20 [Value.ref (a 0), Value.int h] (wM a y mth (nI t) tb tf ts cap clr mov hom wm (nI nw) wf wt (nI nb) fr bw bl (nI no) od ow ol ork olf oco at_ aw mp mpl msh msl mwa mse) (fun o9 w9 => o9 = some (Value.int (lev tb tf ts h)) ∧ w9 = wM a y mth (nI t) tb tf ts cap clr mov hom wm (nI nw) wf wt (nI nb) fr bw bl (nI no) od ow ol ork olf oco at_ aw mp mpl msh msl mwa mse) := by
  refine zP.of (by decide +kernel) (Nat.le_of_ble_eq_true rfl) ?_
  intro p e s m args below meth c A ls hx hb hr hta hown hlocks hml hin hN hK hP hD hS hA hl
  refine z_gen (fun G hG => ?_)
  have hl : lv_has ls 2 [(0, Value.ref (a 0)), (1, Value.int h)] := hl
  refine lv_aload_n hx hb dX6_levelAt_0 rfl (lv_at hl 0 rfl) ?_
  refine gM6_base hx hb hta hown hK hP wd_4_13 dX6_levelAt_1 ?_
  refine lv_aload_n hx hb dX6_levelAt_4 rfl (lv_at hl 0 rfl) ?_
  refine gM6_first hx hb hta hown hK hP wd_4_14 dX6_levelAt_5 ?_
  refine lv_iconst (v := (3 : Int32)) hx hb dX6_levelAt_8 (by decide) ?_
  refine lv_bipush (v := (6 : Int32)) hx hb dX6_levelAt_9 (by decide) ?_
  refine lv_iload_n hx hb dX6_levelAt_11 rfl (lv_at hl 1 rfl) ?_
  refine lv_bipush (v := (12 : Int32)) hx hb dX6_levelAt_12 (by decide) ?_
  refine lv_irem hx hb dX6_levelAt_14 (by decide) ?_
  refine lv_isub hx hb dX6_levelAt_15 ?_
  refine z_callS (As := [Value.int ((6 : Int32) - (h - h / (12 : Int32) * (12 : Int32)))]) (rest := [Value.int (3 : Int32), Value.int tf, Value.int tb]) hx hb hml hown hta zm_X6_size wd_9_17 (c_X6_size l D y a mth t tb tf ts cap clr mov hom wm nw wf wt nb fr bw bl no od ow ol ork olf oco at_ aw mp mpl msh msl mwa mse ((6 : Int32) - (h - h / (12 : Int32) * (12 : Int32)))) hN hK hP hD hS hA rfl hl rfl (Nat.le_of_ble_eq_true rfl) ⟨Nat.le_of_ble_eq_true rfl, Nat.le_of_ble_eq_true rfl⟩ ⟨Nat.le_of_ble_eq_true rfl, Nat.le_of_ble_eq_true rfl⟩ dX6_levelAt_16 (fun v w' H locs hq hP hD hS => ?_)
  obtain ⟨rfl, rfl⟩ := hq
  refine lv_isub hx hb dX6_levelAt_19 ?_
  refine lv_imul hx hb dX6_levelAt_20 ?_
  refine lv_iadd hx hb dX6_levelAt_21 ?_
  refine lv_aload_n hx hb dX6_levelAt_22 rfl (lv_at hl 0 rfl) ?_
  refine gM6_second hx hb hta hown hK hP wd_4_15 dX6_levelAt_23 ?_
  refine lv_bipush (v := (6 : Int32)) hx hb dX6_levelAt_26 (by decide) ?_
  refine lv_bipush (v := (12 : Int32)) hx hb dX6_levelAt_28 (by decide) ?_
  refine lv_iload_n hx hb dX6_levelAt_30 rfl (lv_at hl 1 rfl) ?_
  refine lv_bipush (v := (25 : Int32)) hx hb dX6_levelAt_31 (by decide) ?_
  refine lv_irem hx hb dX6_levelAt_33 (by decide) ?_
  refine lv_isub hx hb dX6_levelAt_34 ?_
  refine z_callS (As := [Value.int ((12 : Int32) - (h - h / (25 : Int32) * (25 : Int32)))]) (rest := [Value.int (6 : Int32), Value.int ts, Value.int (tb + (tf * ((3 : Int32) - (iab ((6 : Int32) - (h - h / (12 : Int32) * (12 : Int32)))))))]) hx hb hml hown hta zm_X6_size wd_9_17 (c_X6_size l D y a mth t tb tf ts cap clr mov hom wm nw wf wt nb fr bw bl no od ow ol ork olf oco at_ aw mp mpl msh msl mwa mse ((12 : Int32) - (h - h / (25 : Int32) * (25 : Int32)))) hN hK hP hD hS hA rfl hl rfl (Nat.le_of_ble_eq_true rfl) ⟨Nat.le_of_ble_eq_true rfl, Nat.le_of_ble_eq_true rfl⟩ ⟨Nat.le_of_ble_eq_true rfl, Nat.le_of_ble_eq_true rfl⟩ dX6_levelAt_35 (fun v w' H locs hq hP hD hS => ?_)
  obtain ⟨rfl, rfl⟩ := hq
  refine lv_isub hx hb dX6_levelAt_38 ?_
  refine lv_imul hx hb dX6_levelAt_39 ?_
  refine lv_iadd hx hb dX6_levelAt_40 ?_
  refine z_iret hG hx hb hr hlocks hP hD hS (Nat.le_of_ble_eq_true rfl) (Nat.le_of_ble_eq_true rfl) dX6_levelAt_41 ?_
  refine zqi ?_
  rfl
set_option maxHeartbeats 800000 in
set_option maxRecDepth 100000 in
theorem c_X6_addBerth (l : Launch) (D : va_G) (y : Nat → ClassId) (a : Nat → Nat) (mth : Int32) (t : Nat) (tb tf ts cap clr mov hom : Int32) (wm : Int64) (nw : Nat) (wf wt : Nat → Int32) (nb : Nat) (fr bw bl : Nat → Int32) (no : Nat) (od ow ol ork olf oco at_ aw : Nat → Int32) (mp : Int32) (mpl msh msl mwa mse : Nat → Int32) (f : Int32) (g : Int32) (h : Int32) (hb6 : nb ≤ 6) : zP l D y yX6_addBerth cX6_addBerth 4 (some .int) 2 0 0 43 [Value.ref (a 0), Value.int f, Value.int g, Value.int h] (wM a y mth (nI t) tb tf ts cap clr mov hom wm (nI nw) wf wt (nI nb) fr bw bl (nI no) od ow ol ork olf oco at_ aw mp mpl msh msl mwa mse) (fun o9 w9 => (abC nb f g h = 0 ∧ o9 = some (Value.int (nI nb)) ∧ w9 = wM a y (0 : Int32) (nI t) tb tf ts cap clr mov hom wm (nI nw) wf wt (nI (nb + 1)) (upd fr nb f) (upd bw nb g) (upd bl nb h) (nI no) od ow ol ork olf oco at_ aw mp mpl msh msl mwa mse) ∨ (abC nb f g h ≠ 0 ∧ ∃ r9, o9 = some (Value.int r9) ∧ w9 = wM a y (nI (abC nb f g h)) (nI t) tb tf ts cap clr mov hom wm (nI nw) wf wt (nI nb) fr bw bl (nI no) od ow ol ork olf oco at_ aw mp mpl msh msl mwa mse)) := by
  refine zP.of (by decide +kernel) (Nat.le_of_ble_eq_true rfl) ?_
  intro p e s m args below meth c A ls hx hb hr hta hown hlocks hml hin hN hK hP hD hS hA hl
  refine z_gen (fun G hG => ?_)
  have hl : lv_has ls 4 [(0, Value.ref (a 0)), (1, Value.int f), (2, Value.int g), (3, Value.int h)] := hl
  refine lv_iload_n hx hb dX6_addBerth_0 rfl (lv_at hl 1 rfl) ?_
  refine lv_iconst (v := (-1 : Int32)) hx hb dX6_addBerth_1 (by decide) ?_
  refine lv_icmp_eq (tgt := 19) hx hb dX6_addBerth_2 (by decide) (fun c2 => ?_) (fun c2 => ?_)
  · refine lv_iload_n hx hb dX6_addBerth_19 rfl (lv_at hl 2 rfl) ?_
    refine lv_iconst (v := (1 : Int32)) hx hb dX6_addBerth_20 (by decide) ?_
    refine lv_sipush (v := (200 : Int32)) hx hb dX6_addBerth_21 (by decide) ?_
    refine z_callS (As := [Value.int g, Value.int (1 : Int32), Value.int (200 : Int32)]) (rest := []) hx hb hml hown hta zm_X6_in wd_7_5 (c_X6_in l D y a mth t tb tf ts cap clr mov hom wm nw wf wt nb fr bw bl no od ow ol ork olf oco at_ aw mp mpl msh msl mwa mse g (1 : Int32) (200 : Int32)) hN hK hP hD hS hA rfl hl rfl (Nat.le_of_ble_eq_true rfl) ⟨Nat.le_of_ble_eq_true rfl, Nat.le_of_ble_eq_true rfl⟩ ⟨Nat.le_of_ble_eq_true rfl, Nat.le_of_ble_eq_true rfl⟩ dX6_addBerth_24 (fun v w' H locs hq hP hD hS => ?_)
    obtain ⟨rfl, rfl⟩ := hq
    refine lv_if_eq (tgt := 40) hx hb dX6_addBerth_27 (by decide) (fun c27 => ?_) (fun c27 => ?_)
    · have c27 := bI_n0 c27
      refine lv_aload_n hx hb dX6_addBerth_40 rfl (lv_at hl 0 rfl) ?_
      refine lv_iconst (v := (2 : Int32)) hx hb dX6_addBerth_41 (by decide) ?_
      refine z_callV (As := [Value.int (2 : Int32)]) (rest := []) hx hb hml hown hta zm_X6_fails wd_7_8 (c_X6_fails l D y a mth t tb tf ts cap clr mov hom wm nw wf wt nb fr bw bl no od ow ol ork olf oco at_ aw mp mpl msh msl mwa mse (2 : Int32)) hN hK hP hD hS hA 0 rfl rfl rfl hl rfl (Nat.le_of_ble_eq_true rfl) ⟨Nat.le_of_ble_eq_true rfl, Nat.le_of_ble_eq_true rfl⟩ ⟨Nat.le_of_ble_eq_true rfl, Nat.le_of_ble_eq_true rfl⟩ dX6_addBerth_42 (fun v w' H locs hq hP hD hS => ?_)
      obtain ⟨rfl, rfl⟩ := hq
      refine z_iret hG hx hb hr hlocks hP hD hS (Nat.le_of_ble_eq_true rfl) (Nat.le_of_ble_eq_true rfl) dX6_addBerth_45 ?_
      have hcd : abC nb f g h = 2 := by
        simp [abC, c2, c27] <;> omega
      exact Or.inr ⟨by rw [hcd]; decide, _, rfl, by rw [hcd]; rfl⟩
    · have c27 := bI_n1 c27
      refine lv_iload_n hx hb dX6_addBerth_30 rfl (lv_at hl 3 rfl) ?_
      refine lv_iconst (v := (1 : Int32)) hx hb dX6_addBerth_31 (by decide) ?_
      refine lv_bipush (v := (40 : Int32)) hx hb dX6_addBerth_32 (by decide) ?_
      refine z_callS (As := [Value.int h, Value.int (1 : Int32), Value.int (40 : Int32)]) (rest := []) hx hb hml hown hta zm_X6_in wd_7_5 (c_X6_in l D y a mth t tb tf ts cap clr mov hom wm nw wf wt nb fr bw bl no od ow ol ork olf oco at_ aw mp mpl msh msl mwa mse h (1 : Int32) (40 : Int32)) hN hK hP hD hS hA rfl hl rfl (Nat.le_of_ble_eq_true rfl) ⟨Nat.le_of_ble_eq_true rfl, Nat.le_of_ble_eq_true rfl⟩ ⟨Nat.le_of_ble_eq_true rfl, Nat.le_of_ble_eq_true rfl⟩ dX6_addBerth_34 (fun v w' H locs hq hP hD hS => ?_)
      obtain ⟨rfl, rfl⟩ := hq
      refine lv_if_ne (tgt := 46) hx hb dX6_addBerth_37 (by decide) (fun c37 => ?_) (fun c37 => ?_)
      · have c37 := bI_n1 c37
        refine lv_aload_n hx hb dX6_addBerth_46 rfl (lv_at hl 0 rfl) ?_
        refine gM6_berths hx hb hta hown hK hP wd_7_0 dX6_addBerth_47 ?_
        refine lv_bipush (v := (6 : Int32)) hx hb dX6_addBerth_50 (by decide) ?_
        refine lv_icmp_ne (tgt := 61) hx hb dX6_addBerth_52 (by decide) (fun c52 => ?_) (fun c52 => ?_)
        · have c52 : ¬ nb = 6 := fun z => c52 ((nI_eq (a := nb) (b := 6) (by omega) (by omega)).mpr z)
          refine lv_aload_n hx hb dX6_addBerth_61 rfl (lv_at hl 0 rfl) ?_
          refine gM6_front hx hb hta hown hK hP wd_4_21 dX6_addBerth_62 ?_
          refine lv_aload_n hx hb dX6_addBerth_65 rfl (lv_at hl 0 rfl) ?_
          refine gM6_berths hx hb hta hown hK hP wd_7_0 dX6_addBerth_66 ?_
          refine lv_iload_n hx hb dX6_addBerth_69 rfl (lv_at hl 1 rfl) ?_
          refine sM_fr hx hb hK hP hD hS nb rfl (by omega) dX6_addBerth_70 (fun H locs hP hD hS => ?_)
          refine lv_aload_n hx hb dX6_addBerth_71 rfl (lv_at hl 0 rfl) ?_
          refine gM6_berthWeight hx hb hta hown hK hP wd_4_22 dX6_addBerth_72 ?_
          refine lv_aload_n hx hb dX6_addBerth_75 rfl (lv_at hl 0 rfl) ?_
          refine gM6_berths hx hb hta hown hK hP wd_7_0 dX6_addBerth_76 ?_
          refine lv_iload_n hx hb dX6_addBerth_79 rfl (lv_at hl 2 rfl) ?_
          refine sM_bw hx hb hK hP hD hS nb rfl (by omega) dX6_addBerth_80 (fun H locs hP hD hS => ?_)
          refine lv_aload_n hx hb dX6_addBerth_81 rfl (lv_at hl 0 rfl) ?_
          refine gM6_berthLength hx hb hta hown hK hP wd_4_23 dX6_addBerth_82 ?_
          refine lv_aload_n hx hb dX6_addBerth_85 rfl (lv_at hl 0 rfl) ?_
          refine gM6_berths hx hb hta hown hK hP wd_7_0 dX6_addBerth_86 ?_
          refine lv_iload_n hx hb dX6_addBerth_89 rfl (lv_at hl 3 rfl) ?_
          refine sM_bl hx hb hK hP hD hS nb rfl (by omega) dX6_addBerth_90 (fun H locs hP hD hS => ?_)
          refine lv_aload_n hx hb dX6_addBerth_91 rfl (lv_at hl 0 rfl) ?_
          refine lv_dup hx hb dX6_addBerth_92 rfl ?_
          refine gM6_berths hx hb hta hown hK hP wd_7_0 dX6_addBerth_93 ?_
          refine lv_iconst (v := (1 : Int32)) hx hb dX6_addBerth_96 (by decide) ?_
          refine lv_iadd hx hb dX6_addBerth_97 ?_
          refine zr_top (y := nI (nb + 1)) (nI_add nb 1) ?_
          refine pM6_berths hx hb hta hown hK hP hD hS wd_7_0 dX6_addBerth_98 (fun H locs hP hD hS => ?_)
          refine lv_aload_n hx hb dX6_addBerth_101 rfl (lv_at hl 0 rfl) ?_
          refine lv_aload_n hx hb dX6_addBerth_102 rfl (lv_at hl 0 rfl) ?_
          refine gM6_berths hx hb hta hown hK hP wd_7_0 dX6_addBerth_103 ?_
          refine lv_iconst (v := (1 : Int32)) hx hb dX6_addBerth_106 (by decide) ?_
          refine lv_isub hx hb dX6_addBerth_107 ?_
          refine z_callV (As := [Value.int ((nI (nb + 1)) - (1 : Int32))]) (rest := []) hx hb hml hown hta zm_X6_tells wd_7_13 (c_X6_tells l D y a mth t tb tf ts cap clr mov hom wm nw wf wt (nb + 1) (upd fr nb f) (upd bw nb g) (upd bl nb h) no od ow ol ork olf oco at_ aw mp mpl msh msl mwa mse ((nI (nb + 1)) - (1 : Int32))) hN hK hP hD hS hA 0 rfl rfl rfl hl rfl (Nat.le_of_ble_eq_true rfl) ⟨Nat.le_of_ble_eq_true rfl, Nat.le_of_ble_eq_true rfl⟩ ⟨Nat.le_of_ble_eq_true rfl, Nat.le_of_ble_eq_true rfl⟩ dX6_addBerth_108 (fun v w' H locs hq hP hD hS => ?_)
          obtain ⟨rfl, rfl⟩ := hq
          refine z_iret hG hx hb hr hlocks hP hD hS (Nat.le_of_ble_eq_true rfl) (Nat.le_of_ble_eq_true rfl) dX6_addBerth_111 ?_
          refine Or.inl ⟨?_, congrArg (fun z => some (Value.int z)) ?_, ?_⟩
          · simp [abC, c2, c27, c37] <;> omega
          · exact nI_pred nb
          · rfl
        · have c52 : nb = 6 := (nI_eq (a := nb) (b := 6) (by omega) (by omega)).mp c52
          refine lv_aload_n hx hb dX6_addBerth_55 rfl (lv_at hl 0 rfl) ?_
          refine lv_iconst (v := (3 : Int32)) hx hb dX6_addBerth_56 (by decide) ?_
          refine z_callV (As := [Value.int (3 : Int32)]) (rest := []) hx hb hml hown hta zm_X6_fails wd_7_8 (c_X6_fails l D y a mth t tb tf ts cap clr mov hom wm nw wf wt nb fr bw bl no od ow ol ork olf oco at_ aw mp mpl msh msl mwa mse (3 : Int32)) hN hK hP hD hS hA 0 rfl rfl rfl hl rfl (Nat.le_of_ble_eq_true rfl) ⟨Nat.le_of_ble_eq_true rfl, Nat.le_of_ble_eq_true rfl⟩ ⟨Nat.le_of_ble_eq_true rfl, Nat.le_of_ble_eq_true rfl⟩ dX6_addBerth_57 (fun v w' H locs hq hP hD hS => ?_)
          obtain ⟨rfl, rfl⟩ := hq
          refine z_iret hG hx hb hr hlocks hP hD hS (Nat.le_of_ble_eq_true rfl) (Nat.le_of_ble_eq_true rfl) dX6_addBerth_60 ?_
          have hcd : abC nb f g h = 3 := by
            simp [abC, c2, c27, c37] <;> omega
          exact Or.inr ⟨by rw [hcd]; decide, _, rfl, by rw [hcd]; rfl⟩
      · have c37 := bI_n0 c37
        refine lv_aload_n hx hb dX6_addBerth_40 rfl (lv_at hl 0 rfl) ?_
        refine lv_iconst (v := (2 : Int32)) hx hb dX6_addBerth_41 (by decide) ?_
        refine z_callV (As := [Value.int (2 : Int32)]) (rest := []) hx hb hml hown hta zm_X6_fails wd_7_8 (c_X6_fails l D y a mth t tb tf ts cap clr mov hom wm nw wf wt nb fr bw bl no od ow ol ork olf oco at_ aw mp mpl msh msl mwa mse (2 : Int32)) hN hK hP hD hS hA 0 rfl rfl rfl hl rfl (Nat.le_of_ble_eq_true rfl) ⟨Nat.le_of_ble_eq_true rfl, Nat.le_of_ble_eq_true rfl⟩ ⟨Nat.le_of_ble_eq_true rfl, Nat.le_of_ble_eq_true rfl⟩ dX6_addBerth_42 (fun v w' H locs hq hP hD hS => ?_)
        obtain ⟨rfl, rfl⟩ := hq
        refine z_iret hG hx hb hr hlocks hP hD hS (Nat.le_of_ble_eq_true rfl) (Nat.le_of_ble_eq_true rfl) dX6_addBerth_45 ?_
        have hcd : abC nb f g h = 2 := by
          simp [abC, c2, c27, c37] <;> omega
        exact Or.inr ⟨by rw [hcd]; decide, _, rfl, by rw [hcd]; rfl⟩
  · refine lv_aload_n hx hb dX6_addBerth_5 rfl (lv_at hl 0 rfl) ?_
    refine lv_iload_n hx hb dX6_addBerth_6 rfl (lv_at hl 1 rfl) ?_
    refine z_callV (As := [Value.int f]) (rest := []) hx hb hml hown hta zm_X6_isBerth wd_7_1 (c_X6_isBerth l D y a mth t tb tf ts cap clr mov hom wm nw wf wt nb fr bw bl no od ow ol ork olf oco at_ aw mp mpl msh msl mwa mse f (by omega)) hN hK hP hD hS hA 0 rfl rfl rfl hl rfl (Nat.le_of_ble_eq_true rfl) ⟨Nat.le_of_ble_eq_true rfl, Nat.le_of_ble_eq_true rfl⟩ ⟨Nat.le_of_ble_eq_true rfl, Nat.le_of_ble_eq_true rfl⟩ dX6_addBerth_7 (fun v w' H locs hq hP hD hS => ?_)
    obtain ⟨rfl, rfl⟩ := hq
    refine lv_if_ne (tgt := 19) hx hb dX6_addBerth_10 (by decide) (fun c10 => ?_) (fun c10 => ?_)
    · have c10 := bI_1 c10
      refine lv_iload_n hx hb dX6_addBerth_19 rfl (lv_at hl 2 rfl) ?_
      refine lv_iconst (v := (1 : Int32)) hx hb dX6_addBerth_20 (by decide) ?_
      refine lv_sipush (v := (200 : Int32)) hx hb dX6_addBerth_21 (by decide) ?_
      refine z_callS (As := [Value.int g, Value.int (1 : Int32), Value.int (200 : Int32)]) (rest := []) hx hb hml hown hta zm_X6_in wd_7_5 (c_X6_in l D y a mth t tb tf ts cap clr mov hom wm nw wf wt nb fr bw bl no od ow ol ork olf oco at_ aw mp mpl msh msl mwa mse g (1 : Int32) (200 : Int32)) hN hK hP hD hS hA rfl hl rfl (Nat.le_of_ble_eq_true rfl) ⟨Nat.le_of_ble_eq_true rfl, Nat.le_of_ble_eq_true rfl⟩ ⟨Nat.le_of_ble_eq_true rfl, Nat.le_of_ble_eq_true rfl⟩ dX6_addBerth_24 (fun v w' H locs hq hP hD hS => ?_)
      obtain ⟨rfl, rfl⟩ := hq
      refine lv_if_eq (tgt := 40) hx hb dX6_addBerth_27 (by decide) (fun c27 => ?_) (fun c27 => ?_)
      · have c27 := bI_n0 c27
        refine lv_aload_n hx hb dX6_addBerth_40 rfl (lv_at hl 0 rfl) ?_
        refine lv_iconst (v := (2 : Int32)) hx hb dX6_addBerth_41 (by decide) ?_
        refine z_callV (As := [Value.int (2 : Int32)]) (rest := []) hx hb hml hown hta zm_X6_fails wd_7_8 (c_X6_fails l D y a mth t tb tf ts cap clr mov hom wm nw wf wt nb fr bw bl no od ow ol ork olf oco at_ aw mp mpl msh msl mwa mse (2 : Int32)) hN hK hP hD hS hA 0 rfl rfl rfl hl rfl (Nat.le_of_ble_eq_true rfl) ⟨Nat.le_of_ble_eq_true rfl, Nat.le_of_ble_eq_true rfl⟩ ⟨Nat.le_of_ble_eq_true rfl, Nat.le_of_ble_eq_true rfl⟩ dX6_addBerth_42 (fun v w' H locs hq hP hD hS => ?_)
        obtain ⟨rfl, rfl⟩ := hq
        refine z_iret hG hx hb hr hlocks hP hD hS (Nat.le_of_ble_eq_true rfl) (Nat.le_of_ble_eq_true rfl) dX6_addBerth_45 ?_
        have hcd : abC nb f g h = 2 := by
          simp [abC, c2, c10, c27] <;> omega
        exact Or.inr ⟨by rw [hcd]; decide, _, rfl, by rw [hcd]; rfl⟩
      · have c27 := bI_n1 c27
        refine lv_iload_n hx hb dX6_addBerth_30 rfl (lv_at hl 3 rfl) ?_
        refine lv_iconst (v := (1 : Int32)) hx hb dX6_addBerth_31 (by decide) ?_
        refine lv_bipush (v := (40 : Int32)) hx hb dX6_addBerth_32 (by decide) ?_
        refine z_callS (As := [Value.int h, Value.int (1 : Int32), Value.int (40 : Int32)]) (rest := []) hx hb hml hown hta zm_X6_in wd_7_5 (c_X6_in l D y a mth t tb tf ts cap clr mov hom wm nw wf wt nb fr bw bl no od ow ol ork olf oco at_ aw mp mpl msh msl mwa mse h (1 : Int32) (40 : Int32)) hN hK hP hD hS hA rfl hl rfl (Nat.le_of_ble_eq_true rfl) ⟨Nat.le_of_ble_eq_true rfl, Nat.le_of_ble_eq_true rfl⟩ ⟨Nat.le_of_ble_eq_true rfl, Nat.le_of_ble_eq_true rfl⟩ dX6_addBerth_34 (fun v w' H locs hq hP hD hS => ?_)
        obtain ⟨rfl, rfl⟩ := hq
        refine lv_if_ne (tgt := 46) hx hb dX6_addBerth_37 (by decide) (fun c37 => ?_) (fun c37 => ?_)
        · have c37 := bI_n1 c37
          refine lv_aload_n hx hb dX6_addBerth_46 rfl (lv_at hl 0 rfl) ?_
          refine gM6_berths hx hb hta hown hK hP wd_7_0 dX6_addBerth_47 ?_
          refine lv_bipush (v := (6 : Int32)) hx hb dX6_addBerth_50 (by decide) ?_
          refine lv_icmp_ne (tgt := 61) hx hb dX6_addBerth_52 (by decide) (fun c52 => ?_) (fun c52 => ?_)
          · have c52 : ¬ nb = 6 := fun z => c52 ((nI_eq (a := nb) (b := 6) (by omega) (by omega)).mpr z)
            refine lv_aload_n hx hb dX6_addBerth_61 rfl (lv_at hl 0 rfl) ?_
            refine gM6_front hx hb hta hown hK hP wd_4_21 dX6_addBerth_62 ?_
            refine lv_aload_n hx hb dX6_addBerth_65 rfl (lv_at hl 0 rfl) ?_
            refine gM6_berths hx hb hta hown hK hP wd_7_0 dX6_addBerth_66 ?_
            refine lv_iload_n hx hb dX6_addBerth_69 rfl (lv_at hl 1 rfl) ?_
            refine sM_fr hx hb hK hP hD hS nb rfl (by omega) dX6_addBerth_70 (fun H locs hP hD hS => ?_)
            refine lv_aload_n hx hb dX6_addBerth_71 rfl (lv_at hl 0 rfl) ?_
            refine gM6_berthWeight hx hb hta hown hK hP wd_4_22 dX6_addBerth_72 ?_
            refine lv_aload_n hx hb dX6_addBerth_75 rfl (lv_at hl 0 rfl) ?_
            refine gM6_berths hx hb hta hown hK hP wd_7_0 dX6_addBerth_76 ?_
            refine lv_iload_n hx hb dX6_addBerth_79 rfl (lv_at hl 2 rfl) ?_
            refine sM_bw hx hb hK hP hD hS nb rfl (by omega) dX6_addBerth_80 (fun H locs hP hD hS => ?_)
            refine lv_aload_n hx hb dX6_addBerth_81 rfl (lv_at hl 0 rfl) ?_
            refine gM6_berthLength hx hb hta hown hK hP wd_4_23 dX6_addBerth_82 ?_
            refine lv_aload_n hx hb dX6_addBerth_85 rfl (lv_at hl 0 rfl) ?_
            refine gM6_berths hx hb hta hown hK hP wd_7_0 dX6_addBerth_86 ?_
            refine lv_iload_n hx hb dX6_addBerth_89 rfl (lv_at hl 3 rfl) ?_
            refine sM_bl hx hb hK hP hD hS nb rfl (by omega) dX6_addBerth_90 (fun H locs hP hD hS => ?_)
            refine lv_aload_n hx hb dX6_addBerth_91 rfl (lv_at hl 0 rfl) ?_
            refine lv_dup hx hb dX6_addBerth_92 rfl ?_
            refine gM6_berths hx hb hta hown hK hP wd_7_0 dX6_addBerth_93 ?_
            refine lv_iconst (v := (1 : Int32)) hx hb dX6_addBerth_96 (by decide) ?_
            refine lv_iadd hx hb dX6_addBerth_97 ?_
            refine zr_top (y := nI (nb + 1)) (nI_add nb 1) ?_
            refine pM6_berths hx hb hta hown hK hP hD hS wd_7_0 dX6_addBerth_98 (fun H locs hP hD hS => ?_)
            refine lv_aload_n hx hb dX6_addBerth_101 rfl (lv_at hl 0 rfl) ?_
            refine lv_aload_n hx hb dX6_addBerth_102 rfl (lv_at hl 0 rfl) ?_
            refine gM6_berths hx hb hta hown hK hP wd_7_0 dX6_addBerth_103 ?_
            refine lv_iconst (v := (1 : Int32)) hx hb dX6_addBerth_106 (by decide) ?_
            refine lv_isub hx hb dX6_addBerth_107 ?_
            refine z_callV (As := [Value.int ((nI (nb + 1)) - (1 : Int32))]) (rest := []) hx hb hml hown hta zm_X6_tells wd_7_13 (c_X6_tells l D y a mth t tb tf ts cap clr mov hom wm nw wf wt (nb + 1) (upd fr nb f) (upd bw nb g) (upd bl nb h) no od ow ol ork olf oco at_ aw mp mpl msh msl mwa mse ((nI (nb + 1)) - (1 : Int32))) hN hK hP hD hS hA 0 rfl rfl rfl hl rfl (Nat.le_of_ble_eq_true rfl) ⟨Nat.le_of_ble_eq_true rfl, Nat.le_of_ble_eq_true rfl⟩ ⟨Nat.le_of_ble_eq_true rfl, Nat.le_of_ble_eq_true rfl⟩ dX6_addBerth_108 (fun v w' H locs hq hP hD hS => ?_)
            obtain ⟨rfl, rfl⟩ := hq
            refine z_iret hG hx hb hr hlocks hP hD hS (Nat.le_of_ble_eq_true rfl) (Nat.le_of_ble_eq_true rfl) dX6_addBerth_111 ?_
            refine Or.inl ⟨?_, congrArg (fun z => some (Value.int z)) ?_, ?_⟩
            · simp [abC, c2, c10, c27, c37] <;> omega
            · exact nI_pred nb
            · rfl
          · have c52 : nb = 6 := (nI_eq (a := nb) (b := 6) (by omega) (by omega)).mp c52
            refine lv_aload_n hx hb dX6_addBerth_55 rfl (lv_at hl 0 rfl) ?_
            refine lv_iconst (v := (3 : Int32)) hx hb dX6_addBerth_56 (by decide) ?_
            refine z_callV (As := [Value.int (3 : Int32)]) (rest := []) hx hb hml hown hta zm_X6_fails wd_7_8 (c_X6_fails l D y a mth t tb tf ts cap clr mov hom wm nw wf wt nb fr bw bl no od ow ol ork olf oco at_ aw mp mpl msh msl mwa mse (3 : Int32)) hN hK hP hD hS hA 0 rfl rfl rfl hl rfl (Nat.le_of_ble_eq_true rfl) ⟨Nat.le_of_ble_eq_true rfl, Nat.le_of_ble_eq_true rfl⟩ ⟨Nat.le_of_ble_eq_true rfl, Nat.le_of_ble_eq_true rfl⟩ dX6_addBerth_57 (fun v w' H locs hq hP hD hS => ?_)
            obtain ⟨rfl, rfl⟩ := hq
            refine z_iret hG hx hb hr hlocks hP hD hS (Nat.le_of_ble_eq_true rfl) (Nat.le_of_ble_eq_true rfl) dX6_addBerth_60 ?_
            have hcd : abC nb f g h = 3 := by
              simp [abC, c2, c10, c27, c37] <;> omega
            exact Or.inr ⟨by rw [hcd]; decide, _, rfl, by rw [hcd]; rfl⟩
        · have c37 := bI_n0 c37
          refine lv_aload_n hx hb dX6_addBerth_40 rfl (lv_at hl 0 rfl) ?_
          refine lv_iconst (v := (2 : Int32)) hx hb dX6_addBerth_41 (by decide) ?_
          refine z_callV (As := [Value.int (2 : Int32)]) (rest := []) hx hb hml hown hta zm_X6_fails wd_7_8 (c_X6_fails l D y a mth t tb tf ts cap clr mov hom wm nw wf wt nb fr bw bl no od ow ol ork olf oco at_ aw mp mpl msh msl mwa mse (2 : Int32)) hN hK hP hD hS hA 0 rfl rfl rfl hl rfl (Nat.le_of_ble_eq_true rfl) ⟨Nat.le_of_ble_eq_true rfl, Nat.le_of_ble_eq_true rfl⟩ ⟨Nat.le_of_ble_eq_true rfl, Nat.le_of_ble_eq_true rfl⟩ dX6_addBerth_42 (fun v w' H locs hq hP hD hS => ?_)
          obtain ⟨rfl, rfl⟩ := hq
          refine z_iret hG hx hb hr hlocks hP hD hS (Nat.le_of_ble_eq_true rfl) (Nat.le_of_ble_eq_true rfl) dX6_addBerth_45 ?_
          have hcd : abC nb f g h = 2 := by
            simp [abC, c2, c10, c27, c37] <;> omega
          exact Or.inr ⟨by rw [hcd]; decide, _, rfl, by rw [hcd]; rfl⟩
    · have c10 := bI_0 c10
      refine lv_aload_n hx hb dX6_addBerth_13 rfl (lv_at hl 0 rfl) ?_
      refine lv_iconst (v := (1 : Int32)) hx hb dX6_addBerth_14 (by decide) ?_
      refine z_callV (As := [Value.int (1 : Int32)]) (rest := []) hx hb hml hown hta zm_X6_fails wd_7_8 (c_X6_fails l D y a mth t tb tf ts cap clr mov hom wm nw wf wt nb fr bw bl no od ow ol ork olf oco at_ aw mp mpl msh msl mwa mse (1 : Int32)) hN hK hP hD hS hA 0 rfl rfl rfl hl rfl (Nat.le_of_ble_eq_true rfl) ⟨Nat.le_of_ble_eq_true rfl, Nat.le_of_ble_eq_true rfl⟩ ⟨Nat.le_of_ble_eq_true rfl, Nat.le_of_ble_eq_true rfl⟩ dX6_addBerth_15 (fun v w' H locs hq hP hD hS => ?_)
      obtain ⟨rfl, rfl⟩ := hq
      refine z_iret hG hx hb hr hlocks hP hD hS (Nat.le_of_ble_eq_true rfl) (Nat.le_of_ble_eq_true rfl) dX6_addBerth_18 ?_
      have hcd : abC nb f g h = 1 := by
        simp [abC, c2, c10] <;> omega
      exact Or.inr ⟨by rw [hcd]; decide, _, rfl, by rw [hcd]; rfl⟩
set_option maxHeartbeats 800000 in
set_option maxRecDepth 100000 in
theorem c_X6_addBoat (l : Launch) (D : va_G) (y : Nat → ClassId) (a : Nat → Nat) (mth : Int32) (t : Nat) (tb tf ts cap clr mov hom : Int32) (wm : Int64) (nw : Nat) (wf wt : Nat → Int32) (nb : Nat) (fr bw bl : Nat → Int32) (no : Nat) (od ow ol ork olf oco at_ aw : Nat → Int32) (mp : Int32) (mpl msh msl mwa mse : Nat → Int32) (f : Int32) (g : Int32) (h : Int32) (r : Int32) (hb8 : no ≤ 8) : zP l D y yX6_addBoat cX6_addBoat 5 (some .int) 1 0 0 22 [Value.ref (a 0), Value.int f, Value.int g, Value.int h, Value.int r] (wM a y mth (nI t) tb tf ts cap clr mov hom wm (nI nw) wf wt (nI nb) fr bw bl (nI no) od ow ol ork olf oco at_ aw mp mpl msh msl mwa mse) (fun o9 w9 => (aoC no f g h r = 0 ∧ o9 = some (Value.int (nI no)) ∧ w9 = wM a y (0 : Int32) (nI t) tb tf ts cap clr mov hom wm (nI nw) wf wt (nI nb) fr bw bl (nI (no + 1)) (upd od no f) (upd ow no g) (upd ol no h) (upd ork no r) olf oco (upd at_ no (-1 : Int32)) aw mp mpl msh msl mwa mse) ∨ (aoC no f g h r ≠ 0 ∧ ∃ r9, o9 = some (Value.int r9) ∧ w9 = wM a y (nI (aoC no f g h r)) (nI t) tb tf ts cap clr mov hom wm (nI nw) wf wt (nI nb) fr bw bl (nI no) od ow ol ork olf oco at_ aw mp mpl msh msl mwa mse)) := by
  refine zP.of (by decide +kernel) (Nat.le_of_ble_eq_true rfl) ?_
  intro p e s m args below meth c A ls hx hb hr hta hown hlocks hml hin hN hK hP hD hS hA hl
  refine z_gen (fun G hG => ?_)
  have hl : lv_has ls 5 [(0, Value.ref (a 0)), (1, Value.int f), (2, Value.int g), (3, Value.int h), (4, Value.int r)] := hl
  refine lv_iload_n hx hb dX6_addBoat_0 rfl (lv_at hl 1 rfl) ?_
  refine lv_bipush (v := (50 : Int32)) hx hb dX6_addBoat_1 (by decide) ?_
  refine lv_sipush (v := (400 : Int32)) hx hb dX6_addBoat_3 (by decide) ?_
  refine z_callS (As := [Value.int f, Value.int (50 : Int32), Value.int (400 : Int32)]) (rest := []) hx hb hml hown hta zm_X6_in wd_7_5 (c_X6_in l D y a mth t tb tf ts cap clr mov hom wm nw wf wt nb fr bw bl no od ow ol ork olf oco at_ aw mp mpl msh msl mwa mse f (50 : Int32) (400 : Int32)) hN hK hP hD hS hA rfl hl rfl (Nat.le_of_ble_eq_true rfl) ⟨Nat.le_of_ble_eq_true rfl, Nat.le_of_ble_eq_true rfl⟩ ⟨Nat.le_of_ble_eq_true rfl, Nat.le_of_ble_eq_true rfl⟩ dX6_addBoat_6 (fun v w' H locs hq hP hD hS => ?_)
  obtain ⟨rfl, rfl⟩ := hq
  refine lv_if_eq (tgt := 44) hx hb dX6_addBoat_9 (by decide) (fun c9 => ?_) (fun c9 => ?_)
  · have c9 := bI_n0 c9
    refine lv_aload_n hx hb dX6_addBoat_44 rfl (lv_at hl 0 rfl) ?_
    refine lv_iconst (v := (1 : Int32)) hx hb dX6_addBoat_45 (by decide) ?_
    refine z_callV (As := [Value.int (1 : Int32)]) (rest := []) hx hb hml hown hta zm_X6_fails wd_7_8 (c_X6_fails l D y a mth t tb tf ts cap clr mov hom wm nw wf wt nb fr bw bl no od ow ol ork olf oco at_ aw mp mpl msh msl mwa mse (1 : Int32)) hN hK hP hD hS hA 0 rfl rfl rfl hl rfl (Nat.le_of_ble_eq_true rfl) ⟨Nat.le_of_ble_eq_true rfl, Nat.le_of_ble_eq_true rfl⟩ ⟨Nat.le_of_ble_eq_true rfl, Nat.le_of_ble_eq_true rfl⟩ dX6_addBoat_46 (fun v w' H locs hq hP hD hS => ?_)
    obtain ⟨rfl, rfl⟩ := hq
    refine z_iret hG hx hb hr hlocks hP hD hS (Nat.le_of_ble_eq_true rfl) (Nat.le_of_ble_eq_true rfl) dX6_addBoat_49 ?_
    have hcd : aoC no f g h r = 1 := by
      simp [aoC, c9] <;> omega
    exact Or.inr ⟨by rw [hcd]; decide, _, rfl, by rw [hcd]; rfl⟩
  · have c9 := bI_n1 c9
    refine lv_iload_n hx hb dX6_addBoat_12 rfl (lv_at hl 2 rfl) ?_
    refine lv_iconst (v := (1 : Int32)) hx hb dX6_addBoat_13 (by decide) ?_
    refine lv_sipush (v := (200 : Int32)) hx hb dX6_addBoat_14 (by decide) ?_
    refine z_callS (As := [Value.int g, Value.int (1 : Int32), Value.int (200 : Int32)]) (rest := []) hx hb hml hown hta zm_X6_in wd_7_5 (c_X6_in l D y a mth t tb tf ts cap clr mov hom wm nw wf wt nb fr bw bl no od ow ol ork olf oco at_ aw mp mpl msh msl mwa mse g (1 : Int32) (200 : Int32)) hN hK hP hD hS hA rfl hl rfl (Nat.le_of_ble_eq_true rfl) ⟨Nat.le_of_ble_eq_true rfl, Nat.le_of_ble_eq_true rfl⟩ ⟨Nat.le_of_ble_eq_true rfl, Nat.le_of_ble_eq_true rfl⟩ dX6_addBoat_17 (fun v w' H locs hq hP hD hS => ?_)
    obtain ⟨rfl, rfl⟩ := hq
    refine lv_if_eq (tgt := 44) hx hb dX6_addBoat_20 (by decide) (fun c20 => ?_) (fun c20 => ?_)
    · have c20 := bI_n0 c20
      refine lv_aload_n hx hb dX6_addBoat_44 rfl (lv_at hl 0 rfl) ?_
      refine lv_iconst (v := (1 : Int32)) hx hb dX6_addBoat_45 (by decide) ?_
      refine z_callV (As := [Value.int (1 : Int32)]) (rest := []) hx hb hml hown hta zm_X6_fails wd_7_8 (c_X6_fails l D y a mth t tb tf ts cap clr mov hom wm nw wf wt nb fr bw bl no od ow ol ork olf oco at_ aw mp mpl msh msl mwa mse (1 : Int32)) hN hK hP hD hS hA 0 rfl rfl rfl hl rfl (Nat.le_of_ble_eq_true rfl) ⟨Nat.le_of_ble_eq_true rfl, Nat.le_of_ble_eq_true rfl⟩ ⟨Nat.le_of_ble_eq_true rfl, Nat.le_of_ble_eq_true rfl⟩ dX6_addBoat_46 (fun v w' H locs hq hP hD hS => ?_)
      obtain ⟨rfl, rfl⟩ := hq
      refine z_iret hG hx hb hr hlocks hP hD hS (Nat.le_of_ble_eq_true rfl) (Nat.le_of_ble_eq_true rfl) dX6_addBoat_49 ?_
      have hcd : aoC no f g h r = 1 := by
        simp [aoC, c9, c20] <;> omega
      exact Or.inr ⟨by rw [hcd]; decide, _, rfl, by rw [hcd]; rfl⟩
    · have c20 := bI_n1 c20
      refine lv_iload_n hx hb dX6_addBoat_23 rfl (lv_at hl 3 rfl) ?_
      refine lv_iconst (v := (1 : Int32)) hx hb dX6_addBoat_24 (by decide) ?_
      refine lv_bipush (v := (40 : Int32)) hx hb dX6_addBoat_25 (by decide) ?_
      refine z_callS (As := [Value.int h, Value.int (1 : Int32), Value.int (40 : Int32)]) (rest := []) hx hb hml hown hta zm_X6_in wd_7_5 (c_X6_in l D y a mth t tb tf ts cap clr mov hom wm nw wf wt nb fr bw bl no od ow ol ork olf oco at_ aw mp mpl msh msl mwa mse h (1 : Int32) (40 : Int32)) hN hK hP hD hS hA rfl hl rfl (Nat.le_of_ble_eq_true rfl) ⟨Nat.le_of_ble_eq_true rfl, Nat.le_of_ble_eq_true rfl⟩ ⟨Nat.le_of_ble_eq_true rfl, Nat.le_of_ble_eq_true rfl⟩ dX6_addBoat_27 (fun v w' H locs hq hP hD hS => ?_)
      obtain ⟨rfl, rfl⟩ := hq
      refine lv_if_eq (tgt := 44) hx hb dX6_addBoat_30 (by decide) (fun c30 => ?_) (fun c30 => ?_)
      · have c30 := bI_n0 c30
        refine lv_aload_n hx hb dX6_addBoat_44 rfl (lv_at hl 0 rfl) ?_
        refine lv_iconst (v := (1 : Int32)) hx hb dX6_addBoat_45 (by decide) ?_
        refine z_callV (As := [Value.int (1 : Int32)]) (rest := []) hx hb hml hown hta zm_X6_fails wd_7_8 (c_X6_fails l D y a mth t tb tf ts cap clr mov hom wm nw wf wt nb fr bw bl no od ow ol ork olf oco at_ aw mp mpl msh msl mwa mse (1 : Int32)) hN hK hP hD hS hA 0 rfl rfl rfl hl rfl (Nat.le_of_ble_eq_true rfl) ⟨Nat.le_of_ble_eq_true rfl, Nat.le_of_ble_eq_true rfl⟩ ⟨Nat.le_of_ble_eq_true rfl, Nat.le_of_ble_eq_true rfl⟩ dX6_addBoat_46 (fun v w' H locs hq hP hD hS => ?_)
        obtain ⟨rfl, rfl⟩ := hq
        refine z_iret hG hx hb hr hlocks hP hD hS (Nat.le_of_ble_eq_true rfl) (Nat.le_of_ble_eq_true rfl) dX6_addBoat_49 ?_
        have hcd : aoC no f g h r = 1 := by
          simp [aoC, c9, c20, c30] <;> omega
        exact Or.inr ⟨by rw [hcd]; decide, _, rfl, by rw [hcd]; rfl⟩
      · have c30 := bI_n1 c30
        refine lv_iload hx hb dX6_addBoat_33 (lv_at hl 4 rfl) ?_
        refine lv_iconst (v := (0 : Int32)) hx hb dX6_addBoat_35 (by decide) ?_
        refine lv_bipush (v := (9 : Int32)) hx hb dX6_addBoat_36 (by decide) ?_
        refine z_callS (As := [Value.int r, Value.int (0 : Int32), Value.int (9 : Int32)]) (rest := []) hx hb hml hown hta zm_X6_in wd_7_5 (c_X6_in l D y a mth t tb tf ts cap clr mov hom wm nw wf wt nb fr bw bl no od ow ol ork olf oco at_ aw mp mpl msh msl mwa mse r (0 : Int32) (9 : Int32)) hN hK hP hD hS hA rfl hl rfl (Nat.le_of_ble_eq_true rfl) ⟨Nat.le_of_ble_eq_true rfl, Nat.le_of_ble_eq_true rfl⟩ ⟨Nat.le_of_ble_eq_true rfl, Nat.le_of_ble_eq_true rfl⟩ dX6_addBoat_38 (fun v w' H locs hq hP hD hS => ?_)
        obtain ⟨rfl, rfl⟩ := hq
        refine lv_if_ne (tgt := 50) hx hb dX6_addBoat_41 (by decide) (fun c41 => ?_) (fun c41 => ?_)
        · have c41 := bI_n1 c41
          refine lv_aload_n hx hb dX6_addBoat_50 rfl (lv_at hl 0 rfl) ?_
          refine gM6_boats hx hb hta hown hK hP wd_8_13 dX6_addBoat_51 ?_
          refine lv_bipush (v := (8 : Int32)) hx hb dX6_addBoat_54 (by decide) ?_
          refine lv_icmp_ne (tgt := 65) hx hb dX6_addBoat_56 (by decide) (fun c56 => ?_) (fun c56 => ?_)
          · have c56 : ¬ no = 8 := fun z => c56 ((nI_eq (a := no) (b := 8) (by omega) (by omega)).mpr z)
            refine lv_aload_n hx hb dX6_addBoat_65 rfl (lv_at hl 0 rfl) ?_
            refine gM6_draught hx hb hta hown hK hP wd_5_0 dX6_addBoat_66 ?_
            refine lv_aload_n hx hb dX6_addBoat_69 rfl (lv_at hl 0 rfl) ?_
            refine gM6_boats hx hb hta hown hK hP wd_8_13 dX6_addBoat_70 ?_
            refine lv_iload_n hx hb dX6_addBoat_73 rfl (lv_at hl 1 rfl) ?_
            refine sM_od hx hb hK hP hD hS no rfl (by omega) dX6_addBoat_74 (fun H locs hP hD hS => ?_)
            refine lv_aload_n hx hb dX6_addBoat_75 rfl (lv_at hl 0 rfl) ?_
            refine gM6_weight hx hb hta hown hK hP wd_5_1 dX6_addBoat_76 ?_
            refine lv_aload_n hx hb dX6_addBoat_79 rfl (lv_at hl 0 rfl) ?_
            refine gM6_boats hx hb hta hown hK hP wd_8_13 dX6_addBoat_80 ?_
            refine lv_iload_n hx hb dX6_addBoat_83 rfl (lv_at hl 2 rfl) ?_
            refine sM_ow hx hb hK hP hD hS no rfl (by omega) dX6_addBoat_84 (fun H locs hP hD hS => ?_)
            refine lv_aload_n hx hb dX6_addBoat_85 rfl (lv_at hl 0 rfl) ?_
            refine gM6_length hx hb hta hown hK hP wd_5_2 dX6_addBoat_86 ?_
            refine lv_aload_n hx hb dX6_addBoat_89 rfl (lv_at hl 0 rfl) ?_
            refine gM6_boats hx hb hta hown hK hP wd_8_13 dX6_addBoat_90 ?_
            refine lv_iload_n hx hb dX6_addBoat_93 rfl (lv_at hl 3 rfl) ?_
            refine sM_ol hx hb hK hP hD hS no rfl (by omega) dX6_addBoat_94 (fun H locs hP hD hS => ?_)
            refine lv_aload_n hx hb dX6_addBoat_95 rfl (lv_at hl 0 rfl) ?_
            refine gM6_rank hx hb hta hown hK hP wd_5_3 dX6_addBoat_96 ?_
            refine lv_aload_n hx hb dX6_addBoat_99 rfl (lv_at hl 0 rfl) ?_
            refine gM6_boats hx hb hta hown hK hP wd_8_13 dX6_addBoat_100 ?_
            refine lv_iload hx hb dX6_addBoat_103 (lv_at hl 4 rfl) ?_
            refine sM_ork hx hb hK hP hD hS no rfl (by omega) dX6_addBoat_105 (fun H locs hP hD hS => ?_)
            refine lv_aload_n hx hb dX6_addBoat_106 rfl (lv_at hl 0 rfl) ?_
            refine gM6_at hx hb hta hown hK hP wd_5_6 dX6_addBoat_107 ?_
            refine lv_aload_n hx hb dX6_addBoat_110 rfl (lv_at hl 0 rfl) ?_
            refine gM6_boats hx hb hta hown hK hP wd_8_13 dX6_addBoat_111 ?_
            refine lv_iconst (v := (-1 : Int32)) hx hb dX6_addBoat_114 (by decide) ?_
            refine sM_at_ hx hb hK hP hD hS no rfl (by omega) dX6_addBoat_115 (fun H locs hP hD hS => ?_)
            refine lv_aload_n hx hb dX6_addBoat_116 rfl (lv_at hl 0 rfl) ?_
            refine lv_dup hx hb dX6_addBoat_117 rfl ?_
            refine gM6_boats hx hb hta hown hK hP wd_8_13 dX6_addBoat_118 ?_
            refine lv_iconst (v := (1 : Int32)) hx hb dX6_addBoat_121 (by decide) ?_
            refine lv_iadd hx hb dX6_addBoat_122 ?_
            refine zr_top (y := nI (no + 1)) (nI_add no 1) ?_
            refine pM6_boats hx hb hta hown hK hP hD hS wd_8_13 dX6_addBoat_123 (fun H locs hP hD hS => ?_)
            refine lv_aload_n hx hb dX6_addBoat_126 rfl (lv_at hl 0 rfl) ?_
            refine lv_aload_n hx hb dX6_addBoat_127 rfl (lv_at hl 0 rfl) ?_
            refine gM6_boats hx hb hta hown hK hP wd_8_13 dX6_addBoat_128 ?_
            refine lv_iconst (v := (1 : Int32)) hx hb dX6_addBoat_131 (by decide) ?_
            refine lv_isub hx hb dX6_addBoat_132 ?_
            refine z_callV (As := [Value.int ((nI (no + 1)) - (1 : Int32))]) (rest := []) hx hb hml hown hta zm_X6_tells wd_7_13 (c_X6_tells l D y a mth t tb tf ts cap clr mov hom wm nw wf wt nb fr bw bl (no + 1) (upd od no f) (upd ow no g) (upd ol no h) (upd ork no r) olf oco (upd at_ no (-1 : Int32)) aw mp mpl msh msl mwa mse ((nI (no + 1)) - (1 : Int32))) hN hK hP hD hS hA 0 rfl rfl rfl hl rfl (Nat.le_of_ble_eq_true rfl) ⟨Nat.le_of_ble_eq_true rfl, Nat.le_of_ble_eq_true rfl⟩ ⟨Nat.le_of_ble_eq_true rfl, Nat.le_of_ble_eq_true rfl⟩ dX6_addBoat_133 (fun v w' H locs hq hP hD hS => ?_)
            obtain ⟨rfl, rfl⟩ := hq
            refine z_iret hG hx hb hr hlocks hP hD hS (Nat.le_of_ble_eq_true rfl) (Nat.le_of_ble_eq_true rfl) dX6_addBoat_136 ?_
            refine Or.inl ⟨?_, congrArg (fun z => some (Value.int z)) ?_, ?_⟩
            · simp [aoC, c9, c20, c30, c41] <;> omega
            · exact nI_pred no
            · rfl
          · have c56 : no = 8 := (nI_eq (a := no) (b := 8) (by omega) (by omega)).mp c56
            refine lv_aload_n hx hb dX6_addBoat_59 rfl (lv_at hl 0 rfl) ?_
            refine lv_iconst (v := (2 : Int32)) hx hb dX6_addBoat_60 (by decide) ?_
            refine z_callV (As := [Value.int (2 : Int32)]) (rest := []) hx hb hml hown hta zm_X6_fails wd_7_8 (c_X6_fails l D y a mth t tb tf ts cap clr mov hom wm nw wf wt nb fr bw bl no od ow ol ork olf oco at_ aw mp mpl msh msl mwa mse (2 : Int32)) hN hK hP hD hS hA 0 rfl rfl rfl hl rfl (Nat.le_of_ble_eq_true rfl) ⟨Nat.le_of_ble_eq_true rfl, Nat.le_of_ble_eq_true rfl⟩ ⟨Nat.le_of_ble_eq_true rfl, Nat.le_of_ble_eq_true rfl⟩ dX6_addBoat_61 (fun v w' H locs hq hP hD hS => ?_)
            obtain ⟨rfl, rfl⟩ := hq
            refine z_iret hG hx hb hr hlocks hP hD hS (Nat.le_of_ble_eq_true rfl) (Nat.le_of_ble_eq_true rfl) dX6_addBoat_64 ?_
            have hcd : aoC no f g h r = 2 := by
              simp [aoC, c9, c20, c30, c41] <;> omega
            exact Or.inr ⟨by rw [hcd]; decide, _, rfl, by rw [hcd]; rfl⟩
        · have c41 := bI_n0 c41
          refine lv_aload_n hx hb dX6_addBoat_44 rfl (lv_at hl 0 rfl) ?_
          refine lv_iconst (v := (1 : Int32)) hx hb dX6_addBoat_45 (by decide) ?_
          refine z_callV (As := [Value.int (1 : Int32)]) (rest := []) hx hb hml hown hta zm_X6_fails wd_7_8 (c_X6_fails l D y a mth t tb tf ts cap clr mov hom wm nw wf wt nb fr bw bl no od ow ol ork olf oco at_ aw mp mpl msh msl mwa mse (1 : Int32)) hN hK hP hD hS hA 0 rfl rfl rfl hl rfl (Nat.le_of_ble_eq_true rfl) ⟨Nat.le_of_ble_eq_true rfl, Nat.le_of_ble_eq_true rfl⟩ ⟨Nat.le_of_ble_eq_true rfl, Nat.le_of_ble_eq_true rfl⟩ dX6_addBoat_46 (fun v w' H locs hq hP hD hS => ?_)
          obtain ⟨rfl, rfl⟩ := hq
          refine z_iret hG hx hb hr hlocks hP hD hS (Nat.le_of_ble_eq_true rfl) (Nat.le_of_ble_eq_true rfl) dX6_addBoat_49 ?_
          have hcd : aoC no f g h r = 1 := by
            simp [aoC, c9, c20, c30, c41] <;> omega
          exact Or.inr ⟨by rw [hcd]; decide, _, rfl, by rw [hcd]; rfl⟩
set_option maxHeartbeats 800000 in
set_option maxRecDepth 100000 in
theorem c_X6_setTide (l : Launch) (D : va_G) (y : Nat → ClassId) (a : Nat → Nat) (mth : Int32) (t : Nat) (tb tf ts cap clr mov hom : Int32) (wm : Int64) (nw : Nat) (wf wt : Nat → Int32) (nb : Nat) (fr bw bl : Nat → Int32) (no : Nat) (od ow ol ork olf oco at_ aw : Nat → Int32) (mp : Int32) (mpl msh msl mwa mse : Nat → Int32) (f : Int32) (g : Int32) (h : Int32)  : zP l D y yX6_setTide cX6_setTide 4 (some .int) 2 0 0 41 [Value.ref (a 0), Value.int f, Value.int g, Value.int h] (wM a y mth (nI t) tb tf ts cap clr mov hom wm (nI nw) wf wt (nI nb) fr bw bl (nI no) od ow ol ork olf oco at_ aw mp mpl msh msl mwa mse) (fun o9 w9 => (stC f g h = 0 ∧ o9 = some (Value.int (lev f g h (nI t))) ∧ w9 = wM a y (0 : Int32) (nI t) f g h cap clr mov hom wm (nI nw) wf wt (nI nb) fr bw bl (nI no) od ow ol ork olf oco at_ aw mp mpl msh msl mwa mse) ∨ (stC f g h ≠ 0 ∧ ∃ r9, o9 = some (Value.int r9) ∧ w9 = wM a y (nI (stC f g h)) (nI t) tb tf ts cap clr mov hom wm (nI nw) wf wt (nI nb) fr bw bl (nI no) od ow ol ork olf oco at_ aw mp mpl msh msl mwa mse)) := by
  refine zP.of (by decide +kernel) (Nat.le_of_ble_eq_true rfl) ?_
  intro p e s m args below meth c A ls hx hb hr hta hown hlocks hml hin hN hK hP hD hS hA hl
  refine z_gen (fun G hG => ?_)
  have hl : lv_has ls 4 [(0, Value.ref (a 0)), (1, Value.int f), (2, Value.int g), (3, Value.int h)] := hl
  refine lv_iload_n hx hb dX6_setTide_0 rfl (lv_at hl 1 rfl) ?_
  refine lv_iconst (v := (0 : Int32)) hx hb dX6_setTide_1 (by decide) ?_
  refine lv_sipush (v := (600 : Int32)) hx hb dX6_setTide_2 (by decide) ?_
  refine z_callS (As := [Value.int f, Value.int (0 : Int32), Value.int (600 : Int32)]) (rest := []) hx hb hml hown hta zm_X6_in wd_7_5 (c_X6_in l D y a mth t tb tf ts cap clr mov hom wm nw wf wt nb fr bw bl no od ow ol ork olf oco at_ aw mp mpl msh msl mwa mse f (0 : Int32) (600 : Int32)) hN hK hP hD hS hA rfl hl rfl (Nat.le_of_ble_eq_true rfl) ⟨Nat.le_of_ble_eq_true rfl, Nat.le_of_ble_eq_true rfl⟩ ⟨Nat.le_of_ble_eq_true rfl, Nat.le_of_ble_eq_true rfl⟩ dX6_setTide_5 (fun v w' H locs hq hP hD hS => ?_)
  obtain ⟨rfl, rfl⟩ := hq
  refine lv_if_eq (tgt := 31) hx hb dX6_setTide_8 (by decide) (fun c8 => ?_) (fun c8 => ?_)
  · have c8 := bI_n0 c8
    refine lv_aload_n hx hb dX6_setTide_31 rfl (lv_at hl 0 rfl) ?_
    refine lv_iconst (v := (1 : Int32)) hx hb dX6_setTide_32 (by decide) ?_
    refine z_callV (As := [Value.int (1 : Int32)]) (rest := []) hx hb hml hown hta zm_X6_fails wd_7_8 (c_X6_fails l D y a mth t tb tf ts cap clr mov hom wm nw wf wt nb fr bw bl no od ow ol ork olf oco at_ aw mp mpl msh msl mwa mse (1 : Int32)) hN hK hP hD hS hA 0 rfl rfl rfl hl rfl (Nat.le_of_ble_eq_true rfl) ⟨Nat.le_of_ble_eq_true rfl, Nat.le_of_ble_eq_true rfl⟩ ⟨Nat.le_of_ble_eq_true rfl, Nat.le_of_ble_eq_true rfl⟩ dX6_setTide_33 (fun v w' H locs hq hP hD hS => ?_)
    obtain ⟨rfl, rfl⟩ := hq
    refine z_iret hG hx hb hr hlocks hP hD hS (Nat.le_of_ble_eq_true rfl) (Nat.le_of_ble_eq_true rfl) dX6_setTide_36 ?_
    have hcd : stC f g h = 1 := by
      simp [stC, c8]
    exact Or.inr ⟨by rw [hcd]; decide, _, rfl, by rw [hcd]; rfl⟩
  · have c8 := bI_n1 c8
    refine lv_iload_n hx hb dX6_setTide_11 rfl (lv_at hl 2 rfl) ?_
    refine lv_iconst (v := (0 : Int32)) hx hb dX6_setTide_12 (by decide) ?_
    refine lv_bipush (v := (60 : Int32)) hx hb dX6_setTide_13 (by decide) ?_
    refine z_callS (As := [Value.int g, Value.int (0 : Int32), Value.int (60 : Int32)]) (rest := []) hx hb hml hown hta zm_X6_in wd_7_5 (c_X6_in l D y a mth t tb tf ts cap clr mov hom wm nw wf wt nb fr bw bl no od ow ol ork olf oco at_ aw mp mpl msh msl mwa mse g (0 : Int32) (60 : Int32)) hN hK hP hD hS hA rfl hl rfl (Nat.le_of_ble_eq_true rfl) ⟨Nat.le_of_ble_eq_true rfl, Nat.le_of_ble_eq_true rfl⟩ ⟨Nat.le_of_ble_eq_true rfl, Nat.le_of_ble_eq_true rfl⟩ dX6_setTide_15 (fun v w' H locs hq hP hD hS => ?_)
    obtain ⟨rfl, rfl⟩ := hq
    refine lv_if_eq (tgt := 31) hx hb dX6_setTide_18 (by decide) (fun c18 => ?_) (fun c18 => ?_)
    · have c18 := bI_n0 c18
      refine lv_aload_n hx hb dX6_setTide_31 rfl (lv_at hl 0 rfl) ?_
      refine lv_iconst (v := (1 : Int32)) hx hb dX6_setTide_32 (by decide) ?_
      refine z_callV (As := [Value.int (1 : Int32)]) (rest := []) hx hb hml hown hta zm_X6_fails wd_7_8 (c_X6_fails l D y a mth t tb tf ts cap clr mov hom wm nw wf wt nb fr bw bl no od ow ol ork olf oco at_ aw mp mpl msh msl mwa mse (1 : Int32)) hN hK hP hD hS hA 0 rfl rfl rfl hl rfl (Nat.le_of_ble_eq_true rfl) ⟨Nat.le_of_ble_eq_true rfl, Nat.le_of_ble_eq_true rfl⟩ ⟨Nat.le_of_ble_eq_true rfl, Nat.le_of_ble_eq_true rfl⟩ dX6_setTide_33 (fun v w' H locs hq hP hD hS => ?_)
      obtain ⟨rfl, rfl⟩ := hq
      refine z_iret hG hx hb hr hlocks hP hD hS (Nat.le_of_ble_eq_true rfl) (Nat.le_of_ble_eq_true rfl) dX6_setTide_36 ?_
      have hcd : stC f g h = 1 := by
        simp [stC, c8, c18]
      exact Or.inr ⟨by rw [hcd]; decide, _, rfl, by rw [hcd]; rfl⟩
    · have c18 := bI_n1 c18
      refine lv_iload_n hx hb dX6_setTide_21 rfl (lv_at hl 3 rfl) ?_
      refine lv_iconst (v := (0 : Int32)) hx hb dX6_setTide_22 (by decide) ?_
      refine lv_bipush (v := (30 : Int32)) hx hb dX6_setTide_23 (by decide) ?_
      refine z_callS (As := [Value.int h, Value.int (0 : Int32), Value.int (30 : Int32)]) (rest := []) hx hb hml hown hta zm_X6_in wd_7_5 (c_X6_in l D y a mth t tb tf ts cap clr mov hom wm nw wf wt nb fr bw bl no od ow ol ork olf oco at_ aw mp mpl msh msl mwa mse h (0 : Int32) (30 : Int32)) hN hK hP hD hS hA rfl hl rfl (Nat.le_of_ble_eq_true rfl) ⟨Nat.le_of_ble_eq_true rfl, Nat.le_of_ble_eq_true rfl⟩ ⟨Nat.le_of_ble_eq_true rfl, Nat.le_of_ble_eq_true rfl⟩ dX6_setTide_25 (fun v w' H locs hq hP hD hS => ?_)
      obtain ⟨rfl, rfl⟩ := hq
      refine lv_if_ne (tgt := 37) hx hb dX6_setTide_28 (by decide) (fun c28 => ?_) (fun c28 => ?_)
      · have c28 := bI_n1 c28
        refine lv_aload_n hx hb dX6_setTide_37 rfl (lv_at hl 0 rfl) ?_
        refine lv_iload_n hx hb dX6_setTide_38 rfl (lv_at hl 1 rfl) ?_
        refine pM6_base hx hb hta hown hK hP hD hS wd_4_13 dX6_setTide_39 (fun H locs hP hD hS => ?_)
        refine lv_aload_n hx hb dX6_setTide_42 rfl (lv_at hl 0 rfl) ?_
        refine lv_iload_n hx hb dX6_setTide_43 rfl (lv_at hl 2 rfl) ?_
        refine pM6_first hx hb hta hown hK hP hD hS wd_4_14 dX6_setTide_44 (fun H locs hP hD hS => ?_)
        refine lv_aload_n hx hb dX6_setTide_47 rfl (lv_at hl 0 rfl) ?_
        refine lv_iload_n hx hb dX6_setTide_48 rfl (lv_at hl 3 rfl) ?_
        refine pM6_second hx hb hta hown hK hP hD hS wd_4_15 dX6_setTide_49 (fun H locs hP hD hS => ?_)
        refine lv_aload_n hx hb dX6_setTide_52 rfl (lv_at hl 0 rfl) ?_
        refine lv_aload_n hx hb dX6_setTide_53 rfl (lv_at hl 0 rfl) ?_
        refine lv_aload_n hx hb dX6_setTide_54 rfl (lv_at hl 0 rfl) ?_
        refine gM6_time hx hb hta hown hK hP wd_9_12 dX6_setTide_55 ?_
        refine z_callV (As := [Value.int (nI t)]) (rest := [Value.ref (a 0)]) hx hb hml hown hta zm_X6_levelAt wd_9_13 (c_X6_levelAt l D y a mth t f g h cap clr mov hom wm nw wf wt nb fr bw bl no od ow ol ork olf oco at_ aw mp mpl msh msl mwa mse (nI t)) hN hK hP hD hS hA 0 rfl rfl rfl hl rfl (Nat.le_of_ble_eq_true rfl) ⟨Nat.le_of_ble_eq_true rfl, Nat.le_of_ble_eq_true rfl⟩ ⟨Nat.le_of_ble_eq_true rfl, Nat.le_of_ble_eq_true rfl⟩ dX6_setTide_58 (fun v w' H locs hq hP hD hS => ?_)
        obtain ⟨rfl, rfl⟩ := hq
        refine z_callV (As := [Value.int (lev f g h (nI t))]) (rest := []) hx hb hml hown hta zm_X6_tells wd_7_13 (c_X6_tells l D y a mth t f g h cap clr mov hom wm nw wf wt nb fr bw bl no od ow ol ork olf oco at_ aw mp mpl msh msl mwa mse (lev f g h (nI t))) hN hK hP hD hS hA 0 rfl rfl rfl hl rfl (Nat.le_of_ble_eq_true rfl) ⟨Nat.le_of_ble_eq_true rfl, Nat.le_of_ble_eq_true rfl⟩ ⟨Nat.le_of_ble_eq_true rfl, Nat.le_of_ble_eq_true rfl⟩ dX6_setTide_61 (fun v w' H locs hq hP hD hS => ?_)
        obtain ⟨rfl, rfl⟩ := hq
        refine z_iret hG hx hb hr hlocks hP hD hS (Nat.le_of_ble_eq_true rfl) (Nat.le_of_ble_eq_true rfl) dX6_setTide_64 ?_
        refine Or.inl ⟨?_, congrArg (fun z => some (Value.int z)) ?_, ?_⟩
        · simp [stC, c8, c18, c28]
        · rfl
        · rfl
      · have c28 := bI_n0 c28
        refine lv_aload_n hx hb dX6_setTide_31 rfl (lv_at hl 0 rfl) ?_
        refine lv_iconst (v := (1 : Int32)) hx hb dX6_setTide_32 (by decide) ?_
        refine z_callV (As := [Value.int (1 : Int32)]) (rest := []) hx hb hml hown hta zm_X6_fails wd_7_8 (c_X6_fails l D y a mth t tb tf ts cap clr mov hom wm nw wf wt nb fr bw bl no od ow ol ork olf oco at_ aw mp mpl msh msl mwa mse (1 : Int32)) hN hK hP hD hS hA 0 rfl rfl rfl hl rfl (Nat.le_of_ble_eq_true rfl) ⟨Nat.le_of_ble_eq_true rfl, Nat.le_of_ble_eq_true rfl⟩ ⟨Nat.le_of_ble_eq_true rfl, Nat.le_of_ble_eq_true rfl⟩ dX6_setTide_33 (fun v w' H locs hq hP hD hS => ?_)
        obtain ⟨rfl, rfl⟩ := hq
        refine z_iret hG hx hb hr hlocks hP hD hS (Nat.le_of_ble_eq_true rfl) (Nat.le_of_ble_eq_true rfl) dX6_setTide_36 ?_
        have hcd : stC f g h = 1 := by
          simp [stC, c8, c18, c28]
        exact Or.inr ⟨by rw [hcd]; decide, _, rfl, by rw [hcd]; rfl⟩
set_option maxHeartbeats 800000 in
set_option maxRecDepth 100000 in
theorem c_X6_setCradle (l : Launch) (D : va_G) (y : Nat → ClassId) (a : Nat → Nat) (mth : Int32) (t : Nat) (tb tf ts cap clr mov hom : Int32) (wm : Int64) (nw : Nat) (wf wt : Nat → Int32) (nb : Nat) (fr bw bl : Nat → Int32) (no : Nat) (od ow ol ork olf oco at_ aw : Nat → Int32) (mp : Int32) (mpl msh msl mwa mse : Nat → Int32) (f : Int32) (g : Int32)  : zP l D y yX6_setCradle cX6_setCradle 4 (some .int) 1 0 0 22 [Value.ref (a 0), Value.int f, Value.int g] (wM a y mth (nI t) tb tf ts cap clr mov hom wm (nI nw) wf wt (nI nb) fr bw bl (nI no) od ow ol ork olf oco at_ aw mp mpl msh msl mwa mse) (fun o9 w9 => (scC f g = 0 ∧ o9 = some (Value.int cap) ∧ w9 = wM a y (0 : Int32) (nI t) tb tf ts f g mov hom wm (nI nw) wf wt (nI nb) fr bw bl (nI no) od ow ol ork olf oco at_ aw mp mpl msh msl mwa mse) ∨ (scC f g ≠ 0 ∧ ∃ r9, o9 = some (Value.int r9) ∧ w9 = wM a y (nI (scC f g)) (nI t) tb tf ts cap clr mov hom wm (nI nw) wf wt (nI nb) fr bw bl (nI no) od ow ol ork olf oco at_ aw mp mpl msh msl mwa mse)) := by
  refine zP.of (by decide +kernel) (Nat.le_of_ble_eq_true rfl) ?_
  intro p e s m args below meth c A ls hx hb hr hta hown hlocks hml hin hN hK hP hD hS hA hl
  refine z_gen (fun G hG => ?_)
  have hl : lv_has ls 4 [(0, Value.ref (a 0)), (1, Value.int f), (2, Value.int g)] := hl
  refine lv_iload_n hx hb dX6_setCradle_0 rfl (lv_at hl 1 rfl) ?_
  refine lv_iconst (v := (1 : Int32)) hx hb dX6_setCradle_1 (by decide) ?_
  refine lv_sipush (v := (200 : Int32)) hx hb dX6_setCradle_2 (by decide) ?_
  refine z_callS (As := [Value.int f, Value.int (1 : Int32), Value.int (200 : Int32)]) (rest := []) hx hb hml hown hta zm_X6_in wd_7_5 (c_X6_in l D y a mth t tb tf ts cap clr mov hom wm nw wf wt nb fr bw bl no od ow ol ork olf oco at_ aw mp mpl msh msl mwa mse f (1 : Int32) (200 : Int32)) hN hK hP hD hS hA rfl hl rfl (Nat.le_of_ble_eq_true rfl) ⟨Nat.le_of_ble_eq_true rfl, Nat.le_of_ble_eq_true rfl⟩ ⟨Nat.le_of_ble_eq_true rfl, Nat.le_of_ble_eq_true rfl⟩ dX6_setCradle_5 (fun v w' H locs hq hP hD hS => ?_)
  obtain ⟨rfl, rfl⟩ := hq
  refine lv_if_eq (tgt := 21) hx hb dX6_setCradle_8 (by decide) (fun c8 => ?_) (fun c8 => ?_)
  · have c8 := bI_n0 c8
    refine lv_aload_n hx hb dX6_setCradle_21 rfl (lv_at hl 0 rfl) ?_
    refine lv_iconst (v := (1 : Int32)) hx hb dX6_setCradle_22 (by decide) ?_
    refine z_callV (As := [Value.int (1 : Int32)]) (rest := []) hx hb hml hown hta zm_X6_fails wd_7_8 (c_X6_fails l D y a mth t tb tf ts cap clr mov hom wm nw wf wt nb fr bw bl no od ow ol ork olf oco at_ aw mp mpl msh msl mwa mse (1 : Int32)) hN hK hP hD hS hA 0 rfl rfl rfl hl rfl (Nat.le_of_ble_eq_true rfl) ⟨Nat.le_of_ble_eq_true rfl, Nat.le_of_ble_eq_true rfl⟩ ⟨Nat.le_of_ble_eq_true rfl, Nat.le_of_ble_eq_true rfl⟩ dX6_setCradle_23 (fun v w' H locs hq hP hD hS => ?_)
    obtain ⟨rfl, rfl⟩ := hq
    refine z_iret hG hx hb hr hlocks hP hD hS (Nat.le_of_ble_eq_true rfl) (Nat.le_of_ble_eq_true rfl) dX6_setCradle_26 ?_
    have hcd : scC f g = 1 := by
      simp [scC, c8]
    exact Or.inr ⟨by rw [hcd]; decide, _, rfl, by rw [hcd]; rfl⟩
  · have c8 := bI_n1 c8
    refine lv_iload_n hx hb dX6_setCradle_11 rfl (lv_at hl 2 rfl) ?_
    refine lv_iconst (v := (0 : Int32)) hx hb dX6_setCradle_12 (by decide) ?_
    refine lv_bipush (v := (50 : Int32)) hx hb dX6_setCradle_13 (by decide) ?_
    refine z_callS (As := [Value.int g, Value.int (0 : Int32), Value.int (50 : Int32)]) (rest := []) hx hb hml hown hta zm_X6_in wd_7_5 (c_X6_in l D y a mth t tb tf ts cap clr mov hom wm nw wf wt nb fr bw bl no od ow ol ork olf oco at_ aw mp mpl msh msl mwa mse g (0 : Int32) (50 : Int32)) hN hK hP hD hS hA rfl hl rfl (Nat.le_of_ble_eq_true rfl) ⟨Nat.le_of_ble_eq_true rfl, Nat.le_of_ble_eq_true rfl⟩ ⟨Nat.le_of_ble_eq_true rfl, Nat.le_of_ble_eq_true rfl⟩ dX6_setCradle_15 (fun v w' H locs hq hP hD hS => ?_)
    obtain ⟨rfl, rfl⟩ := hq
    refine lv_if_ne (tgt := 27) hx hb dX6_setCradle_18 (by decide) (fun c18 => ?_) (fun c18 => ?_)
    · have c18 := bI_n1 c18
      refine lv_aload_n hx hb dX6_setCradle_27 rfl (lv_at hl 0 rfl) ?_
      refine gM6_capacity hx hb hta hown hK hP wd_4_16 dX6_setCradle_28 ?_
      refine lv_istore_n (lv' := [(3, Value.int cap), (0, Value.ref (a 0)), (1, Value.int f), (2, Value.int g)]) hx hb dX6_setCradle_31 rfl hl (by decide) rfl (fun ls hl => ?_)
      refine lv_aload_n hx hb dX6_setCradle_32 rfl (lv_at hl 1 rfl) ?_
      refine lv_iload_n hx hb dX6_setCradle_33 rfl (lv_at hl 2 rfl) ?_
      refine pM6_capacity hx hb hta hown hK hP hD hS wd_4_16 dX6_setCradle_34 (fun H locs hP hD hS => ?_)
      refine lv_aload_n hx hb dX6_setCradle_37 rfl (lv_at hl 1 rfl) ?_
      refine lv_iload_n hx hb dX6_setCradle_38 rfl (lv_at hl 3 rfl) ?_
      refine pM6_clearance hx hb hta hown hK hP hD hS wd_4_17 dX6_setCradle_39 (fun H locs hP hD hS => ?_)
      refine lv_aload_n hx hb dX6_setCradle_42 rfl (lv_at hl 1 rfl) ?_
      refine lv_iload_n hx hb dX6_setCradle_43 rfl (lv_at hl 0 rfl) ?_
      refine z_callV (As := [Value.int cap]) (rest := []) hx hb hml hown hta zm_X6_tells wd_7_13 (c_X6_tells l D y a mth t tb tf ts f g mov hom wm nw wf wt nb fr bw bl no od ow ol ork olf oco at_ aw mp mpl msh msl mwa mse cap) hN hK hP hD hS hA 0 rfl rfl rfl hl rfl (Nat.le_of_ble_eq_true rfl) ⟨Nat.le_of_ble_eq_true rfl, Nat.le_of_ble_eq_true rfl⟩ ⟨Nat.le_of_ble_eq_true rfl, Nat.le_of_ble_eq_true rfl⟩ dX6_setCradle_44 (fun v w' H locs hq hP hD hS => ?_)
      obtain ⟨rfl, rfl⟩ := hq
      refine z_iret hG hx hb hr hlocks hP hD hS (Nat.le_of_ble_eq_true rfl) (Nat.le_of_ble_eq_true rfl) dX6_setCradle_47 ?_
      refine Or.inl ⟨?_, congrArg (fun z => some (Value.int z)) ?_, ?_⟩
      · simp [scC, c8, c18]
      · rfl
      · rfl
    · have c18 := bI_n0 c18
      refine lv_aload_n hx hb dX6_setCradle_21 rfl (lv_at hl 0 rfl) ?_
      refine lv_iconst (v := (1 : Int32)) hx hb dX6_setCradle_22 (by decide) ?_
      refine z_callV (As := [Value.int (1 : Int32)]) (rest := []) hx hb hml hown hta zm_X6_fails wd_7_8 (c_X6_fails l D y a mth t tb tf ts cap clr mov hom wm nw wf wt nb fr bw bl no od ow ol ork olf oco at_ aw mp mpl msh msl mwa mse (1 : Int32)) hN hK hP hD hS hA 0 rfl rfl rfl hl rfl (Nat.le_of_ble_eq_true rfl) ⟨Nat.le_of_ble_eq_true rfl, Nat.le_of_ble_eq_true rfl⟩ ⟨Nat.le_of_ble_eq_true rfl, Nat.le_of_ble_eq_true rfl⟩ dX6_setCradle_23 (fun v w' H locs hq hP hD hS => ?_)
      obtain ⟨rfl, rfl⟩ := hq
      refine z_iret hG hx hb hr hlocks hP hD hS (Nat.le_of_ble_eq_true rfl) (Nat.le_of_ble_eq_true rfl) dX6_setCradle_26 ?_
      have hcd : scC f g = 1 := by
        simp [scC, c8, c18]
      exact Or.inr ⟨by rw [hcd]; decide, _, rfl, by rw [hcd]; rfl⟩
set_option maxHeartbeats 800000 in
set_option maxRecDepth 100000 in
theorem c_X6_tellWeather (l : Launch) (D : va_G) (y : Nat → ClassId) (a : Nat → Nat) (mth : Int32) (t : Nat) (tb tf ts cap clr mov hom : Int32) (wm : Int64) (nw : Nat) (wf wt : Nat → Int32) (nb : Nat) (fr bw bl : Nat → Int32) (no : Nat) (od ow ol ork olf oco at_ aw : Nat → Int32) (mp : Int32) (mpl msh msl mwa mse : Nat → Int32) (f : Int32) (g : Int32) (hw : nw ≤ 6) (ht : t ≤ 9999) : zP l D y yX6_tellWeather cX6_tellWeather 3 (some .int) 1 0 0 22 [Value.ref (a 0), Value.int f, Value.int g] (wM a y mth (nI t) tb tf ts cap clr mov hom wm (nI nw) wf wt (nI nb) fr bw bl (nI no) od ow ol ork olf oco at_ aw mp mpl msh msl mwa mse) (fun o9 w9 => (twC t nw f g = 0 ∧ o9 = some (Value.int (nI (nw + 1))) ∧ w9 = wM a y (0 : Int32) (nI t) tb tf ts cap clr mov hom wm (nI (nw + 1)) (upd wf nw f) (upd wt nw g) (nI nb) fr bw bl (nI no) od ow ol ork olf oco at_ aw mp mpl msh msl mwa mse) ∨ (twC t nw f g ≠ 0 ∧ ∃ r9, o9 = some (Value.int r9) ∧ w9 = wM a y (nI (twC t nw f g)) (nI t) tb tf ts cap clr mov hom wm (nI nw) wf wt (nI nb) fr bw bl (nI no) od ow ol ork olf oco at_ aw mp mpl msh msl mwa mse)) := by
  refine zP.of (by decide +kernel) (Nat.le_of_ble_eq_true rfl) ?_
  intro p e s m args below meth c A ls hx hb hr hta hown hlocks hml hin hN hK hP hD hS hA hl
  refine z_gen (fun G hG => ?_)
  have hl : lv_has ls 3 [(0, Value.ref (a 0)), (1, Value.int f), (2, Value.int g)] := hl
  refine lv_iload_n hx hb dX6_tellWeather_0 rfl (lv_at hl 1 rfl) ?_
  refine lv_aload_n hx hb dX6_tellWeather_1 rfl (lv_at hl 0 rfl) ?_
  refine gM6_time hx hb hta hown hK hP wd_9_12 dX6_tellWeather_2 ?_
  refine lv_sipush (v := (9999 : Int32)) hx hb dX6_tellWeather_5 (by decide) ?_
  refine z_callS (As := [Value.int f, Value.int (nI t), Value.int (9999 : Int32)]) (rest := []) hx hb hml hown hta zm_X6_in wd_7_5 (c_X6_in l D y a mth t tb tf ts cap clr mov hom wm nw wf wt nb fr bw bl no od ow ol ork olf oco at_ aw mp mpl msh msl mwa mse f (nI t) (9999 : Int32)) hN hK hP hD hS hA rfl hl rfl (Nat.le_of_ble_eq_true rfl) ⟨Nat.le_of_ble_eq_true rfl, Nat.le_of_ble_eq_true rfl⟩ ⟨Nat.le_of_ble_eq_true rfl, Nat.le_of_ble_eq_true rfl⟩ dX6_tellWeather_8 (fun v w' H locs hq hP hD hS => ?_)
  obtain ⟨rfl, rfl⟩ := hq
  refine lv_if_eq (tgt := 27) hx hb dX6_tellWeather_11 (by decide) (fun c11 => ?_) (fun c11 => ?_)
  · have c11 := bI_n0 c11
    refine lv_aload_n hx hb dX6_tellWeather_27 rfl (lv_at hl 0 rfl) ?_
    refine lv_iconst (v := (1 : Int32)) hx hb dX6_tellWeather_28 (by decide) ?_
    refine z_callV (As := [Value.int (1 : Int32)]) (rest := []) hx hb hml hown hta zm_X6_fails wd_7_8 (c_X6_fails l D y a mth t tb tf ts cap clr mov hom wm nw wf wt nb fr bw bl no od ow ol ork olf oco at_ aw mp mpl msh msl mwa mse (1 : Int32)) hN hK hP hD hS hA 0 rfl rfl rfl hl rfl (Nat.le_of_ble_eq_true rfl) ⟨Nat.le_of_ble_eq_true rfl, Nat.le_of_ble_eq_true rfl⟩ ⟨Nat.le_of_ble_eq_true rfl, Nat.le_of_ble_eq_true rfl⟩ dX6_tellWeather_29 (fun v w' H locs hq hP hD hS => ?_)
    obtain ⟨rfl, rfl⟩ := hq
    refine z_iret hG hx hb hr hlocks hP hD hS (Nat.le_of_ble_eq_true rfl) (Nat.le_of_ble_eq_true rfl) dX6_tellWeather_32 ?_
    have hcd : twC t nw f g = 1 := by
      first
      | rw [twC, if_neg (fun z => absurd z.1 (by rw [c11]; decide))]
      | rw [twC, if_neg (tw_out c11 c24 ht)]
      | rw [twC, if_pos (tw_in c11 c24 ht), if_neg (by omega)]
    exact Or.inr ⟨by rw [hcd]; decide, _, rfl, by rw [hcd]; rfl⟩
  · have c11 := bI_n1 c11
    refine lv_iload_n hx hb dX6_tellWeather_14 rfl (lv_at hl 2 rfl) ?_
    refine lv_iload_n hx hb dX6_tellWeather_15 rfl (lv_at hl 1 rfl) ?_
    refine lv_iconst (v := (1 : Int32)) hx hb dX6_tellWeather_16 (by decide) ?_
    refine lv_iadd hx hb dX6_tellWeather_17 ?_
    refine lv_sipush (v := (10000 : Int32)) hx hb dX6_tellWeather_18 (by decide) ?_
    refine z_callS (As := [Value.int g, Value.int (f + (1 : Int32)), Value.int (10000 : Int32)]) (rest := []) hx hb hml hown hta zm_X6_in wd_7_5 (c_X6_in l D y a mth t tb tf ts cap clr mov hom wm nw wf wt nb fr bw bl no od ow ol ork olf oco at_ aw mp mpl msh msl mwa mse g (f + (1 : Int32)) (10000 : Int32)) hN hK hP hD hS hA rfl hl rfl (Nat.le_of_ble_eq_true rfl) ⟨Nat.le_of_ble_eq_true rfl, Nat.le_of_ble_eq_true rfl⟩ ⟨Nat.le_of_ble_eq_true rfl, Nat.le_of_ble_eq_true rfl⟩ dX6_tellWeather_21 (fun v w' H locs hq hP hD hS => ?_)
    obtain ⟨rfl, rfl⟩ := hq
    refine lv_if_ne (tgt := 33) hx hb dX6_tellWeather_24 (by decide) (fun c24 => ?_) (fun c24 => ?_)
    · have c24 := bI_n1 c24
      refine lv_aload_n hx hb dX6_tellWeather_33 rfl (lv_at hl 0 rfl) ?_
      refine gM6_spans hx hb hta hown hK hP wd_10_23 dX6_tellWeather_34 ?_
      refine lv_bipush (v := (6 : Int32)) hx hb dX6_tellWeather_37 (by decide) ?_
      refine lv_icmp_ne (tgt := 48) hx hb dX6_tellWeather_39 (by decide) (fun c39 => ?_) (fun c39 => ?_)
      · have c39 : ¬ nw = 6 := fun z => c39 ((nI_eq (a := nw) (b := 6) (by omega) (by omega)).mpr z)
        refine lv_aload_n hx hb dX6_tellWeather_48 rfl (lv_at hl 0 rfl) ?_
        refine gM6_spanFrom hx hb hta hown hK hP wd_4_19 dX6_tellWeather_49 ?_
        refine lv_aload_n hx hb dX6_tellWeather_52 rfl (lv_at hl 0 rfl) ?_
        refine gM6_spans hx hb hta hown hK hP wd_10_23 dX6_tellWeather_53 ?_
        refine lv_iload_n hx hb dX6_tellWeather_56 rfl (lv_at hl 1 rfl) ?_
        refine sM_wf hx hb hK hP hD hS nw rfl (by omega) dX6_tellWeather_57 (fun H locs hP hD hS => ?_)
        refine lv_aload_n hx hb dX6_tellWeather_58 rfl (lv_at hl 0 rfl) ?_
        refine gM6_spanTo hx hb hta hown hK hP wd_4_20 dX6_tellWeather_59 ?_
        refine lv_aload_n hx hb dX6_tellWeather_62 rfl (lv_at hl 0 rfl) ?_
        refine gM6_spans hx hb hta hown hK hP wd_10_23 dX6_tellWeather_63 ?_
        refine lv_iload_n hx hb dX6_tellWeather_66 rfl (lv_at hl 2 rfl) ?_
        refine sM_wt hx hb hK hP hD hS nw rfl (by omega) dX6_tellWeather_67 (fun H locs hP hD hS => ?_)
        refine lv_aload_n hx hb dX6_tellWeather_68 rfl (lv_at hl 0 rfl) ?_
        refine lv_dup hx hb dX6_tellWeather_69 rfl ?_
        refine gM6_spans hx hb hta hown hK hP wd_10_23 dX6_tellWeather_70 ?_
        refine lv_iconst (v := (1 : Int32)) hx hb dX6_tellWeather_73 (by decide) ?_
        refine lv_iadd hx hb dX6_tellWeather_74 ?_
        refine zr_top (y := nI (nw + 1)) (nI_add nw 1) ?_
        refine pM6_spans hx hb hta hown hK hP hD hS wd_10_23 dX6_tellWeather_75 (fun H locs hP hD hS => ?_)
        refine lv_aload_n hx hb dX6_tellWeather_78 rfl (lv_at hl 0 rfl) ?_
        refine lv_aload_n hx hb dX6_tellWeather_79 rfl (lv_at hl 0 rfl) ?_
        refine gM6_spans hx hb hta hown hK hP wd_10_23 dX6_tellWeather_80 ?_
        refine z_callV (As := [Value.int (nI (nw + 1))]) (rest := []) hx hb hml hown hta zm_X6_tells wd_7_13 (c_X6_tells l D y a mth t tb tf ts cap clr mov hom wm (nw + 1) (upd wf nw f) (upd wt nw g) nb fr bw bl no od ow ol ork olf oco at_ aw mp mpl msh msl mwa mse (nI (nw + 1))) hN hK hP hD hS hA 0 rfl rfl rfl hl rfl (Nat.le_of_ble_eq_true rfl) ⟨Nat.le_of_ble_eq_true rfl, Nat.le_of_ble_eq_true rfl⟩ ⟨Nat.le_of_ble_eq_true rfl, Nat.le_of_ble_eq_true rfl⟩ dX6_tellWeather_83 (fun v w' H locs hq hP hD hS => ?_)
        obtain ⟨rfl, rfl⟩ := hq
        refine z_iret hG hx hb hr hlocks hP hD hS (Nat.le_of_ble_eq_true rfl) (Nat.le_of_ble_eq_true rfl) dX6_tellWeather_86 ?_
        refine Or.inl ⟨?_, congrArg (fun z => some (Value.int z)) ?_, ?_⟩
        · rw [twC, if_pos (tw_in c11 c24 ht), if_pos (by omega)]
        · rfl
        · rfl
      · have c39 : nw = 6 := (nI_eq (a := nw) (b := 6) (by omega) (by omega)).mp c39
        refine lv_aload_n hx hb dX6_tellWeather_42 rfl (lv_at hl 0 rfl) ?_
        refine lv_iconst (v := (2 : Int32)) hx hb dX6_tellWeather_43 (by decide) ?_
        refine z_callV (As := [Value.int (2 : Int32)]) (rest := []) hx hb hml hown hta zm_X6_fails wd_7_8 (c_X6_fails l D y a mth t tb tf ts cap clr mov hom wm nw wf wt nb fr bw bl no od ow ol ork olf oco at_ aw mp mpl msh msl mwa mse (2 : Int32)) hN hK hP hD hS hA 0 rfl rfl rfl hl rfl (Nat.le_of_ble_eq_true rfl) ⟨Nat.le_of_ble_eq_true rfl, Nat.le_of_ble_eq_true rfl⟩ ⟨Nat.le_of_ble_eq_true rfl, Nat.le_of_ble_eq_true rfl⟩ dX6_tellWeather_44 (fun v w' H locs hq hP hD hS => ?_)
        obtain ⟨rfl, rfl⟩ := hq
        refine z_iret hG hx hb hr hlocks hP hD hS (Nat.le_of_ble_eq_true rfl) (Nat.le_of_ble_eq_true rfl) dX6_tellWeather_47 ?_
        have hcd : twC t nw f g = 2 := by
          first
          | rw [twC, if_neg (fun z => absurd z.1 (by rw [c11]; decide))]
          | rw [twC, if_neg (tw_out c11 c24 ht)]
          | rw [twC, if_pos (tw_in c11 c24 ht), if_neg (by omega)]
        exact Or.inr ⟨by rw [hcd]; decide, _, rfl, by rw [hcd]; rfl⟩
    · have c24 := bI_n0 c24
      refine lv_aload_n hx hb dX6_tellWeather_27 rfl (lv_at hl 0 rfl) ?_
      refine lv_iconst (v := (1 : Int32)) hx hb dX6_tellWeather_28 (by decide) ?_
      refine z_callV (As := [Value.int (1 : Int32)]) (rest := []) hx hb hml hown hta zm_X6_fails wd_7_8 (c_X6_fails l D y a mth t tb tf ts cap clr mov hom wm nw wf wt nb fr bw bl no od ow ol ork olf oco at_ aw mp mpl msh msl mwa mse (1 : Int32)) hN hK hP hD hS hA 0 rfl rfl rfl hl rfl (Nat.le_of_ble_eq_true rfl) ⟨Nat.le_of_ble_eq_true rfl, Nat.le_of_ble_eq_true rfl⟩ ⟨Nat.le_of_ble_eq_true rfl, Nat.le_of_ble_eq_true rfl⟩ dX6_tellWeather_29 (fun v w' H locs hq hP hD hS => ?_)
      obtain ⟨rfl, rfl⟩ := hq
      refine z_iret hG hx hb hr hlocks hP hD hS (Nat.le_of_ble_eq_true rfl) (Nat.le_of_ble_eq_true rfl) dX6_tellWeather_32 ?_
      have hcd : twC t nw f g = 1 := by
        first
        | rw [twC, if_neg (fun z => absurd z.1 (by rw [c11]; decide))]
        | rw [twC, if_neg (tw_out c11 c24 ht)]
        | rw [twC, if_pos (tw_in c11 c24 ht), if_neg (by omega)]
      exact Or.inr ⟨by rw [hcd]; decide, _, rfl, by rw [hcd]; rfl⟩
set_option maxHeartbeats 800000 in
set_option maxRecDepth 100000 in
theorem c_X6_forgetWeather (l : Launch) (D : va_G) (y : Nat → ClassId) (a : Nat → Nat) (mth : Int32) (t : Nat) (tb tf ts cap clr mov hom : Int32) (wm : Int64) (nw : Nat) (wf wt : Nat → Int32) (nb : Nat) (fr bw bl : Nat → Int32) (no : Nat) (od ow ol ork olf oco at_ aw : Nat → Int32) (mp : Int32) (mpl msh msl mwa mse : Nat → Int32)  (hw : nw ≤ 6) : zP l D y yX6_forgetWeather cX6_forgetWeather 3 (some .int) 1 0 0 21 [Value.ref (a 0)] (wM a y mth (nI t) tb tf ts cap clr mov hom wm (nI nw) wf wt (nI nb) fr bw bl (nI no) od ow ol ork olf oco at_ aw mp mpl msh msl mwa mse) (fun o9 w9 => (True) ∧ o9 = some (Value.int (nI ((kp wf wt (nI t) nw).2.2))) ∧ w9 = wM a y (0 : Int32) (nI t) tb tf ts cap clr mov hom wm (nI ((kp wf wt (nI t) nw).2.2)) ((kp wf wt (nI t) nw).1) ((kp wf wt (nI t) nw).2.1) (nI nb) fr bw bl (nI no) od ow ol ork olf oco at_ aw mp mpl msh msl mwa mse) := by
  refine zP.of (by decide +kernel) (Nat.le_of_ble_eq_true rfl) ?_
  intro p e s m args below meth c A ls hx hb hr hta hown hlocks hml hin hN hK hP hD hS hA hl
  refine z_gen (fun G hG => ?_)
  have hl : lv_has ls 3 [(0, Value.ref (a 0))] := hl
  refine lv_iconst (v := (0 : Int32)) hx hb dX6_forgetWeather_0 (by decide) ?_
  refine lv_istore_n (lv' := [(1, Value.int (0 : Int32)), (0, Value.ref (a 0))]) hx hb dX6_forgetWeather_1 rfl hl (by decide) rfl (fun ls hl => ?_)
  refine lv_iconst (v := (0 : Int32)) hx hb dX6_forgetWeather_2 (by decide) ?_
  refine lv_istore_n (lv' := [(2, Value.int (0 : Int32)), (1, Value.int (0 : Int32)), (0, Value.ref (a 0))]) hx hb dX6_forgetWeather_3 rfl hl (by decide) rfl (fun ls hl => ?_)
  have LP4 : ∀ (n : Nat) (k : Nat), (k ≤ nw) → nw - k < n → ∀ (H : Heap) (locs : List Loc) (ls : Array Slot), va_P D vwCl (wM a y mth (nI t) tb tf ts cap clr mov hom wm (nI nw) ((kp wf wt (nI t) k).1) ((kp wf wt (nI t) k).2.1) (nI nb) fr bw bl (nI no) od ow ol ork olf oco at_ aw mp mpl msh msl mwa mse) H → va_D A (wM a y mth (nI t) tb tf ts cap clr mov hom wm (nI nw) ((kp wf wt (nI t) k).1) ((kp wf wt (nI t) k).2.1) (nI nb) fr bw bl (nI no) od ow ol ork olf oco at_ aw mp mpl msh msl mwa mse) → va_S A s.heap H locs → lv_has ls 3 [(2, Value.int (nI k)), (1, Value.int (nI ((kp wf wt (nI t) k).2.2))), (0, Value.ref (a 0))] → W p l e ({ frames := 1, cells := 0, slots := 0, locals := 21 } : Room) s m args below meth c H locs 0 0 G (F0 m 4 ls []) := by
    intro n
    induction n with
    | zero => intro k hk hn; exact absurd hn (Nat.not_lt_zero _)
    | succ n ih4 =>
      intro k hk hn H locs ls hP hD hS hl
      refine lv_iload_n hx hb dX6_forgetWeather_4 rfl (lv_at hl 0 rfl) ?_
      refine lv_aload_n hx hb dX6_forgetWeather_5 rfl (lv_at hl 2 rfl) ?_
      refine gM6_spans hx hb hta hown hK hP wd_10_23 dX6_forgetWeather_6 ?_
      refine lv_icmp_ge (tgt := 61) hx hb dX6_forgetWeather_9 (by decide) (fun c9 => ?_) (fun c9 => ?_)
      · have c9 : nw ≤ k := (nI_leI (a := nw) (b := k) (by omega) (by omega)).mp c9
        have hkn : k = nw := by omega
        have hkl := kp_le wf wt (nI t) k
        refine lv_aload_n hx hb dX6_forgetWeather_61 rfl (lv_at hl 2 rfl) ?_
        refine lv_iload_n hx hb dX6_forgetWeather_62 rfl (lv_at hl 1 rfl) ?_
        refine pM6_spans hx hb hta hown hK hP hD hS wd_10_23 dX6_forgetWeather_63 (fun H locs hP hD hS => ?_)
        refine lv_aload_n hx hb dX6_forgetWeather_66 rfl (lv_at hl 2 rfl) ?_
        refine lv_aload_n hx hb dX6_forgetWeather_67 rfl (lv_at hl 2 rfl) ?_
        refine gM6_spans hx hb hta hown hK hP wd_10_23 dX6_forgetWeather_68 ?_
        refine z_callV (As := [Value.int (nI ((kp wf wt (nI t) k).2.2))]) (rest := []) hx hb hml hown hta zm_X6_tells wd_7_13 (c_X6_tells l D y a mth t tb tf ts cap clr mov hom wm ((kp wf wt (nI t) k).2.2) ((kp wf wt (nI t) k).1) ((kp wf wt (nI t) k).2.1) nb fr bw bl no od ow ol ork olf oco at_ aw mp mpl msh msl mwa mse (nI ((kp wf wt (nI t) k).2.2))) hN hK hP hD hS hA 0 rfl rfl rfl hl rfl (Nat.le_of_ble_eq_true rfl) ⟨Nat.le_of_ble_eq_true rfl, Nat.le_of_ble_eq_true rfl⟩ ⟨Nat.le_of_ble_eq_true rfl, Nat.le_of_ble_eq_true rfl⟩ dX6_forgetWeather_71 (fun v w' H locs hq hP hD hS => ?_)
        obtain ⟨rfl, rfl⟩ := hq
        refine z_iret hG hx hb hr hlocks hP hD hS (Nat.le_of_ble_eq_true rfl) (Nat.le_of_ble_eq_true rfl) dX6_forgetWeather_74 ?_
        subst hkn
        exact ⟨trivial, rfl, rfl⟩
      · have c9 : ¬ nw ≤ k := fun z => c9 ((nI_leI (a := nw) (b := k) (by omega) (by omega)).mpr z)
        have hkl := kp_le wf wt (nI t) k
        refine lv_aload_n hx hb dX6_forgetWeather_12 rfl (lv_at hl 2 rfl) ?_
        refine gM6_spanTo hx hb hta hown hK hP wd_4_20 dX6_forgetWeather_13 ?_
        refine lv_iload_n hx hb dX6_forgetWeather_16 rfl (lv_at hl 0 rfl) ?_
        refine aM_wt hx hb hK hP k rfl (by omega) dX6_forgetWeather_17 ?_
        refine lv_aload_n hx hb dX6_forgetWeather_18 rfl (lv_at hl 2 rfl) ?_
        refine gM6_time hx hb hta hown hK hP wd_9_12 dX6_forgetWeather_19 ?_
        refine lv_icmp_gt (tgt := 28) hx hb dX6_forgetWeather_22 (by decide) (fun c22 => ?_) (fun c22 => ?_)
        · refine lv_aload_n hx hb dX6_forgetWeather_28 rfl (lv_at hl 2 rfl) ?_
          refine gM6_spanFrom hx hb hta hown hK hP wd_4_19 dX6_forgetWeather_29 ?_
          refine lv_iload_n hx hb dX6_forgetWeather_32 rfl (lv_at hl 1 rfl) ?_
          refine lv_aload_n hx hb dX6_forgetWeather_33 rfl (lv_at hl 2 rfl) ?_
          refine gM6_spanFrom hx hb hta hown hK hP wd_4_19 dX6_forgetWeather_34 ?_
          refine lv_iload_n hx hb dX6_forgetWeather_37 rfl (lv_at hl 0 rfl) ?_
          refine aM_wf hx hb hK hP k rfl (by omega) dX6_forgetWeather_38 ?_
          refine sM_wf hx hb hK hP hD hS ((kp wf wt (nI t) k).2.2) rfl (by omega) dX6_forgetWeather_39 (fun H locs hP hD hS => ?_)
          refine lv_aload_n hx hb dX6_forgetWeather_40 rfl (lv_at hl 2 rfl) ?_
          refine gM6_spanTo hx hb hta hown hK hP wd_4_20 dX6_forgetWeather_41 ?_
          refine lv_iload_n hx hb dX6_forgetWeather_44 rfl (lv_at hl 1 rfl) ?_
          refine lv_aload_n hx hb dX6_forgetWeather_45 rfl (lv_at hl 2 rfl) ?_
          refine gM6_spanTo hx hb hta hown hK hP wd_4_20 dX6_forgetWeather_46 ?_
          refine lv_iload_n hx hb dX6_forgetWeather_49 rfl (lv_at hl 0 rfl) ?_
          refine aM_wt hx hb hK hP k rfl (by omega) dX6_forgetWeather_50 ?_
          refine sM_wt hx hb hK hP hD hS ((kp wf wt (nI t) k).2.2) rfl (by omega) dX6_forgetWeather_51 (fun H locs hP hD hS => ?_)
          refine lv_iinc (v := nI (((kp wf wt (nI t) k).2.2) + 1)) (lv' := [(1, Value.int (nI (((kp wf wt (nI t) k).2.2) + 1))), (2, Value.int (nI k)), (0, Value.ref (a 0))]) hx hb dX6_forgetWeather_52 hl (k := 1) rfl (nI_add ((kp wf wt (nI t) k).2.2) 1) (by decide) rfl (fun ls hl => ?_)
          refine lv_iinc (v := nI (k + 1)) (lv' := [(2, Value.int (nI (k + 1))), (1, Value.int (nI (((kp wf wt (nI t) k).2.2) + 1))), (0, Value.ref (a 0))]) hx hb dX6_forgetWeather_55 hl (k := 1) rfl (nI_add k 1) (by decide) rfl (fun ls hl => ?_)
          refine lv_goto (tgt := 4) hx hb dX6_forgetWeather_58 (by decide) ?_
          have eq2_0 : nI (((kp wf wt (nI t) k).2.2) + 1) = nI ((kp wf wt (nI t) (k + 1)).2.2) := by
            first
            | with_reducible rfl
            | rw [kp_t (fun z => by simp only [Int32.lt_iff_toInt_lt, Int32.le_iff_toInt_le] at z c22; omega)]
            | rw [kp_f (by simp only [Int32.lt_iff_toInt_lt, Int32.le_iff_toInt_le] at c22 ⊢; omega)]
          have hl := lv_sub hl [0, 1, 2] rfl
          have hl : lv_has ls 3 [(2, Value.int (nI (k + 1))), (1, Value.int (nI (((kp wf wt (nI t) k).2.2) + 1))), (0, Value.ref (a 0))] := hl
          have hl : lv_has ls 3 [(2, Value.int (nI (k + 1))), (1, Value.int (nI ((kp wf wt (nI t) (k + 1)).2.2))), (0, Value.ref (a 0))] := lv_as hl (congrArg (fun z => [(2, Value.int (nI (k + 1))), (1, Value.int z), (0, Value.ref (a 0))]) eq2_0)
          have ew3_wf : upd ((kp wf wt (nI t) k).1) ((kp wf wt (nI t) k).2.2) (((kp wf wt (nI t) k).1) k) = (kp wf wt (nI t) (k + 1)).1 := by
            first
            | with_reducible rfl
            | rw [kp_t (fun z => by simp only [Int32.lt_iff_toInt_lt, Int32.le_iff_toInt_le] at z c22; omega)]
            | rw [kp_f (by simp only [Int32.lt_iff_toInt_lt, Int32.le_iff_toInt_le] at c22 ⊢; omega)]
          have ew3_wf := congrArg (fun z => wM a y mth (nI t) tb tf ts cap clr mov hom wm (nI nw) z (upd ((kp wf wt (nI t) k).2.1) ((kp wf wt (nI t) k).2.2) (((kp wf wt (nI t) k).2.1) k)) (nI nb) fr bw bl (nI no) od ow ol ork olf oco at_ aw mp mpl msh msl mwa mse) ew3_wf
          have hP : va_P D vwCl (wM a y mth (nI t) tb tf ts cap clr mov hom wm (nI nw) ((kp wf wt (nI t) (k + 1)).1) (upd ((kp wf wt (nI t) k).2.1) ((kp wf wt (nI t) k).2.2) (((kp wf wt (nI t) k).2.1) k)) (nI nb) fr bw bl (nI no) od ow ol ork olf oco at_ aw mp mpl msh msl mwa mse) _ := zw_P ew3_wf hP
          have hD : va_D A (wM a y mth (nI t) tb tf ts cap clr mov hom wm (nI nw) ((kp wf wt (nI t) (k + 1)).1) (upd ((kp wf wt (nI t) k).2.1) ((kp wf wt (nI t) k).2.2) (((kp wf wt (nI t) k).2.1) k)) (nI nb) fr bw bl (nI no) od ow ol ork olf oco at_ aw mp mpl msh msl mwa mse) := zw_D ew3_wf hD
          have ew4_wt : upd ((kp wf wt (nI t) k).2.1) ((kp wf wt (nI t) k).2.2) (((kp wf wt (nI t) k).2.1) k) = (kp wf wt (nI t) (k + 1)).2.1 := by
            first
            | with_reducible rfl
            | rw [kp_t (fun z => by simp only [Int32.lt_iff_toInt_lt, Int32.le_iff_toInt_le] at z c22; omega)]
            | rw [kp_f (by simp only [Int32.lt_iff_toInt_lt, Int32.le_iff_toInt_le] at c22 ⊢; omega)]
          have ew4_wt := congrArg (fun z => wM a y mth (nI t) tb tf ts cap clr mov hom wm (nI nw) ((kp wf wt (nI t) (k + 1)).1) z (nI nb) fr bw bl (nI no) od ow ol ork olf oco at_ aw mp mpl msh msl mwa mse) ew4_wt
          have hP : va_P D vwCl (wM a y mth (nI t) tb tf ts cap clr mov hom wm (nI nw) ((kp wf wt (nI t) (k + 1)).1) ((kp wf wt (nI t) (k + 1)).2.1) (nI nb) fr bw bl (nI no) od ow ol ork olf oco at_ aw mp mpl msh msl mwa mse) _ := zw_P ew4_wt hP
          have hD : va_D A (wM a y mth (nI t) tb tf ts cap clr mov hom wm (nI nw) ((kp wf wt (nI t) (k + 1)).1) ((kp wf wt (nI t) (k + 1)).2.1) (nI nb) fr bw bl (nI no) od ow ol ork olf oco at_ aw mp mpl msh msl mwa mse) := zw_D ew4_wt hD
          exact ih4 (k + 1) (by omega) (by omega) _ _ _ hP hD hS hl
        · refine lv_goto (tgt := 55) hx hb dX6_forgetWeather_25 (by decide) ?_
          refine lv_iinc (v := nI (k + 1)) (lv' := [(2, Value.int (nI (k + 1))), (1, Value.int (nI ((kp wf wt (nI t) k).2.2))), (0, Value.ref (a 0))]) hx hb dX6_forgetWeather_55 hl (k := 0) rfl (nI_add k 1) (by decide) rfl (fun ls hl => ?_)
          refine lv_goto (tgt := 4) hx hb dX6_forgetWeather_58 (by decide) ?_
          have eq5_0 : nI ((kp wf wt (nI t) k).2.2) = nI ((kp wf wt (nI t) (k + 1)).2.2) := by
            first
            | with_reducible rfl
            | rw [kp_t (fun z => by simp only [Int32.lt_iff_toInt_lt, Int32.le_iff_toInt_le] at z c22; omega)]
            | rw [kp_f (by simp only [Int32.lt_iff_toInt_lt, Int32.le_iff_toInt_le] at c22 ⊢; omega)]
          have hl := lv_sub hl [0, 1, 2] rfl
          have hl : lv_has ls 3 [(2, Value.int (nI (k + 1))), (1, Value.int (nI ((kp wf wt (nI t) k).2.2))), (0, Value.ref (a 0))] := hl
          have hl : lv_has ls 3 [(2, Value.int (nI (k + 1))), (1, Value.int (nI ((kp wf wt (nI t) (k + 1)).2.2))), (0, Value.ref (a 0))] := lv_as hl (congrArg (fun z => [(2, Value.int (nI (k + 1))), (1, Value.int z), (0, Value.ref (a 0))]) eq5_0)
          have ew6_wf : (kp wf wt (nI t) k).1 = (kp wf wt (nI t) (k + 1)).1 := by
            first
            | with_reducible rfl
            | rw [kp_t (fun z => by simp only [Int32.lt_iff_toInt_lt, Int32.le_iff_toInt_le] at z c22; omega)]
            | rw [kp_f (by simp only [Int32.lt_iff_toInt_lt, Int32.le_iff_toInt_le] at c22 ⊢; omega)]
          have ew6_wf := congrArg (fun z => wM a y mth (nI t) tb tf ts cap clr mov hom wm (nI nw) z ((kp wf wt (nI t) k).2.1) (nI nb) fr bw bl (nI no) od ow ol ork olf oco at_ aw mp mpl msh msl mwa mse) ew6_wf
          have hP : va_P D vwCl (wM a y mth (nI t) tb tf ts cap clr mov hom wm (nI nw) ((kp wf wt (nI t) (k + 1)).1) ((kp wf wt (nI t) k).2.1) (nI nb) fr bw bl (nI no) od ow ol ork olf oco at_ aw mp mpl msh msl mwa mse) _ := zw_P ew6_wf hP
          have hD : va_D A (wM a y mth (nI t) tb tf ts cap clr mov hom wm (nI nw) ((kp wf wt (nI t) (k + 1)).1) ((kp wf wt (nI t) k).2.1) (nI nb) fr bw bl (nI no) od ow ol ork olf oco at_ aw mp mpl msh msl mwa mse) := zw_D ew6_wf hD
          have ew7_wt : (kp wf wt (nI t) k).2.1 = (kp wf wt (nI t) (k + 1)).2.1 := by
            first
            | with_reducible rfl
            | rw [kp_t (fun z => by simp only [Int32.lt_iff_toInt_lt, Int32.le_iff_toInt_le] at z c22; omega)]
            | rw [kp_f (by simp only [Int32.lt_iff_toInt_lt, Int32.le_iff_toInt_le] at c22 ⊢; omega)]
          have ew7_wt := congrArg (fun z => wM a y mth (nI t) tb tf ts cap clr mov hom wm (nI nw) ((kp wf wt (nI t) (k + 1)).1) z (nI nb) fr bw bl (nI no) od ow ol ork olf oco at_ aw mp mpl msh msl mwa mse) ew7_wt
          have hP : va_P D vwCl (wM a y mth (nI t) tb tf ts cap clr mov hom wm (nI nw) ((kp wf wt (nI t) (k + 1)).1) ((kp wf wt (nI t) (k + 1)).2.1) (nI nb) fr bw bl (nI no) od ow ol ork olf oco at_ aw mp mpl msh msl mwa mse) _ := zw_P ew7_wt hP
          have hD : va_D A (wM a y mth (nI t) tb tf ts cap clr mov hom wm (nI nw) ((kp wf wt (nI t) (k + 1)).1) ((kp wf wt (nI t) (k + 1)).2.1) (nI nb) fr bw bl (nI no) od ow ol ork olf oco at_ aw mp mpl msh msl mwa mse) := zw_D ew7_wt hD
          exact ih4 (k + 1) (by omega) (by omega) _ _ _ hP hD hS hl
  have eq8_0 : (0 : Int32) = nI 0 := by
    rfl
  have eq9_1 : (0 : Int32) = nI ((kp wf wt (nI t) 0).2.2) := by
    rfl
  have hl := lv_sub hl [0, 1, 2] rfl
  have hl : lv_has ls 3 [(2, Value.int (0 : Int32)), (1, Value.int (0 : Int32)), (0, Value.ref (a 0))] := hl
  have hl : lv_has ls 3 [(2, Value.int (nI 0)), (1, Value.int (0 : Int32)), (0, Value.ref (a 0))] := lv_as hl (congrArg (fun z => [(2, Value.int z), (1, Value.int (0 : Int32)), (0, Value.ref (a 0))]) eq8_0)
  have hl : lv_has ls 3 [(2, Value.int (nI 0)), (1, Value.int (nI ((kp wf wt (nI t) 0).2.2))), (0, Value.ref (a 0))] := lv_as hl (congrArg (fun z => [(2, Value.int (nI 0)), (1, Value.int z), (0, Value.ref (a 0))]) eq9_1)
  have ew10_wf : wf = (kp wf wt (nI t) 0).1 := by
    rfl
  have ew10_wf := congrArg (fun z => wM a y mth (nI t) tb tf ts cap clr mov hom wm (nI nw) z wt (nI nb) fr bw bl (nI no) od ow ol ork olf oco at_ aw mp mpl msh msl mwa mse) ew10_wf
  have hP : va_P D vwCl (wM a y mth (nI t) tb tf ts cap clr mov hom wm (nI nw) ((kp wf wt (nI t) 0).1) wt (nI nb) fr bw bl (nI no) od ow ol ork olf oco at_ aw mp mpl msh msl mwa mse) _ := zw_P ew10_wf hP
  have hD : va_D A (wM a y mth (nI t) tb tf ts cap clr mov hom wm (nI nw) ((kp wf wt (nI t) 0).1) wt (nI nb) fr bw bl (nI no) od ow ol ork olf oco at_ aw mp mpl msh msl mwa mse) := zw_D ew10_wf hD
  have ew11_wt : wt = (kp wf wt (nI t) 0).2.1 := by
    rfl
  have ew11_wt := congrArg (fun z => wM a y mth (nI t) tb tf ts cap clr mov hom wm (nI nw) ((kp wf wt (nI t) 0).1) z (nI nb) fr bw bl (nI no) od ow ol ork olf oco at_ aw mp mpl msh msl mwa mse) ew11_wt
  have hP : va_P D vwCl (wM a y mth (nI t) tb tf ts cap clr mov hom wm (nI nw) ((kp wf wt (nI t) 0).1) ((kp wf wt (nI t) 0).2.1) (nI nb) fr bw bl (nI no) od ow ol ork olf oco at_ aw mp mpl msh msl mwa mse) _ := zw_P ew11_wt hP
  have hD : va_D A (wM a y mth (nI t) tb tf ts cap clr mov hom wm (nI nw) ((kp wf wt (nI t) 0).1) ((kp wf wt (nI t) 0).2.1) (nI nb) fr bw bl (nI no) od ow ol ork olf oco at_ aw mp mpl msh msl mwa mse) := zw_D ew11_wt hD
  exact LP4 (nw - 0 + 1) 0 (by omega) (Nat.lt_succ_self _) _ _ _ hP hD hS hl
set_option maxHeartbeats 800000 in
set_option maxRecDepth 100000 in
theorem c_X6_level (l : Launch) (D : va_G) (y : Nat → ClassId) (a : Nat → Nat) (mth : Int32) (t : Nat) (tb tf ts cap clr mov hom : Int32) (wm : Int64) (nw : Nat) (wf wt : Nat → Int32) (nb : Nat) (fr bw bl : Nat → Int32) (no : Nat) (od ow ol ork olf oco at_ aw : Nat → Int32) (mp : Int32) (mpl msh msl mwa mse : Nat → Int32) (h : Int32)  : zP l D y yX6_level cX6_level 2 (some .int) 2 0 0 41 [Value.ref (a 0), Value.int h] (wM a y mth (nI t) tb tf ts cap clr mov hom wm (nI nw) wf wt (nI nb) fr bw bl (nI no) od ow ol ork olf oco at_ aw mp mpl msh msl mwa mse) (fun o9 w9 => (hoC h = 0 ∧ o9 = some (Value.int (lev tb tf ts h)) ∧ w9 = wM a y (0 : Int32) (nI t) tb tf ts cap clr mov hom wm (nI nw) wf wt (nI nb) fr bw bl (nI no) od ow ol ork olf oco at_ aw mp mpl msh msl mwa mse) ∨ (hoC h ≠ 0 ∧ ∃ r9, o9 = some (Value.int r9) ∧ w9 = wM a y (nI (hoC h)) (nI t) tb tf ts cap clr mov hom wm (nI nw) wf wt (nI nb) fr bw bl (nI no) od ow ol ork olf oco at_ aw mp mpl msh msl mwa mse)) := by
  refine zP.of (by decide +kernel) (Nat.le_of_ble_eq_true rfl) ?_
  intro p e s m args below meth c A ls hx hb hr hta hown hlocks hml hin hN hK hP hD hS hA hl
  refine z_gen (fun G hG => ?_)
  have hl : lv_has ls 2 [(0, Value.ref (a 0)), (1, Value.int h)] := hl
  refine lv_iload_n hx hb dX6_level_0 rfl (lv_at hl 1 rfl) ?_
  refine lv_iconst (v := (0 : Int32)) hx hb dX6_level_1 (by decide) ?_
  refine lv_sipush (v := (9999 : Int32)) hx hb dX6_level_2 (by decide) ?_
  refine z_callS (As := [Value.int h, Value.int (0 : Int32), Value.int (9999 : Int32)]) (rest := []) hx hb hml hown hta zm_X6_in wd_7_5 (c_X6_in l D y a mth t tb tf ts cap clr mov hom wm nw wf wt nb fr bw bl no od ow ol ork olf oco at_ aw mp mpl msh msl mwa mse h (0 : Int32) (9999 : Int32)) hN hK hP hD hS hA rfl hl rfl (Nat.le_of_ble_eq_true rfl) ⟨Nat.le_of_ble_eq_true rfl, Nat.le_of_ble_eq_true rfl⟩ ⟨Nat.le_of_ble_eq_true rfl, Nat.le_of_ble_eq_true rfl⟩ dX6_level_5 (fun v w' H locs hq hP hD hS => ?_)
  obtain ⟨rfl, rfl⟩ := hq
  refine lv_if_eq (tgt := 23) hx hb dX6_level_8 (by decide) (fun c8 => ?_) (fun c8 => ?_)
  · have c8 := bI_n0 c8
    refine lv_aload_n hx hb dX6_level_23 rfl (lv_at hl 0 rfl) ?_
    refine lv_iconst (v := (1 : Int32)) hx hb dX6_level_24 (by decide) ?_
    refine z_callV (As := [Value.int (1 : Int32)]) (rest := []) hx hb hml hown hta zm_X6_fails wd_7_8 (c_X6_fails l D y a mth t tb tf ts cap clr mov hom wm nw wf wt nb fr bw bl no od ow ol ork olf oco at_ aw mp mpl msh msl mwa mse (1 : Int32)) hN hK hP hD hS hA 0 rfl rfl rfl hl rfl (Nat.le_of_ble_eq_true rfl) ⟨Nat.le_of_ble_eq_true rfl, Nat.le_of_ble_eq_true rfl⟩ ⟨Nat.le_of_ble_eq_true rfl, Nat.le_of_ble_eq_true rfl⟩ dX6_level_25 (fun v w' H locs hq hP hD hS => ?_)
    obtain ⟨rfl, rfl⟩ := hq
    refine z_iret hG hx hb hr hlocks hP hD hS (Nat.le_of_ble_eq_true rfl) (Nat.le_of_ble_eq_true rfl) dX6_level_28 ?_
    have hcd : hoC h = 1 := by
      simp [hoC, c8]
    exact Or.inr ⟨by rw [hcd]; decide, _, rfl, by rw [hcd]; rfl⟩
  · have c8 := bI_n1 c8
    refine lv_aload_n hx hb dX6_level_11 rfl (lv_at hl 0 rfl) ?_
    refine lv_aload_n hx hb dX6_level_12 rfl (lv_at hl 0 rfl) ?_
    refine lv_iload_n hx hb dX6_level_13 rfl (lv_at hl 1 rfl) ?_
    refine z_callV (As := [Value.int h]) (rest := [Value.ref (a 0)]) hx hb hml hown hta zm_X6_levelAt wd_9_13 (c_X6_levelAt l D y a mth t tb tf ts cap clr mov hom wm nw wf wt nb fr bw bl no od ow ol ork olf oco at_ aw mp mpl msh msl mwa mse h) hN hK hP hD hS hA 0 rfl rfl rfl hl rfl (Nat.le_of_ble_eq_true rfl) ⟨Nat.le_of_ble_eq_true rfl, Nat.le_of_ble_eq_true rfl⟩ ⟨Nat.le_of_ble_eq_true rfl, Nat.le_of_ble_eq_true rfl⟩ dX6_level_14 (fun v w' H locs hq hP hD hS => ?_)
    obtain ⟨rfl, rfl⟩ := hq
    refine z_callV (As := [Value.int (lev tb tf ts h)]) (rest := []) hx hb hml hown hta zm_X6_tells wd_7_13 (c_X6_tells l D y a mth t tb tf ts cap clr mov hom wm nw wf wt nb fr bw bl no od ow ol ork olf oco at_ aw mp mpl msh msl mwa mse (lev tb tf ts h)) hN hK hP hD hS hA 0 rfl rfl rfl hl rfl (Nat.le_of_ble_eq_true rfl) ⟨Nat.le_of_ble_eq_true rfl, Nat.le_of_ble_eq_true rfl⟩ ⟨Nat.le_of_ble_eq_true rfl, Nat.le_of_ble_eq_true rfl⟩ dX6_level_17 (fun v w' H locs hq hP hD hS => ?_)
    obtain ⟨rfl, rfl⟩ := hq
    refine lv_goto (tgt := 28) hx hb dX6_level_20 (by decide) ?_
    refine z_iret hG hx hb hr hlocks hP hD hS (Nat.le_of_ble_eq_true rfl) (Nat.le_of_ble_eq_true rfl) dX6_level_28 ?_
    refine Or.inl ⟨?_, congrArg (fun z => some (Value.int z)) ?_, ?_⟩
    · simp [hoC, c8]
    · rfl
    · rfl
set_option maxHeartbeats 800000 in
set_option maxRecDepth 100000 in
theorem c_X6_badAt (l : Launch) (D : va_G) (y : Nat → ClassId) (a : Nat → Nat) (mth : Int32) (t : Nat) (tb tf ts cap clr mov hom : Int32) (wm : Int64) (nw : Nat) (wf wt : Nat → Int32) (nb : Nat) (fr bw bl : Nat → Int32) (no : Nat) (od ow ol ork olf oco at_ aw : Nat → Int32) (mp : Int32) (mpl msh msl mwa mse : Nat → Int32) (h : Int32) (hw : nw ≤ 6) : zP l D y yX6_badAt cX6_badAt 4 (some .boolean) 0 0 0 0 [Value.ref (a 0), Value.int h] (wM a y mth (nI t) tb tf ts cap clr mov hom wm (nI nw) wf wt (nI nb) fr bw bl (nI no) od ow ol ork olf oco at_ aw mp mpl msh msl mwa mse) (fun o9 w9 => o9 = some (Value.int (bI (badF wf wt nw h))) ∧ w9 = wM a y mth (nI t) tb tf ts cap clr mov hom wm (nI nw) wf wt (nI nb) fr bw bl (nI no) od ow ol ork olf oco at_ aw mp mpl msh msl mwa mse) := by
  refine zP.of (by decide +kernel) (Nat.le_of_ble_eq_true rfl) ?_
  intro p e s m args below meth c A ls hx hb hr hta hown hlocks hml hin hN hK hP hD hS hA hl
  refine z_gen (fun G hG => ?_)
  have hl : lv_has ls 4 [(0, Value.ref (a 0)), (1, Value.int h)] := hl
  refine lv_iconst (v := (0 : Int32)) hx hb dX6_badAt_0 (by decide) ?_
  refine lv_istore_n (lv' := [(2, Value.int (0 : Int32)), (0, Value.ref (a 0)), (1, Value.int h)]) hx hb dX6_badAt_1 rfl hl (by decide) rfl (fun ls hl => ?_)
  refine lv_iconst (v := (0 : Int32)) hx hb dX6_badAt_2 (by decide) ?_
  refine lv_istore_n (lv' := [(3, Value.int (0 : Int32)), (2, Value.int (0 : Int32)), (0, Value.ref (a 0)), (1, Value.int h)]) hx hb dX6_badAt_3 rfl hl (by decide) rfl (fun ls hl => ?_)
  have LP4 : ∀ (n : Nat) (k : Nat), (k ≤ nw) → nw - k < n → ∀ (H : Heap) (locs : List Loc) (ls : Array Slot), va_P D vwCl (wM a y mth (nI t) tb tf ts cap clr mov hom wm (nI nw) wf wt (nI nb) fr bw bl (nI no) od ow ol ork olf oco at_ aw mp mpl msh msl mwa mse) H → va_D A (wM a y mth (nI t) tb tf ts cap clr mov hom wm (nI nw) wf wt (nI nb) fr bw bl (nI no) od ow ol ork olf oco at_ aw mp mpl msh msl mwa mse) → va_S A s.heap H locs → lv_has ls 4 [(3, Value.int (nI k)), (2, Value.int (bI (badF wf wt k h))), (0, Value.ref (a 0)), (1, Value.int h)] → W p l e ({ frames := 0, cells := 0, slots := 0, locals := 0 } : Room) s m args below meth c H locs 0 0 G (F0 m 4 ls []) := by
    intro n
    induction n with
    | zero => intro k hk hn; exact absurd hn (Nat.not_lt_zero _)
    | succ n ih4 =>
      intro k hk hn H locs ls hP hD hS hl
      refine lv_iload_n hx hb dX6_badAt_4 rfl (lv_at hl 0 rfl) ?_
      refine lv_aload_n hx hb dX6_badAt_5 rfl (lv_at hl 2 rfl) ?_
      refine gM6_spans hx hb hta hown hK hP wd_10_23 dX6_badAt_6 ?_
      refine lv_icmp_ge (tgt := 48) hx hb dX6_badAt_9 (by decide) (fun c9 => ?_) (fun c9 => ?_)
      · have c9 : nw ≤ k := (nI_leI (a := nw) (b := k) (by omega) (by omega)).mp c9
        refine lv_iload_n hx hb dX6_badAt_48 rfl (lv_at hl 1 rfl) ?_
        refine z_zret hG hx hb hr hlocks hP hD hS (Nat.le_of_ble_eq_true rfl) (Nat.le_of_ble_eq_true rfl) dX6_badAt_49 ?_ ?_
        · exact bI_nar _
        · refine zqi ?_
          rw [show k = nw by omega]
      · have c9 : ¬ nw ≤ k := fun z => c9 ((nI_leI (a := nw) (b := k) (by omega) (by omega)).mpr z)
        refine lv_iload_n hx hb dX6_badAt_12 rfl (lv_at hl 1 rfl) ?_
        refine lv_if_ne (tgt := 36) hx hb dX6_badAt_13 (by decide) (fun c13 => ?_) (fun c13 => ?_)
        · have c13 := bI_1 c13
          refine lv_iconst (v := (1 : Int32)) hx hb dX6_badAt_36 (by decide) ?_
          refine lv_goto (tgt := 41) hx hb dX6_badAt_37 (by decide) ?_
          refine lv_istore_n (lv' := [(2, Value.int (1 : Int32)), (3, Value.int (nI k)), (0, Value.ref (a 0)), (1, Value.int h)]) hx hb dX6_badAt_41 rfl hl (by decide) rfl (fun ls hl => ?_)
          refine lv_iinc (v := nI (k + 1)) (lv' := [(3, Value.int (nI (k + 1))), (2, Value.int (1 : Int32)), (0, Value.ref (a 0)), (1, Value.int h)]) hx hb dX6_badAt_42 hl (k := 1) rfl (nI_add k 1) (by decide) rfl (fun ls hl => ?_)
          refine lv_goto (tgt := 4) hx hb dX6_badAt_45 (by decide) ?_
          have eq1_0 : (1 : Int32) = bI (badF wf wt (k + 1) h) := by
            first
            | with_reducible rfl
            | exact bI_t (by rw [badF_s, c13]; rfl)
            | exact bI_t (by rw [badF_s, decide_eq_true (by simp only [Int32.lt_iff_toInt_lt, Int32.le_iff_toInt_le] at  ⊢; omega), Bool.or_true])
            | exact bI_f (by rw [badF_s, c13, decide_eq_false (by simp only [Int32.lt_iff_toInt_lt, Int32.le_iff_toInt_le] at  ⊢; omega)]; rfl)
          have hl := lv_sub hl [0, 1, 2, 3] rfl
          have hl : lv_has ls 4 [(3, Value.int (nI (k + 1))), (2, Value.int (1 : Int32)), (0, Value.ref (a 0)), (1, Value.int h)] := hl
          have hl : lv_has ls 4 [(3, Value.int (nI (k + 1))), (2, Value.int (bI (badF wf wt (k + 1) h))), (0, Value.ref (a 0)), (1, Value.int h)] := lv_as hl (congrArg (fun z => [(3, Value.int (nI (k + 1))), (2, Value.int z), (0, Value.ref (a 0)), (1, Value.int h)]) eq1_0)
          exact ih4 (k + 1) (by omega) (by omega) _ _ _ hP hD hS hl
        · have c13 := bI_0 c13
          refine lv_iload_n hx hb dX6_badAt_16 rfl (lv_at hl 3 rfl) ?_
          refine lv_aload_n hx hb dX6_badAt_17 rfl (lv_at hl 2 rfl) ?_
          refine gM6_spanFrom hx hb hta hown hK hP wd_4_19 dX6_badAt_18 ?_
          refine lv_iload_n hx hb dX6_badAt_21 rfl (lv_at hl 0 rfl) ?_
          refine aM_wf hx hb hK hP k rfl (by omega) dX6_badAt_22 ?_
          refine lv_icmp_lt (tgt := 40) hx hb dX6_badAt_23 (by decide) (fun c23 => ?_) (fun c23 => ?_)
          · refine lv_iconst (v := (0 : Int32)) hx hb dX6_badAt_40 (by decide) ?_
            refine lv_istore_n (lv' := [(2, Value.int (0 : Int32)), (3, Value.int (nI k)), (0, Value.ref (a 0)), (1, Value.int h)]) hx hb dX6_badAt_41 rfl hl (by decide) rfl (fun ls hl => ?_)
            refine lv_iinc (v := nI (k + 1)) (lv' := [(3, Value.int (nI (k + 1))), (2, Value.int (0 : Int32)), (0, Value.ref (a 0)), (1, Value.int h)]) hx hb dX6_badAt_42 hl (k := 1) rfl (nI_add k 1) (by decide) rfl (fun ls hl => ?_)
            refine lv_goto (tgt := 4) hx hb dX6_badAt_45 (by decide) ?_
            have eq2_0 : (0 : Int32) = bI (badF wf wt (k + 1) h) := by
              first
              | with_reducible rfl
              | exact bI_t (by rw [badF_s, c13]; rfl)
              | exact bI_t (by rw [badF_s, decide_eq_true (by simp only [Int32.lt_iff_toInt_lt, Int32.le_iff_toInt_le] at c23 ⊢; omega), Bool.or_true])
              | exact bI_f (by rw [badF_s, c13, decide_eq_false (by simp only [Int32.lt_iff_toInt_lt, Int32.le_iff_toInt_le] at c23 ⊢; omega)]; rfl)
            have hl := lv_sub hl [0, 1, 2, 3] rfl
            have hl : lv_has ls 4 [(3, Value.int (nI (k + 1))), (2, Value.int (0 : Int32)), (0, Value.ref (a 0)), (1, Value.int h)] := hl
            have hl : lv_has ls 4 [(3, Value.int (nI (k + 1))), (2, Value.int (bI (badF wf wt (k + 1) h))), (0, Value.ref (a 0)), (1, Value.int h)] := lv_as hl (congrArg (fun z => [(3, Value.int (nI (k + 1))), (2, Value.int z), (0, Value.ref (a 0)), (1, Value.int h)]) eq2_0)
            exact ih4 (k + 1) (by omega) (by omega) _ _ _ hP hD hS hl
          · refine lv_iload_n hx hb dX6_badAt_26 rfl (lv_at hl 3 rfl) ?_
            refine lv_aload_n hx hb dX6_badAt_27 rfl (lv_at hl 2 rfl) ?_
            refine gM6_spanTo hx hb hta hown hK hP wd_4_20 dX6_badAt_28 ?_
            refine lv_iload_n hx hb dX6_badAt_31 rfl (lv_at hl 0 rfl) ?_
            refine aM_wt hx hb hK hP k rfl (by omega) dX6_badAt_32 ?_
            refine lv_icmp_ge (tgt := 40) hx hb dX6_badAt_33 (by decide) (fun c33 => ?_) (fun c33 => ?_)
            · refine lv_iconst (v := (0 : Int32)) hx hb dX6_badAt_40 (by decide) ?_
              refine lv_istore_n (lv' := [(2, Value.int (0 : Int32)), (3, Value.int (nI k)), (0, Value.ref (a 0)), (1, Value.int h)]) hx hb dX6_badAt_41 rfl hl (by decide) rfl (fun ls hl => ?_)
              refine lv_iinc (v := nI (k + 1)) (lv' := [(3, Value.int (nI (k + 1))), (2, Value.int (0 : Int32)), (0, Value.ref (a 0)), (1, Value.int h)]) hx hb dX6_badAt_42 hl (k := 1) rfl (nI_add k 1) (by decide) rfl (fun ls hl => ?_)
              refine lv_goto (tgt := 4) hx hb dX6_badAt_45 (by decide) ?_
              have eq3_0 : (0 : Int32) = bI (badF wf wt (k + 1) h) := by
                first
                | with_reducible rfl
                | exact bI_t (by rw [badF_s, c13]; rfl)
                | exact bI_t (by rw [badF_s, decide_eq_true (by simp only [Int32.lt_iff_toInt_lt, Int32.le_iff_toInt_le] at c23 c33 ⊢; omega), Bool.or_true])
                | exact bI_f (by rw [badF_s, c13, decide_eq_false (by simp only [Int32.lt_iff_toInt_lt, Int32.le_iff_toInt_le] at c23 c33 ⊢; omega)]; rfl)
              have hl := lv_sub hl [0, 1, 2, 3] rfl
              have hl : lv_has ls 4 [(3, Value.int (nI (k + 1))), (2, Value.int (0 : Int32)), (0, Value.ref (a 0)), (1, Value.int h)] := hl
              have hl : lv_has ls 4 [(3, Value.int (nI (k + 1))), (2, Value.int (bI (badF wf wt (k + 1) h))), (0, Value.ref (a 0)), (1, Value.int h)] := lv_as hl (congrArg (fun z => [(3, Value.int (nI (k + 1))), (2, Value.int z), (0, Value.ref (a 0)), (1, Value.int h)]) eq3_0)
              exact ih4 (k + 1) (by omega) (by omega) _ _ _ hP hD hS hl
            · refine lv_iconst (v := (1 : Int32)) hx hb dX6_badAt_36 (by decide) ?_
              refine lv_goto (tgt := 41) hx hb dX6_badAt_37 (by decide) ?_
              refine lv_istore_n (lv' := [(2, Value.int (1 : Int32)), (3, Value.int (nI k)), (0, Value.ref (a 0)), (1, Value.int h)]) hx hb dX6_badAt_41 rfl hl (by decide) rfl (fun ls hl => ?_)
              refine lv_iinc (v := nI (k + 1)) (lv' := [(3, Value.int (nI (k + 1))), (2, Value.int (1 : Int32)), (0, Value.ref (a 0)), (1, Value.int h)]) hx hb dX6_badAt_42 hl (k := 1) rfl (nI_add k 1) (by decide) rfl (fun ls hl => ?_)
              refine lv_goto (tgt := 4) hx hb dX6_badAt_45 (by decide) ?_
              have eq4_0 : (1 : Int32) = bI (badF wf wt (k + 1) h) := by
                first
                | with_reducible rfl
                | exact bI_t (by rw [badF_s, c13]; rfl)
                | exact bI_t (by rw [badF_s, decide_eq_true (by simp only [Int32.lt_iff_toInt_lt, Int32.le_iff_toInt_le] at c23 c33 ⊢; omega), Bool.or_true])
                | exact bI_f (by rw [badF_s, c13, decide_eq_false (by simp only [Int32.lt_iff_toInt_lt, Int32.le_iff_toInt_le] at c23 c33 ⊢; omega)]; rfl)
              have hl := lv_sub hl [0, 1, 2, 3] rfl
              have hl : lv_has ls 4 [(3, Value.int (nI (k + 1))), (2, Value.int (1 : Int32)), (0, Value.ref (a 0)), (1, Value.int h)] := hl
              have hl : lv_has ls 4 [(3, Value.int (nI (k + 1))), (2, Value.int (bI (badF wf wt (k + 1) h))), (0, Value.ref (a 0)), (1, Value.int h)] := lv_as hl (congrArg (fun z => [(3, Value.int (nI (k + 1))), (2, Value.int z), (0, Value.ref (a 0)), (1, Value.int h)]) eq4_0)
              exact ih4 (k + 1) (by omega) (by omega) _ _ _ hP hD hS hl
  have eq5_0 : (0 : Int32) = nI 0 := by
    rfl
  have eq6_1 : (0 : Int32) = bI (badF wf wt 0 h) := by
    rfl
  have hl := lv_sub hl [0, 1, 2, 3] rfl
  have hl : lv_has ls 4 [(3, Value.int (0 : Int32)), (2, Value.int (0 : Int32)), (0, Value.ref (a 0)), (1, Value.int h)] := hl
  have hl : lv_has ls 4 [(3, Value.int (nI 0)), (2, Value.int (0 : Int32)), (0, Value.ref (a 0)), (1, Value.int h)] := lv_as hl (congrArg (fun z => [(3, Value.int z), (2, Value.int (0 : Int32)), (0, Value.ref (a 0)), (1, Value.int h)]) eq5_0)
  have hl : lv_has ls 4 [(3, Value.int (nI 0)), (2, Value.int (bI (badF wf wt 0 h))), (0, Value.ref (a 0)), (1, Value.int h)] := lv_as hl (congrArg (fun z => [(3, Value.int (nI 0)), (2, Value.int z), (0, Value.ref (a 0)), (1, Value.int h)]) eq6_1)
  exact LP4 (nw - 0 + 1) 0 (by omega) (Nat.lt_succ_self _) _ _ _ hP hD hS hl
set_option maxHeartbeats 800000 in
set_option maxRecDepth 100000 in
theorem c_X6_floats (l : Launch) (D : va_G) (y : Nat → ClassId) (a : Nat → Nat) (mth : Int32) (t : Nat) (tb tf ts cap clr mov hom : Int32) (wm : Int64) (nw : Nat) (wf wt : Nat → Int32) (nb : Nat) (fr bw bl : Nat → Int32) (no : Nat) (od ow ol ork olf oco at_ aw : Nat → Int32) (mp : Int32) (mpl msh msl mwa mse : Nat → Int32) (j : Nat) (h : Int32) (hj8 : j < 8) : zP l D y yX6_floats cX6_floats 3 (some .boolean) 2 0 0 41 [Value.ref (a 0), Value.int (nI j), Value.int h] (wM a y mth (nI t) tb tf ts cap clr mov hom wm (nI nw) wf wt (nI nb) fr bw bl (nI no) od ow ol ork olf oco at_ aw mp mpl msh msl mwa mse) (fun o9 w9 => o9 = some (Value.int (bI (enW tb tf ts clr od j h))) ∧ w9 = wM a y mth (nI t) tb tf ts cap clr mov hom wm (nI nw) wf wt (nI nb) fr bw bl (nI no) od ow ol ork olf oco at_ aw mp mpl msh msl mwa mse) := by
  refine zP.of (by decide +kernel) (Nat.le_of_ble_eq_true rfl) ?_
  intro p e s m args below meth c A ls hx hb hr hta hown hlocks hml hin hN hK hP hD hS hA hl
  refine z_gen (fun G hG => ?_)
  have hl : lv_has ls 3 [(0, Value.ref (a 0)), (1, Value.int (nI j)), (2, Value.int h)] := hl
  refine lv_aload_n hx hb dX6_floats_0 rfl (lv_at hl 0 rfl) ?_
  refine lv_iload_n hx hb dX6_floats_1 rfl (lv_at hl 2 rfl) ?_
  refine z_callV (As := [Value.int h]) (rest := []) hx hb hml hown hta zm_X6_levelAt wd_9_13 (c_X6_levelAt l D y a mth t tb tf ts cap clr mov hom wm nw wf wt nb fr bw bl no od ow ol ork olf oco at_ aw mp mpl msh msl mwa mse h) hN hK hP hD hS hA 0 rfl rfl rfl hl rfl (Nat.le_of_ble_eq_true rfl) ⟨Nat.le_of_ble_eq_true rfl, Nat.le_of_ble_eq_true rfl⟩ ⟨Nat.le_of_ble_eq_true rfl, Nat.le_of_ble_eq_true rfl⟩ dX6_floats_2 (fun v w' H locs hq hP hD hS => ?_)
  obtain ⟨rfl, rfl⟩ := hq
  refine lv_aload_n hx hb dX6_floats_5 rfl (lv_at hl 0 rfl) ?_
  refine gM6_draught hx hb hta hown hK hP wd_5_0 dX6_floats_6 ?_
  refine lv_iload_n hx hb dX6_floats_9 rfl (lv_at hl 1 rfl) ?_
  refine aM_od hx hb hK hP j rfl (by omega) dX6_floats_10 ?_
  refine lv_aload_n hx hb dX6_floats_11 rfl (lv_at hl 0 rfl) ?_
  refine gM6_clearance hx hb hta hown hK hP wd_4_17 dX6_floats_12 ?_
  refine lv_iadd hx hb dX6_floats_15 ?_
  refine lv_icmp_lt (tgt := 23) hx hb dX6_floats_16 (by decide) (fun c16 => ?_) (fun c16 => ?_)
  · refine lv_iconst (v := (0 : Int32)) hx hb dX6_floats_23 (by decide) ?_
    refine z_zret hG hx hb hr hlocks hP hD hS (Nat.le_of_ble_eq_true rfl) (Nat.le_of_ble_eq_true rfl) dX6_floats_24 ?_ ?_
    · rfl
    · refine zqi ?_
      unfold enW
      first
      | exact bI_t (decide_eq_true (by simp only [Int32.lt_iff_toInt_lt, Int32.le_iff_toInt_le] at c16 ⊢; omega))
      | exact bI_f (decide_eq_false (by simp only [Int32.lt_iff_toInt_lt, Int32.le_iff_toInt_le] at c16 ⊢; omega))
  · refine lv_iconst (v := (1 : Int32)) hx hb dX6_floats_19 (by decide) ?_
    refine lv_goto (tgt := 24) hx hb dX6_floats_20 (by decide) ?_
    refine z_zret hG hx hb hr hlocks hP hD hS (Nat.le_of_ble_eq_true rfl) (Nat.le_of_ble_eq_true rfl) dX6_floats_24 ?_ ?_
    · rfl
    · refine zqi ?_
      unfold enW
      first
      | exact bI_t (decide_eq_true (by simp only [Int32.lt_iff_toInt_lt, Int32.le_iff_toInt_le] at c16 ⊢; omega))
      | exact bI_f (decide_eq_false (by simp only [Int32.lt_iff_toInt_lt, Int32.le_iff_toInt_le] at c16 ⊢; omega))
