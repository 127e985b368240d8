set_option maxHeartbeats 800000 in
set_option maxRecDepth 100000 in
theorem c_X6_asksLeast (l : Launch) (D : va_G) (y : Nat → ClassId) (a : Nat → Nat) (mth : Int32) (t : Nat) (tb tf ts cap clr mov hom : Int32) (wm : Int64) (nw : Nat) (wf wt : Nat → Int32) (nb : Nat) (fr bw bl : Nat → Int32) (no : Nat) (od ow ol ork olf oco at_ aw : Nat → Int32) (mp : Int32) (mpl msh msl mwa mse : Nat → Int32) (b : Int32) (Wf : Nat → Nat) (Ed : (Nat → Int32) → Nat → Nat → Prop) (Cl : (Nat → Int32) → Prop) (v : Int32) (hb8 : no ≤ 8) (hb6 : nb ≤ 6) (hfr : ∀ k, k < nb → fr k = -1 ∨ ∃ j, j < k ∧ fr k = nI j) (hE : Eok nb no Ed) (h0 : Va nb no at_) (hW : Wok no ow Wf) (hEd : EdM nb no cap olf fr ow ol bw bl Ed) (hCl : inB b no = true → ClM nb no fr (nN b) Cl) (hv : Lst no Wf Ed at_ Cl v) : zP l D y yX6_asksLeast cX6_asksLeast 3 (some .int) 5 0 0 117 [Value.ref (a 0), Value.int b] (wM a y mth (nI t) tb tf ts cap clr mov hom wm (nI nw) wf wt (nI nb) fr bw bl (nI no) od ow ol ork olf oco at_ aw mp mpl msh msl mwa mse) (fun o9 w9 => ∃ (mp9 : Int32) (mpl9 : Nat → Int32) (msh9 : Nat → Int32) (msl9 : Nat → Int32) (mse9 : Nat → Int32) (mwa9 : Nat → Int32) (r9 : Int32) (mth9 : Int32), ((lmC no at_ b v = 0 ∧ r9 = v ∧ mth9 = 0) ∨ (lmC no at_ b v ≠ 0 ∧ mth9 = nI (lmC no at_ b v))) ∧ o9 = some (Value.int r9) ∧ w9 = wM a y mth9 (nI t) tb tf ts cap clr mov hom wm (nI nw) wf wt (nI nb) fr bw bl (nI no) od ow ol ork olf oco at_ aw mp9 mpl9 msh9 msl9 mwa9 mse9) := by
  refine zP.of (by decide +kernel) (Nat.le_of_ble_eq_true rfl) ?_
  intro p e s m args below meth c A ls hx hb hr hta hown hlocks hml hin hN hK hP hD hS hA hl
  refine z_gen (fun G hG => ?_)
  have hl : lv_has ls 3 [(0, Value.ref (a 0)), (1, Value.int b)] := hl
  refine lv_aload_n hx hb dX6_asksLeast_0 rfl (lv_at hl 0 rfl) ?_
  refine lv_iload_n hx hb dX6_asksLeast_1 rfl (lv_at hl 1 rfl) ?_
  refine z_callV (As := [Value.int b]) (rest := []) hx hb hml hown hta zm_X6_isBoat wd_14_10 (c_X6_isBoat l D y a mth t tb tf ts cap clr mov hom wm nw wf wt nb fr bw bl no od ow ol ork olf oco at_ aw mp mpl msh msl mwa mse b (by omega)) hN hK hP hD hS hA 0 rfl rfl rfl hl rfl (Nat.le_of_ble_eq_true rfl) ⟨Nat.le_of_ble_eq_true rfl, Nat.le_of_ble_eq_true rfl⟩ ⟨Nat.le_of_ble_eq_true rfl, Nat.le_of_ble_eq_true rfl⟩ dX6_asksLeast_2 (fun v w' H locs hq hP hD hS => ?_)
  obtain ⟨rfl, rfl⟩ := hq
  refine lv_if_ne (tgt := 14) hx hb dX6_asksLeast_5 (by decide) (fun c5 => ?_) (fun c5 => ?_)
  · have c5 := bI_1 c5
    obtain ⟨j, hj, rfl⟩ := (inB_iff (by omega)).mp c5
    have ej : nN (nI j) = j := nI_clamp (by omega)
    refine lv_aload_n hx hb dX6_asksLeast_14 rfl (lv_at hl 0 rfl) ?_
    refine gM6_at hx hb hta hown hK hP wd_5_6 dX6_asksLeast_15 ?_
    refine lv_iload_n hx hb dX6_asksLeast_18 rfl (lv_at hl 1 rfl) ?_
    refine aM_at_ hx hb hK hP j rfl (by omega) dX6_asksLeast_19 ?_
    refine lv_iconst (v := (-1 : Int32)) hx hb dX6_asksLeast_20 (by decide) ?_
    refine lv_icmp_ne (tgt := 30) hx hb dX6_asksLeast_21 (by decide) (fun c21 => ?_) (fun c21 => ?_)
    · refine lv_aload_n hx hb dX6_asksLeast_30 rfl (lv_at hl 0 rfl) ?_
      refine lv_iload_n hx hb dX6_asksLeast_31 rfl (lv_at hl 1 rfl) ?_
      refine z_callV (As := [Value.int (nI j)]) (rest := []) hx hb hml hown hta zm_X6_leastFor wd_32_17 (c_X6_leastFor l D y a mth t tb tf ts cap clr mov hom wm nw wf wt nb fr bw bl no od ow ol ork olf oco at_ aw mp mpl msh msl mwa mse j Wf Ed Cl v (by omega) (by omega) hfr (by omega) hE h0 hW hEd (by have z := hCl c5; rw [ej] at z; exact z) c21 hv) hN hK hP hD hS hA 0 rfl rfl rfl hl rfl (Nat.le_of_ble_eq_true rfl) ⟨Nat.le_of_ble_eq_true rfl, Nat.le_of_ble_eq_true rfl⟩ ⟨Nat.le_of_ble_eq_true rfl, Nat.le_of_ble_eq_true rfl⟩ dX6_asksLeast_32 (fun v w' H locs hq hP hD hS => ?_)
      obtain ⟨mpl9_2, msh9_2, msl9_2, mse9_2, mq9_2, mwa9_2, hq2, rfl, rfl⟩ := hq
      refine lv_istore_n (lv' := [(2, Value.int v), (0, Value.ref (a 0)), (1, Value.int (nI j))]) hx hb dX6_asksLeast_35 rfl hl (by decide) rfl (fun ls hl => ?_)
      refine lv_iload_n hx hb dX6_asksLeast_36 rfl (lv_at hl 0 rfl) ?_
      refine lv_iconst (v := (-1 : Int32)) hx hb dX6_asksLeast_37 (by decide) ?_
      refine lv_icmp_ne (tgt := 49) hx hb dX6_asksLeast_38 (by decide) (fun c38 => ?_) (fun c38 => ?_)
      · refine lv_aload_n hx hb dX6_asksLeast_49 rfl (lv_at hl 1 rfl) ?_
        refine lv_iload_n hx hb dX6_asksLeast_50 rfl (lv_at hl 0 rfl) ?_
        refine z_callV (As := [Value.int v]) (rest := []) hx hb hml hown hta zm_X6_tells wd_7_13 (c_X6_tells l D y a mth t tb tf ts cap clr mov hom wm nw wf wt nb fr bw bl no od ow ol ork olf oco at_ aw (nI mq9_2) mpl9_2 msh9_2 msl9_2 mwa9_2 mse9_2 v) hN hK hP hD hS hA 0 rfl rfl rfl hl rfl (Nat.le_of_ble_eq_true rfl) ⟨Nat.le_of_ble_eq_true rfl, Nat.le_of_ble_eq_true rfl⟩ ⟨Nat.le_of_ble_eq_true rfl, Nat.le_of_ble_eq_true rfl⟩ dX6_asksLeast_51 (fun v w' H locs hq hP hD hS => ?_)
        obtain ⟨rfl, rfl⟩ := hq
        refine z_iret hG hx hb hr hlocks hP hD hS (Nat.le_of_ble_eq_true rfl) (Nat.le_of_ble_eq_true rfl) dX6_asksLeast_54 ?_
        first
        | (have hcd : lmC no at_ b v = 1 := by rw [lmC, c5]; rfl
           exact ⟨_, _, _, _, _, _, _, _, Or.inr ⟨by rw [hcd]; decide, by rw [hcd]; rfl⟩, rfl, rfl⟩)
        | (have hcd : lmC no at_ (nI j) v = 2 := by rw [lmC, if_pos c5, ej, if_pos c21]
           exact ⟨_, _, _, _, _, _, _, _, Or.inr ⟨by rw [hcd]; decide, by rw [hcd]; rfl⟩, rfl, rfl⟩)
        | (have hcd : lmC no at_ (nI j) v = 3 := by rw [lmC, if_pos c5, ej, if_neg c21, if_pos c38]
           exact ⟨_, _, _, _, _, _, _, _, Or.inr ⟨by rw [hcd]; decide, by rw [hcd]; rfl⟩, rfl, rfl⟩)
        | (have hcd : lmC no at_ (nI j) v = 0 := by rw [lmC, if_pos c5, ej, if_neg c21, if_neg c38]
           exact ⟨_, _, _, _, _, _, _, _, Or.inl ⟨hcd, rfl, rfl⟩, rfl, rfl⟩)
      · refine lv_aload_n hx hb dX6_asksLeast_41 rfl (lv_at hl 1 rfl) ?_
        refine lv_iconst (v := (3 : Int32)) hx hb dX6_asksLeast_42 (by decide) ?_
        refine z_callV (As := [Value.int (3 : Int32)]) (rest := []) hx hb hml hown hta zm_X6_fails wd_7_8 (c_X6_fails l D y a mth t tb tf ts cap clr mov hom wm nw wf wt nb fr bw bl no od ow ol ork olf oco at_ aw (nI mq9_2) mpl9_2 msh9_2 msl9_2 mwa9_2 mse9_2 (3 : Int32)) hN hK hP hD hS hA 0 rfl rfl rfl hl rfl (Nat.le_of_ble_eq_true rfl) ⟨Nat.le_of_ble_eq_true rfl, Nat.le_of_ble_eq_true rfl⟩ ⟨Nat.le_of_ble_eq_true rfl, Nat.le_of_ble_eq_true rfl⟩ dX6_asksLeast_43 (fun v w' H locs hq hP hD hS => ?_)
        obtain ⟨rfl, rfl⟩ := hq
        refine lv_goto (tgt := 54) hx hb dX6_asksLeast_46 (by decide) ?_
        refine z_iret hG hx hb hr hlocks hP hD hS (Nat.le_of_ble_eq_true rfl) (Nat.le_of_ble_eq_true rfl) dX6_asksLeast_54 ?_
        first
        | (have hcd : lmC no at_ b v = 1 := by rw [lmC, c5]; rfl
           exact ⟨_, _, _, _, _, _, _, _, Or.inr ⟨by rw [hcd]; decide, by rw [hcd]; rfl⟩, rfl, rfl⟩)
        | (have hcd : lmC no at_ (nI j) v = 2 := by rw [lmC, if_pos c5, ej, if_pos c21]
           exact ⟨_, _, _, _, _, _, _, _, Or.inr ⟨by rw [hcd]; decide, by rw [hcd]; rfl⟩, rfl, rfl⟩)
        | (have hcd : lmC no at_ (nI j) v = 3 := by rw [lmC, if_pos c5, ej, if_neg c21, if_pos c38]
           exact ⟨_, _, _, _, _, _, _, _, Or.inr ⟨by rw [hcd]; decide, by rw [hcd]; rfl⟩, rfl, rfl⟩)
        | (have hcd : lmC no at_ (nI j) v = 0 := by rw [lmC, if_pos c5, ej, if_neg c21, if_neg c38]
           exact ⟨_, _, _, _, _, _, _, _, Or.inl ⟨hcd, rfl, rfl⟩, rfl, rfl⟩)
    · refine lv_aload_n hx hb dX6_asksLeast_24 rfl (lv_at hl 0 rfl) ?_
      refine lv_iconst (v := (2 : Int32)) hx hb dX6_asksLeast_25 (by decide) ?_
      refine z_callV (As := [Value.int (2 : Int32)]) (rest := []) hx hb hml hown hta zm_X6_fails wd_7_8 (c_X6_fails l D y a mth t tb tf ts cap clr mov hom wm nw wf wt nb fr bw bl no od ow ol ork olf oco at_ aw mp mpl msh msl mwa mse (2 : Int32)) hN hK hP hD hS hA 0 rfl rfl rfl hl rfl (Nat.le_of_ble_eq_true rfl) ⟨Nat.le_of_ble_eq_true rfl, Nat.le_of_ble_eq_true rfl⟩ ⟨Nat.le_of_ble_eq_true rfl, Nat.le_of_ble_eq_true rfl⟩ dX6_asksLeast_26 (fun v w' H locs hq hP hD hS => ?_)
      obtain ⟨rfl, rfl⟩ := hq
      refine z_iret hG hx hb hr hlocks hP hD hS (Nat.le_of_ble_eq_true rfl) (Nat.le_of_ble_eq_true rfl) dX6_asksLeast_29 ?_
      first
      | (have hcd : lmC no at_ b v = 1 := by rw [lmC, c5]; rfl
         exact ⟨_, _, _, _, _, _, _, _, Or.inr ⟨by rw [hcd]; decide, by rw [hcd]; rfl⟩, rfl, rfl⟩)
      | (have hcd : lmC no at_ (nI j) v = 2 := by rw [lmC, if_pos c5, ej, if_pos c21]
         exact ⟨_, _, _, _, _, _, _, _, Or.inr ⟨by rw [hcd]; decide, by rw [hcd]; rfl⟩, rfl, rfl⟩)
      | (have hcd : lmC no at_ (nI j) v = 3 := by rw [lmC, if_pos c5, ej, if_neg c21, if_pos c38]
         exact ⟨_, _, _, _, _, _, _, _, Or.inr ⟨by rw [hcd]; decide, by rw [hcd]; rfl⟩, rfl, rfl⟩)
      | (have hcd : lmC no at_ (nI j) v = 0 := by rw [lmC, if_pos c5, ej, if_neg c21, if_neg c38]
         exact ⟨_, _, _, _, _, _, _, _, Or.inl ⟨hcd, rfl, rfl⟩, rfl, rfl⟩)
  · have c5 := bI_0 c5
    refine lv_aload_n hx hb dX6_asksLeast_8 rfl (lv_at hl 0 rfl) ?_
    refine lv_iconst (v := (1 : Int32)) hx hb dX6_asksLeast_9 (by decide) ?_
    refine z_callV (As := [Value.int (1 : Int32)]) (rest := []) hx hb hml hown hta zm_X6_fails wd_7_8 (c_X6_fails l D y a mth t tb tf ts cap clr mov hom wm nw wf wt nb fr bw bl no od ow ol ork olf oco at_ aw mp mpl msh msl mwa mse (1 : Int32)) hN hK hP hD hS hA 0 rfl rfl rfl hl rfl (Nat.le_of_ble_eq_true rfl) ⟨Nat.le_of_ble_eq_true rfl, Nat.le_of_ble_eq_true rfl⟩ ⟨Nat.le_of_ble_eq_true rfl, Nat.le_of_ble_eq_true rfl⟩ dX6_asksLeast_10 (fun v w' H locs hq hP hD hS => ?_)
    obtain ⟨rfl, rfl⟩ := hq
    refine z_iret hG hx hb hr hlocks hP hD hS (Nat.le_of_ble_eq_true rfl) (Nat.le_of_ble_eq_true rfl) dX6_asksLeast_13 ?_
    first
    | (have hcd : lmC no at_ b v = 1 := by rw [lmC, c5]; rfl
       exact ⟨_, _, _, _, _, _, _, _, Or.inr ⟨by rw [hcd]; decide, by rw [hcd]; rfl⟩, rfl, rfl⟩)
    | (have hcd : lmC no at_ (nI j) v = 2 := by rw [lmC, if_pos c5, ej, if_pos c21]
       exact ⟨_, _, _, _, _, _, _, _, Or.inr ⟨by rw [hcd]; decide, by rw [hcd]; rfl⟩, rfl, rfl⟩)
    | (have hcd : lmC no at_ (nI j) v = 3 := by rw [lmC, if_pos c5, ej, if_neg c21, if_pos c38]
       exact ⟨_, _, _, _, _, _, _, _, Or.inr ⟨by rw [hcd]; decide, by rw [hcd]; rfl⟩, rfl, rfl⟩)
    | (have hcd : lmC no at_ (nI j) v = 0 := by rw [lmC, if_pos c5, ej, if_neg c21, if_neg c38]
       exact ⟨_, _, _, _, _, _, _, _, Or.inl ⟨hcd, rfl, rfl⟩, rfl, rfl⟩)
set_option maxHeartbeats 800000 in
set_option maxRecDepth 100000 in
theorem c_X6_leastShifted (l : Launch) (D : va_G) (y : Nat → ClassId) (a : Nat → Nat) (mth : Int32) (t : Nat) (tb tf ts cap clr mov hom : Int32) (wm : Int64) (nw : Nat) (wf wt : Nat → Int32) (nb : Nat) (fr bw bl : Nat → Int32) (no : Nat) (od ow ol ork olf oco at_ aw : Nat → Int32) (mp : Int32) (mpl msh msl mwa mse : Nat → Int32) (b : Int32) (Wf : Nat → Nat) (Ed : (Nat → Int32) → Nat → Nat → Prop) (Cl : (Nat → Int32) → Prop) (v : Int32) (hb8 : no ≤ 8) (hb6 : nb ≤ 6) (hfr : ∀ k, k < nb → fr k = -1 ∨ ∃ j, j < k ∧ fr k = nI j) (hE : Eok nb no Ed) (h0 : Va nb no at_) (hW : Wok no ow Wf) (hEd : EdM nb no cap olf fr ow ol bw bl Ed) (hCl : inB b no = true → ClM nb no fr (nN b) Cl) (hv : Lst no Wf Ed at_ Cl v) : zP l D y yX6_leastShifted cX6_leastShifted 2 (some .int) 6 0 0 139 [Value.ref (a 0), Value.int b] (wM a y mth (nI t) tb tf ts cap clr mov hom wm (nI nw) wf wt (nI nb) fr bw bl (nI no) od ow ol ork olf oco at_ aw mp mpl msh msl mwa mse) (fun o9 w9 => ∃ (mp9 : Int32) (mpl9 : Nat → Int32) (msh9 : Nat → Int32) (msl9 : Nat → Int32) (mse9 : Nat → Int32) (mwa9 : Nat → Int32) (r9 : Int32) (mth9 : Int32), ((lmC no at_ b v = 0 ∧ r9 = v ∧ mth9 = 0) ∨ (lmC no at_ b v ≠ 0 ∧ mth9 = nI (lmC no at_ b v))) ∧ o9 = some (Value.int r9) ∧ w9 = wM a y mth9 (nI t) tb tf ts cap clr mov hom wm (nI nw) wf wt (nI nb) fr bw bl (nI no) od ow ol ork olf oco at_ aw mp9 mpl9 msh9 msl9 mwa9 mse9) := by
  refine zP.of (by decide +kernel) (Nat.le_of_ble_eq_true rfl) ?_
  intro p e s m args below meth c A ls hx hb hr hta hown hlocks hml hin hN hK hP hD hS hA hl
  refine z_gen (fun G hG => ?_)
  have hl : lv_has ls 2 [(0, Value.ref (a 0)), (1, Value.int b)] := hl
  refine lv_aload_n hx hb dX6_leastShifted_0 rfl (lv_at hl 0 rfl) ?_
  refine lv_iload_n hx hb dX6_leastShifted_1 rfl (lv_at hl 1 rfl) ?_
  refine z_callV (As := [Value.int b]) (rest := []) hx hb hml hown hta zm_X6_asksLeast wd_32_13 (c_X6_asksLeast l D y a mth t tb tf ts cap clr mov hom wm nw wf wt nb fr bw bl no od ow ol ork olf oco at_ aw mp mpl msh msl mwa mse b Wf Ed Cl v (by omega) (by omega) hfr hE h0 hW hEd hCl hv) hN hK hP hD hS hA 0 rfl rfl rfl hl rfl (Nat.le_of_ble_eq_true rfl) ⟨Nat.le_of_ble_eq_true rfl, Nat.le_of_ble_eq_true rfl⟩ ⟨Nat.le_of_ble_eq_true rfl, Nat.le_of_ble_eq_true rfl⟩ dX6_leastShifted_2 (fun v w' H locs hq hP hD hS => ?_)
  obtain ⟨mp9_1, mpl9_1, msh9_1, msl9_1, mse9_1, mwa9_1, r9_1, mth9_1, hq1, rfl, rfl⟩ := hq
  refine z_iret hG hx hb hr hlocks hP hD hS (Nat.le_of_ble_eq_true rfl) (Nat.le_of_ble_eq_true rfl) dX6_leastShifted_5 ?_
  exact ⟨_, _, _, _, _, _, _, _, hq1, rfl, rfl⟩
set_option maxHeartbeats 800000 in
set_option maxRecDepth 100000 in
theorem c_X6_leastByRounds (l : Launch) (D : va_G) (y : Nat → ClassId) (a : Nat → Nat) (mth : Int32) (t : Nat) (tb tf ts cap clr mov hom : Int32) (wm : Int64) (nw : Nat) (wf wt : Nat → Int32) (nb : Nat) (fr bw bl : Nat → Int32) (no : Nat) (od ow ol ork olf oco at_ aw : Nat → Int32) (mp : Int32) (mpl msh msl mwa mse : Nat → Int32) (b : Int32) (Wf : Nat → Nat) (Ed : (Nat → Int32) → Nat → Nat → Prop) (Cl : (Nat → Int32) → Prop) (v : Int32) (hb8 : no ≤ 8) (hb6 : nb ≤ 6) (hfr : ∀ k, k < nb → fr k = -1 ∨ ∃ j, j < k ∧ fr k = nI j) (hE : Eok nb no Ed) (h0 : Va nb no at_) (hW : Wok no ow Wf) (hEd : EdM nb no cap olf fr ow ol bw bl Ed) (hCl : inB b no = true → ClM nb no fr (nN b) Cl) (hv : Lst no Wf Ed at_ Cl v) : zP l D y yX6_leastByRounds cX6_leastByRounds 2 (some .int) 6 0 0 139 [Value.ref (a 0), Value.int b] (wM a y mth (nI t) tb tf ts cap clr mov hom wm (nI nw) wf wt (nI nb) fr bw bl (nI no) od ow ol ork olf oco at_ aw mp mpl msh msl mwa mse) (fun o9 w9 => ∃ (mp9 : Int32) (mpl9 : Nat → Int32) (msh9 : Nat → Int32) (msl9 : Nat → Int32) (mse9 : Nat → Int32) (mwa9 : Nat → Int32) (r9 : Int32) (mth9 : Int32), ((lmC no at_ b v = 0 ∧ r9 = v ∧ mth9 = 0) ∨ (lmC no at_ b v ≠ 0 ∧ mth9 = nI (lmC no at_ b v))) ∧ o9 = some (Value.int r9) ∧ w9 = wM a y mth9 (nI t) tb tf ts cap clr mov hom wm (nI nw) wf wt (nI nb) fr bw bl (nI no) od ow ol ork olf oco at_ aw mp9 mpl9 msh9 msl9 mwa9 mse9) := by
  refine zP.of (by decide +kernel) (Nat.le_of_ble_eq_true rfl) ?_
  intro p e s m args below meth c A ls hx hb hr hta hown hlocks hml hin hN hK hP hD hS hA hl
  refine z_gen (fun G hG => ?_)
  have hl : lv_has ls 2 [(0, Value.ref (a 0)), (1, Value.int b)] := hl
  refine lv_aload_n hx hb dX6_leastByRounds_0 rfl (lv_at hl 0 rfl) ?_
  refine lv_iload_n hx hb dX6_leastByRounds_1 rfl (lv_at hl 1 rfl) ?_
  refine z_callV (As := [Value.int b]) (rest := []) hx hb hml hown hta zm_X6_asksLeast wd_32_13 (c_X6_asksLeast l D y a mth t tb tf ts cap clr mov hom wm nw wf wt nb fr bw bl no od ow ol ork olf oco at_ aw mp mpl msh msl mwa mse b Wf Ed Cl v (by omega) (by omega) hfr hE h0 hW hEd hCl hv) hN hK hP hD hS hA 0 rfl rfl rfl hl rfl (Nat.le_of_ble_eq_true rfl) ⟨Nat.le_of_ble_eq_true rfl, Nat.le_of_ble_eq_true rfl⟩ ⟨Nat.le_of_ble_eq_true rfl, Nat.le_of_ble_eq_true rfl⟩ dX6_leastByRounds_2 (fun v w' H locs hq hP hD hS => ?_)
  obtain ⟨mp9_1, mpl9_1, msh9_1, msl9_1, mse9_1, mwa9_1, r9_1, mth9_1, hq1, rfl, rfl⟩ := hq
  refine z_iret hG hx hb hr hlocks hP hD hS (Nat.le_of_ble_eq_true rfl) (Nat.le_of_ble_eq_true rfl) dX6_leastByRounds_5 ?_
  exact ⟨_, _, _, _, _, _, _, _, hq1, rfl, rfl⟩
