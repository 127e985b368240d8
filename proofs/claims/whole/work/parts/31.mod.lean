set_option maxHeartbeats 800000 in
set_option maxRecDepth 100000 in
theorem c_X6_isBad (l : Launch) (D : va_G) (y : Nat → ClassId) (a : Nat → Nat) (mth : Int32) (t : Nat) (tb tf ts cap clr mov hom : Int32) (wm : Int64) (nw : Nat) (wf wt : Nat → Int32) (nb : Nat) (fr bw bl : Nat → Int32) (no : Nat) (od ow ol ork olf oco at_ aw : Nat → Int32) (mp : Int32) (mpl msh msl mwa mse : Nat → Int32) (h : Int32) (hw : nw ≤ 6) : zP l D y yX6_isBad cX6_isBad 2 (some .boolean) 1 0 0 23 [Value.ref (a 0), Value.int h] (wM a y mth (nI t) tb tf ts cap clr mov hom wm (nI nw) wf wt (nI nb) fr bw bl (nI no) od ow ol ork olf oco at_ aw mp mpl msh msl mwa mse) (fun o9 w9 => (hoC h = 0 ∧ o9 = some (Value.int (bI (badF wf wt nw h))) ∧ w9 = wM a y (0 : Int32) (nI t) tb tf ts cap clr mov hom wm (nI nw) wf wt (nI nb) fr bw bl (nI no) od ow ol ork olf oco at_ aw mp mpl msh msl mwa mse) ∨ (hoC h ≠ 0 ∧ ∃ r9, o9 = some (Value.int r9) ∧ w9 = wM a y (nI (hoC h)) (nI t) tb tf ts cap clr mov hom wm (nI nw) wf wt (nI nb) fr bw bl (nI no) od ow ol ork olf oco at_ aw mp mpl msh msl mwa mse)) := by
  refine zP.of (by decide +kernel) (Nat.le_of_ble_eq_true rfl) ?_
  intro p e s m args below meth c A ls hx hb hr hta hown hlocks hml hin hN hK hP hD hS hA hl
  refine z_gen (fun G hG => ?_)
  have hl : lv_has ls 2 [(0, Value.ref (a 0)), (1, Value.int h)] := hl
  refine lv_aload_n hx hb dX6_isBad_0 rfl (lv_at hl 0 rfl) ?_
  refine lv_iload_n hx hb dX6_isBad_1 rfl (lv_at hl 1 rfl) ?_
  refine lv_iconst (v := (0 : Int32)) hx hb dX6_isBad_2 (by decide) ?_
  refine lv_sipush (v := (9999 : Int32)) hx hb dX6_isBad_3 (by decide) ?_
  refine z_callS (As := [Value.int h, Value.int (0 : Int32), Value.int (9999 : Int32)]) (rest := [Value.ref (a 0)]) hx hb hml hown hta zm_X6_in wd_7_5 (c_X6_in l D y a mth t tb tf ts cap clr mov hom wm nw wf wt nb fr bw bl no od ow ol ork olf oco at_ aw mp mpl msh msl mwa mse h (0 : Int32) (9999 : Int32)) hN hK hP hD hS hA rfl hl rfl (Nat.le_of_ble_eq_true rfl) ⟨Nat.le_of_ble_eq_true rfl, Nat.le_of_ble_eq_true rfl⟩ ⟨Nat.le_of_ble_eq_true rfl, Nat.le_of_ble_eq_true rfl⟩ dX6_isBad_6 (fun v w' H locs hq hP hD hS => ?_)
  obtain ⟨rfl, rfl⟩ := hq
  refine lv_if_eq (tgt := 16) hx hb dX6_isBad_9 (by decide) (fun c9 => ?_) (fun c9 => ?_)
  · have c9 := bI_n0 c9
    refine lv_iconst (v := (1 : Int32)) hx hb dX6_isBad_16 (by decide) ?_
    refine pM6_thrown hx hb hta hown hK hP hD hS wd_7_12 dX6_isBad_17 (fun H locs hP hD hS => ?_)
    refine lv_aload_n hx hb dX6_isBad_20 rfl (lv_at hl 0 rfl) ?_
    refine gM6_thrown hx hb hta hown hK hP wd_7_12 dX6_isBad_21 ?_
    refine lv_if_ne (tgt := 39) hx hb dX6_isBad_24 (by decide) (fun c24 => ?_) (fun c24 => ?_)
    · refine lv_iconst (v := (0 : Int32)) hx hb dX6_isBad_39 (by decide) ?_
      refine z_zret hG hx hb hr hlocks hP hD hS (Nat.le_of_ble_eq_true rfl) (Nat.le_of_ble_eq_true rfl) dX6_isBad_40 ?_ ?_
      · rfl
      · have hcd : hoC h = 1 := by
          simp [hoC, c9]
        exact Or.inr ⟨by rw [hcd]; decide, _, rfl, by rw [hcd]; rfl⟩
    · exact absurd c24 (by decide)
  · have c9 := bI_n1 c9
    refine lv_iconst (v := (0 : Int32)) hx hb dX6_isBad_12 (by decide) ?_
    refine lv_goto (tgt := 17) hx hb dX6_isBad_13 (by decide) ?_
    refine pM6_thrown hx hb hta hown hK hP hD hS wd_7_12 dX6_isBad_17 (fun H locs hP hD hS => ?_)
    refine lv_aload_n hx hb dX6_isBad_20 rfl (lv_at hl 0 rfl) ?_
    refine gM6_thrown hx hb hta hown hK hP wd_7_12 dX6_isBad_21 ?_
    refine lv_if_ne (tgt := 39) hx hb dX6_isBad_24 (by decide) (fun c24 => ?_) (fun c24 => ?_)
    · exact absurd c24 (by decide)
    · refine lv_aload_n hx hb dX6_isBad_27 rfl (lv_at hl 0 rfl) ?_
      refine lv_iload_n hx hb dX6_isBad_28 rfl (lv_at hl 1 rfl) ?_
      refine z_callV (As := [Value.int h]) (rest := []) hx hb hml hown hta zm_X6_badAt wd_12_18 (c_X6_badAt l D y a (0 : Int32) t tb tf ts cap clr mov hom wm nw wf wt nb fr bw bl no od ow ol ork olf oco at_ aw mp mpl msh msl mwa mse h (by omega)) hN hK hP hD hS hA 0 rfl rfl rfl hl rfl (Nat.le_of_ble_eq_true rfl) ⟨Nat.le_of_ble_eq_true rfl, Nat.le_of_ble_eq_true rfl⟩ ⟨Nat.le_of_ble_eq_true rfl, Nat.le_of_ble_eq_true rfl⟩ dX6_isBad_29 (fun v w' H locs hq hP hD hS => ?_)
      obtain ⟨rfl, rfl⟩ := hq
      refine lv_if_eq (tgt := 39) hx hb dX6_isBad_32 (by decide) (fun c32 => ?_) (fun c32 => ?_)
      · have c32 := bI_0 c32
        refine lv_iconst (v := (0 : Int32)) hx hb dX6_isBad_39 (by decide) ?_
        refine z_zret hG hx hb hr hlocks hP hD hS (Nat.le_of_ble_eq_true rfl) (Nat.le_of_ble_eq_true rfl) dX6_isBad_40 ?_ ?_
        · rfl
        · refine Or.inl ⟨?_, congrArg (fun z => some (Value.int z)) ?_, ?_⟩
          · simp [hoC, c9, c32]
          · first
            | exact bI_t c32
            | exact bI_f c32
          · rfl
      · have c32 := bI_1 c32
        refine lv_iconst (v := (1 : Int32)) hx hb dX6_isBad_35 (by decide) ?_
        refine lv_goto (tgt := 40) hx hb dX6_isBad_36 (by decide) ?_
        refine z_zret hG hx hb hr hlocks hP hD hS (Nat.le_of_ble_eq_true rfl) (Nat.le_of_ble_eq_true rfl) dX6_isBad_40 ?_ ?_
        · rfl
        · refine Or.inl ⟨?_, congrArg (fun z => some (Value.int z)) ?_, ?_⟩
          · simp [hoC, c9, c32]
          · first
            | exact bI_t c32
            | exact bI_f c32
          · rfl
set_option maxHeartbeats 800000 in
set_option maxRecDepth 100000 in
theorem c_X6_floods (l : Launch) (D : va_G) (y : Nat → ClassId) (a : Nat → Nat) (mth : Int32) (t : Nat) (tb tf ts cap clr mov hom : Int32) (wm : Int64) (nw : Nat) (wf wt : Nat → Int32) (nb : Nat) (fr bw bl : Nat → Int32) (no : Nat) (od ow ol ork olf oco at_ aw : Nat → Int32) (mp : Int32) (mpl msh msl mwa mse : Nat → Int32) (b : Int32) (h : Int32) (hb8 : no ≤ 8) (ht : t ≤ 9999) : zP l D y yX6_floods cX6_floods 5 (some .int) 3 0 0 63 [Value.ref (a 0), Value.int b, Value.int h] (wM a y mth (nI t) tb tf ts cap clr mov hom wm (nI nw) wf wt (nI nb) fr bw bl (nI no) od ow ol ork olf oco at_ aw mp mpl msh msl mwa mse) (fun o9 w9 => (fhC no b h = 0 ∧ o9 = some (Value.int (nI (fb_ct (fun k => enW tb tf ts clr od (nN b) (nI (t + k))) (nN h)))) ∧ w9 = wM a y (0 : Int32) (nI t) tb tf ts cap clr mov hom wm (nI nw) wf wt (nI nb) fr bw bl (nI no) od ow ol ork olf oco at_ aw mp mpl msh msl mwa mse) ∨ (fhC no b h ≠ 0 ∧ ∃ r9, o9 = some (Value.int r9) ∧ w9 = wM a y (nI (fhC no b h)) (nI t) tb tf ts cap clr mov hom wm (nI nw) wf wt (nI nb) fr bw bl (nI no) od ow ol ork olf oco at_ aw mp mpl msh msl mwa mse)) := by
  refine zP.of (by decide +kernel) (Nat.le_of_ble_eq_true rfl) ?_
  intro p e s m args below meth c A ls hx hb hr hta hown hlocks hml hin hN hK hP hD hS hA hl
  refine z_gen (fun G hG => ?_)
  have hl : lv_has ls 5 [(0, Value.ref (a 0)), (1, Value.int b), (2, Value.int h)] := hl
  refine lv_aload_n hx hb dX6_floods_0 rfl (lv_at hl 0 rfl) ?_
  refine lv_iload_n hx hb dX6_floods_1 rfl (lv_at hl 1 rfl) ?_
  refine z_callV (As := [Value.int b]) (rest := []) hx hb hml hown hta zm_X6_isBoat wd_14_10 (c_X6_isBoat l D y a mth t tb tf ts cap clr mov hom wm nw wf wt nb fr bw bl no od ow ol ork olf oco at_ aw mp mpl msh msl mwa mse b (by omega)) hN hK hP hD hS hA 0 rfl rfl rfl hl rfl (Nat.le_of_ble_eq_true rfl) ⟨Nat.le_of_ble_eq_true rfl, Nat.le_of_ble_eq_true rfl⟩ ⟨Nat.le_of_ble_eq_true rfl, Nat.le_of_ble_eq_true rfl⟩ dX6_floods_2 (fun v w' H locs hq hP hD hS => ?_)
  obtain ⟨rfl, rfl⟩ := hq
  refine lv_if_ne (tgt := 14) hx hb dX6_floods_5 (by decide) (fun c5 => ?_) (fun c5 => ?_)
  · have c5 := bI_1 c5
    refine lv_iload_n hx hb dX6_floods_14 rfl (lv_at hl 2 rfl) ?_
    refine lv_iconst (v := (1 : Int32)) hx hb dX6_floods_15 (by decide) ?_
    refine lv_sipush (v := (5000 : Int32)) hx hb dX6_floods_16 (by decide) ?_
    refine z_callS (As := [Value.int h, Value.int (1 : Int32), Value.int (5000 : Int32)]) (rest := []) hx hb hml hown hta zm_X6_in wd_7_5 (c_X6_in l D y a mth t tb tf ts cap clr mov hom wm nw wf wt nb fr bw bl no od ow ol ork olf oco at_ aw mp mpl msh msl mwa mse h (1 : Int32) (5000 : Int32)) hN hK hP hD hS hA rfl hl rfl (Nat.le_of_ble_eq_true rfl) ⟨Nat.le_of_ble_eq_true rfl, Nat.le_of_ble_eq_true rfl⟩ ⟨Nat.le_of_ble_eq_true rfl, Nat.le_of_ble_eq_true rfl⟩ dX6_floods_19 (fun v w' H locs hq hP hD hS => ?_)
    obtain ⟨rfl, rfl⟩ := hq
    refine lv_if_ne (tgt := 31) hx hb dX6_floods_22 (by decide) (fun c22 => ?_) (fun c22 => ?_)
    · have c22 := bI_n1 c22
      obtain ⟨j, hj, rfl⟩ := (inB_iff (by omega)).mp c5
      have ej : nN (nI j) = j := nI_clamp (by omega)
      obtain ⟨n9, hn1, hn2, rfl⟩ := outR_nat (lo := 1) (hi := 5000) c22 (by decide) (by decide)
      have en9 : nN (nI n9) = n9 := nI_clamp (by omega)
      refine lv_iconst (v := (0 : Int32)) hx hb dX6_floods_31 (by decide) ?_
      refine lv_istore_n (lv' := [(3, Value.int (0 : Int32)), (0, Value.ref (a 0)), (1, Value.int (nI j)), (2, Value.int (nI n9))]) hx hb dX6_floods_32 rfl hl (by decide) rfl (fun ls hl => ?_)
      refine lv_iconst (v := (0 : Int32)) hx hb dX6_floods_33 (by decide) ?_
      refine lv_istore (lv' := [(4, Value.int (0 : Int32)), (3, Value.int (0 : Int32)), (0, Value.ref (a 0)), (1, Value.int (nI j)), (2, Value.int (nI n9))]) hx hb dX6_floods_34 hl (by decide) rfl (fun ls hl => ?_)
      have LP36 : ∀ (n : Nat) (k : Nat), (k ≤ n9) → n9 - k < n → ∀ (H : Heap) (locs : List Loc) (ls : Array Slot), va_P D vwCl (wM a y mth (nI t) tb tf ts cap clr mov hom wm (nI nw) wf wt (nI nb) fr bw bl (nI no) od ow ol ork olf oco at_ aw mp mpl msh msl mwa mse) H → va_D A (wM a y mth (nI t) tb tf ts cap clr mov hom wm (nI nw) wf wt (nI nb) fr bw bl (nI no) od ow ol ork olf oco at_ aw mp mpl msh msl mwa mse) → va_S A s.heap H locs → lv_has ls 5 [(4, Value.int (nI k)), (3, Value.int (nI (fb_ct (fun k => enW tb tf ts clr od j (nI (t + k))) k))), (0, Value.ref (a 0)), (1, Value.int (nI j)), (2, Value.int (nI n9))] → W p l e ({ frames := 3, cells := 0, slots := 0, locals := 63 } : Room) s m args below meth c H locs 0 0 G (F0 m 36 ls []) := by
        intro n
        induction n with
        | zero => intro k hk hn; exact absurd hn (Nat.not_lt_zero _)
        | succ n ih36 =>
          intro k hk hn H locs ls hP hD hS hl
          refine lv_iload hx hb dX6_floods_36 (lv_at hl 0 rfl) ?_
          refine lv_iload_n hx hb dX6_floods_38 rfl (lv_at hl 4 rfl) ?_
          refine lv_icmp_ge (tgt := 71) hx hb dX6_floods_39 (by decide) (fun c39 => ?_) (fun c39 => ?_)
          · have c39 : n9 ≤ k := (nI_leI (a := n9) (b := k) (by omega) (by omega)).mp c39
            refine lv_aload_n hx hb dX6_floods_71 rfl (lv_at hl 2 rfl) ?_
            refine lv_iload_n hx hb dX6_floods_72 rfl (lv_at hl 1 rfl) ?_
            refine z_callV (As := [Value.int (nI (fb_ct (fun k => enW tb tf ts clr od j (nI (t + k))) k))]) (rest := []) hx hb hml hown hta zm_X6_tells wd_7_13 (c_X6_tells l D y a mth t tb tf ts cap clr mov hom wm nw wf wt nb fr bw bl no od ow ol ork olf oco at_ aw mp mpl msh msl mwa mse (nI (fb_ct (fun k => enW tb tf ts clr od j (nI (t + k))) k))) hN hK hP hD hS hA 0 rfl rfl rfl hl rfl (Nat.le_of_ble_eq_true rfl) ⟨Nat.le_of_ble_eq_true rfl, Nat.le_of_ble_eq_true rfl⟩ ⟨Nat.le_of_ble_eq_true rfl, Nat.le_of_ble_eq_true rfl⟩ dX6_floods_73 (fun v w' H locs hq hP hD hS => ?_)
            obtain ⟨rfl, rfl⟩ := hq
            refine z_iret hG hx hb hr hlocks hP hD hS (Nat.le_of_ble_eq_true rfl) (Nat.le_of_ble_eq_true rfl) dX6_floods_76 ?_
            refine Or.inl ⟨?_, congrArg (fun z => some (Value.int z)) ?_, ?_⟩
            · simp [fhC, c5, c22]
            · rw [ej, en9, show k = n9 by omega]
            · rfl
          · have c39 : ¬ n9 ≤ k := fun z => c39 ((nI_leI (a := n9) (b := k) (by omega) (by omega)).mpr z)
            refine lv_iload_n hx hb dX6_floods_42 rfl (lv_at hl 1 rfl) ?_
            refine lv_aload_n hx hb dX6_floods_43 rfl (lv_at hl 2 rfl) ?_
            refine lv_iload_n hx hb dX6_floods_44 rfl (lv_at hl 3 rfl) ?_
            refine lv_aload_n hx hb dX6_floods_45 rfl (lv_at hl 2 rfl) ?_
            refine gM6_time hx hb hta hown hK hP wd_9_12 dX6_floods_46 ?_
            refine lv_iload hx hb dX6_floods_49 (lv_at hl 0 rfl) ?_
            refine lv_iadd hx hb dX6_floods_51 ?_
            refine zr_top (y := nI (t + k)) (nI_add t k) ?_
            refine z_callV (As := [Value.int (nI j), Value.int (nI (t + k))]) (rest := [Value.int (nI (fb_ct (fun k => enW tb tf ts clr od j (nI (t + k))) k))]) hx hb hml hown hta zm_X6_floats wd_14_14 (c_X6_floats l D y a mth t tb tf ts cap clr mov hom wm nw wf wt nb fr bw bl no od ow ol ork olf oco at_ aw mp mpl msh msl mwa mse j (nI (t + k)) (by omega)) hN hK hP hD hS hA 0 rfl rfl rfl hl rfl (Nat.le_of_ble_eq_true rfl) ⟨Nat.le_of_ble_eq_true rfl, Nat.le_of_ble_eq_true rfl⟩ ⟨Nat.le_of_ble_eq_true rfl, Nat.le_of_ble_eq_true rfl⟩ dX6_floods_52 (fun v w' H locs hq hP hD hS => ?_)
            obtain ⟨rfl, rfl⟩ := hq
            refine lv_if_eq (tgt := 62) hx hb dX6_floods_55 (by decide) (fun c55 => ?_) (fun c55 => ?_)
            · have c55 := bI_0 c55
              refine lv_iconst (v := (0 : Int32)) hx hb dX6_floods_62 (by decide) ?_
              refine lv_iadd hx hb dX6_floods_63 ?_
              refine zr_top (y := nI ((fb_ct (fun k => enW tb tf ts clr od j (nI (t + k))) k) + 0)) (nI_add (fb_ct (fun k => enW tb tf ts clr od j (nI (t + k))) k) 0) ?_
              refine lv_istore_n (lv' := [(3, Value.int (nI ((fb_ct (fun k => enW tb tf ts clr od j (nI (t + k))) k) + 0))), (4, Value.int (nI k)), (0, Value.ref (a 0)), (1, Value.int (nI j)), (2, Value.int (nI n9))]) hx hb dX6_floods_64 rfl hl (by decide) rfl (fun ls hl => ?_)
              refine lv_iinc (v := nI (k + 1)) (lv' := [(4, Value.int (nI (k + 1))), (3, Value.int (nI ((fb_ct (fun k => enW tb tf ts clr od j (nI (t + k))) k) + 0))), (0, Value.ref (a 0)), (1, Value.int (nI j)), (2, Value.int (nI n9))]) hx hb dX6_floods_65 hl (k := 1) rfl (nI_add k 1) (by decide) rfl (fun ls hl => ?_)
              refine lv_goto (tgt := 36) hx hb dX6_floods_68 (by decide) ?_
              have eq5_0 : nI ((fb_ct (fun k => enW tb tf ts clr od j (nI (t + k))) k) + 0) = nI (fb_ct (fun k => enW tb tf ts clr od j (nI (t + k))) (k + 1)) := by
                first
                | with_reducible rfl
                | rw [fb_ct_succ, if_pos c55]
                | (rw [fb_ct_succ, c55]; rfl)
              have hl := lv_sub hl [0, 1, 2, 3, 4] rfl
              have hl : lv_has ls 5 [(4, Value.int (nI (k + 1))), (3, Value.int (nI ((fb_ct (fun k => enW tb tf ts clr od j (nI (t + k))) k) + 0))), (0, Value.ref (a 0)), (1, Value.int (nI j)), (2, Value.int (nI n9))] := hl
              have hl : lv_has ls 5 [(4, Value.int (nI (k + 1))), (3, Value.int (nI (fb_ct (fun k => enW tb tf ts clr od j (nI (t + k))) (k + 1)))), (0, Value.ref (a 0)), (1, Value.int (nI j)), (2, Value.int (nI n9))] := lv_as hl (congrArg (fun z => [(4, Value.int (nI (k + 1))), (3, Value.int z), (0, Value.ref (a 0)), (1, Value.int (nI j)), (2, Value.int (nI n9))]) eq5_0)
              exact ih36 (k + 1) (by omega) (by omega) _ _ _ hP hD hS hl
            · have c55 := bI_1 c55
              refine lv_iconst (v := (1 : Int32)) hx hb dX6_floods_58 (by decide) ?_
              refine lv_goto (tgt := 63) hx hb dX6_floods_59 (by decide) ?_
              refine lv_iadd hx hb dX6_floods_63 ?_
              refine zr_top (y := nI ((fb_ct (fun k => enW tb tf ts clr od j (nI (t + k))) k) + 1)) (nI_add (fb_ct (fun k => enW tb tf ts clr od j (nI (t + k))) k) 1) ?_
              refine lv_istore_n (lv' := [(3, Value.int (nI ((fb_ct (fun k => enW tb tf ts clr od j (nI (t + k))) k) + 1))), (4, Value.int (nI k)), (0, Value.ref (a 0)), (1, Value.int (nI j)), (2, Value.int (nI n9))]) hx hb dX6_floods_64 rfl hl (by decide) rfl (fun ls hl => ?_)
              refine lv_iinc (v := nI (k + 1)) (lv' := [(4, Value.int (nI (k + 1))), (3, Value.int (nI ((fb_ct (fun k => enW tb tf ts clr od j (nI (t + k))) k) + 1))), (0, Value.ref (a 0)), (1, Value.int (nI j)), (2, Value.int (nI n9))]) hx hb dX6_floods_65 hl (k := 1) rfl (nI_add k 1) (by decide) rfl (fun ls hl => ?_)
              refine lv_goto (tgt := 36) hx hb dX6_floods_68 (by decide) ?_
              have eq6_0 : nI ((fb_ct (fun k => enW tb tf ts clr od j (nI (t + k))) k) + 1) = nI (fb_ct (fun k => enW tb tf ts clr od j (nI (t + k))) (k + 1)) := by
                first
                | with_reducible rfl
                | rw [fb_ct_succ, if_pos c55]
                | (rw [fb_ct_succ, c55]; rfl)
              have hl := lv_sub hl [0, 1, 2, 3, 4] rfl
              have hl : lv_has ls 5 [(4, Value.int (nI (k + 1))), (3, Value.int (nI ((fb_ct (fun k => enW tb tf ts clr od j (nI (t + k))) k) + 1))), (0, Value.ref (a 0)), (1, Value.int (nI j)), (2, Value.int (nI n9))] := hl
              have hl : lv_has ls 5 [(4, Value.int (nI (k + 1))), (3, Value.int (nI (fb_ct (fun k => enW tb tf ts clr od j (nI (t + k))) (k + 1)))), (0, Value.ref (a 0)), (1, Value.int (nI j)), (2, Value.int (nI n9))] := lv_as hl (congrArg (fun z => [(4, Value.int (nI (k + 1))), (3, Value.int z), (0, Value.ref (a 0)), (1, Value.int (nI j)), (2, Value.int (nI n9))]) eq6_0)
              exact ih36 (k + 1) (by omega) (by omega) _ _ _ hP hD hS hl
      have eq7_0 : (0 : Int32) = nI 0 := by
        rfl
      have eq8_1 : (0 : Int32) = nI (fb_ct (fun k => enW tb tf ts clr od j (nI (t + k))) 0) := by
        rfl
      have hl := lv_sub hl [0, 1, 2, 3, 4] rfl
      have hl : lv_has ls 5 [(4, Value.int (0 : Int32)), (3, Value.int (0 : Int32)), (0, Value.ref (a 0)), (1, Value.int (nI j)), (2, Value.int (nI n9))] := hl
      have hl : lv_has ls 5 [(4, Value.int (nI 0)), (3, Value.int (0 : Int32)), (0, Value.ref (a 0)), (1, Value.int (nI j)), (2, Value.int (nI n9))] := lv_as hl (congrArg (fun z => [(4, Value.int z), (3, Value.int (0 : Int32)), (0, Value.ref (a 0)), (1, Value.int (nI j)), (2, Value.int (nI n9))]) eq7_0)
      have hl : lv_has ls 5 [(4, Value.int (nI 0)), (3, Value.int (nI (fb_ct (fun k => enW tb tf ts clr od j (nI (t + k))) 0))), (0, Value.ref (a 0)), (1, Value.int (nI j)), (2, Value.int (nI n9))] := lv_as hl (congrArg (fun z => [(4, Value.int (nI 0)), (3, Value.int z), (0, Value.ref (a 0)), (1, Value.int (nI j)), (2, Value.int (nI n9))]) eq8_1)
      exact LP36 (n9 - 0 + 1) 0 (by omega) (Nat.lt_succ_self _) _ _ _ hP hD hS hl
    · have c22 := bI_n0 c22
      refine lv_aload_n hx hb dX6_floods_25 rfl (lv_at hl 0 rfl) ?_
      refine lv_iconst (v := (2 : Int32)) hx hb dX6_floods_26 (by decide) ?_
      refine z_callV (As := [Value.int (2 : Int32)]) (rest := []) hx hb hml hown hta zm_X6_fails wd_7_8 (c_X6_fails l D y a mth t tb tf ts cap clr mov hom wm nw wf wt nb fr bw bl no od ow ol ork olf oco at_ aw mp mpl msh msl mwa mse (2 : Int32)) hN hK hP hD hS hA 0 rfl rfl rfl hl rfl (Nat.le_of_ble_eq_true rfl) ⟨Nat.le_of_ble_eq_true rfl, Nat.le_of_ble_eq_true rfl⟩ ⟨Nat.le_of_ble_eq_true rfl, Nat.le_of_ble_eq_true rfl⟩ dX6_floods_27 (fun v w' H locs hq hP hD hS => ?_)
      obtain ⟨rfl, rfl⟩ := hq
      refine z_iret hG hx hb hr hlocks hP hD hS (Nat.le_of_ble_eq_true rfl) (Nat.le_of_ble_eq_true rfl) dX6_floods_30 ?_
      have hcd : fhC no b h = 2 := by
        simp [fhC, c5, c22]
      exact Or.inr ⟨by rw [hcd]; decide, _, rfl, by rw [hcd]; rfl⟩
  · have c5 := bI_0 c5
    refine lv_aload_n hx hb dX6_floods_8 rfl (lv_at hl 0 rfl) ?_
    refine lv_iconst (v := (1 : Int32)) hx hb dX6_floods_9 (by decide) ?_
    refine z_callV (As := [Value.int (1 : Int32)]) (rest := []) hx hb hml hown hta zm_X6_fails wd_7_8 (c_X6_fails l D y a mth t tb tf ts cap clr mov hom wm nw wf wt nb fr bw bl no od ow ol ork olf oco at_ aw mp mpl msh msl mwa mse (1 : Int32)) hN hK hP hD hS hA 0 rfl rfl rfl hl rfl (Nat.le_of_ble_eq_true rfl) ⟨Nat.le_of_ble_eq_true rfl, Nat.le_of_ble_eq_true rfl⟩ ⟨Nat.le_of_ble_eq_true rfl, Nat.le_of_ble_eq_true rfl⟩ dX6_floods_10 (fun v w' H locs hq hP hD hS => ?_)
    obtain ⟨rfl, rfl⟩ := hq
    refine z_iret hG hx hb hr hlocks hP hD hS (Nat.le_of_ble_eq_true rfl) (Nat.le_of_ble_eq_true rfl) dX6_floods_13 ?_
    have hcd : fhC no b h = 1 := by
      simp [fhC, c5]
    exact Or.inr ⟨by rw [hcd]; decide, _, rfl, by rw [hcd]; rfl⟩
set_option maxHeartbeats 800000 in
set_option maxRecDepth 100000 in
theorem c_X6_floodHours (l : Launch) (D : va_G) (y : Nat → ClassId) (a : Nat → Nat) (mth : Int32) (t : Nat) (tb tf ts cap clr mov hom : Int32) (wm : Int64) (nw : Nat) (wf wt : Nat → Int32) (nb : Nat) (fr bw bl : Nat → Int32) (no : Nat) (od ow ol ork olf oco at_ aw : Nat → Int32) (mp : Int32) (mpl msh msl mwa mse : Nat → Int32) (b : Int32) (h : Int32) (hb8 : no ≤ 8) (ht : t ≤ 9999) : zP l D y yX6_floodHours cX6_floodHours 3 (some .int) 4 0 0 87 [Value.ref (a 0), Value.int b, Value.int h] (wM a y mth (nI t) tb tf ts cap clr mov hom wm (nI nw) wf wt (nI nb) fr bw bl (nI no) od ow ol ork olf oco at_ aw mp mpl msh msl mwa mse) (fun o9 w9 => (fhC no b h = 0 ∧ o9 = some (Value.int (nI (fb_ct (fun k => enW tb tf ts clr od (nN b) (nI (t + k))) (nN h)))) ∧ w9 = wM a y (0 : Int32) (nI t) tb tf ts cap clr mov hom wm (nI nw) wf wt (nI nb) fr bw bl (nI no) od ow ol ork olf oco at_ aw mp mpl msh msl mwa mse) ∨ (fhC no b h ≠ 0 ∧ ∃ r9, o9 = some (Value.int r9) ∧ w9 = wM a y (nI (fhC no b h)) (nI t) tb tf ts cap clr mov hom wm (nI nw) wf wt (nI nb) fr bw bl (nI no) od ow ol ork olf oco at_ aw mp mpl msh msl mwa mse)) := by
  refine zP.of (by decide +kernel) (Nat.le_of_ble_eq_true rfl) ?_
  intro p e s m args below meth c A ls hx hb hr hta hown hlocks hml hin hN hK hP hD hS hA hl
  refine z_gen (fun G hG => ?_)
  have hl : lv_has ls 3 [(0, Value.ref (a 0)), (1, Value.int b), (2, Value.int h)] := hl
  refine lv_aload_n hx hb dX6_floodHours_0 rfl (lv_at hl 0 rfl) ?_
  refine lv_iload_n hx hb dX6_floodHours_1 rfl (lv_at hl 1 rfl) ?_
  refine lv_iload_n hx hb dX6_floodHours_2 rfl (lv_at hl 2 rfl) ?_
  refine z_callV (As := [Value.int b, Value.int h]) (rest := []) hx hb hml hown hta zm_X6_floods wd_14_6 (c_X6_floods l D y a mth t tb tf ts cap clr mov hom wm nw wf wt nb fr bw bl no od ow ol ork olf oco at_ aw mp mpl msh msl mwa mse b h (by omega) (by omega)) hN hK hP hD hS hA 0 rfl rfl rfl hl rfl (Nat.le_of_ble_eq_true rfl) ⟨Nat.le_of_ble_eq_true rfl, Nat.le_of_ble_eq_true rfl⟩ ⟨Nat.le_of_ble_eq_true rfl, Nat.le_of_ble_eq_true rfl⟩ dX6_floodHours_3 (fun v w' H locs hq hP hD hS => ?_)
  rcases hq with ⟨hq1, rfl, rfl⟩ | ⟨hq1, r1, rfl, rfl⟩
  · refine z_iret hG hx hb hr hlocks hP hD hS (Nat.le_of_ble_eq_true rfl) (Nat.le_of_ble_eq_true rfl) dX6_floodHours_6 ?_
    refine Or.inl ⟨?_, congrArg (fun z => some (Value.int z)) ?_, ?_⟩
    · exact hq1
    · rfl
    · rfl
  · refine z_iret hG hx hb hr hlocks hP hD hS (Nat.le_of_ble_eq_true rfl) (Nat.le_of_ble_eq_true rfl) dX6_floodHours_6 ?_
    have hcd : fhC no b h = fhC no b h := by
      rfl
    exact Or.inr ⟨by rw [hcd]; exact hq1, _, rfl, by rw [hcd]⟩
set_option maxHeartbeats 800000 in
set_option maxRecDepth 100000 in
theorem c_X6_floodByHours (l : Launch) (D : va_G) (y : Nat → ClassId) (a : Nat → Nat) (mth : Int32) (t : Nat) (tb tf ts cap clr mov hom : Int32) (wm : Int64) (nw : Nat) (wf wt : Nat → Int32) (nb : Nat) (fr bw bl : Nat → Int32) (no : Nat) (od ow ol ork olf oco at_ aw : Nat → Int32) (mp : Int32) (mpl msh msl mwa mse : Nat → Int32) (b : Int32) (h : Int32) (hb8 : no ≤ 8) (ht : t ≤ 9999) : zP l D y yX6_floodByHours cX6_floodByHours 3 (some .int) 4 0 0 87 [Value.ref (a 0), Value.int b, Value.int h] (wM a y mth (nI t) tb tf ts cap clr mov hom wm (nI nw) wf wt (nI nb) fr bw bl (nI no) od ow ol ork olf oco at_ aw mp mpl msh msl mwa mse) (fun o9 w9 => (fhC no b h = 0 ∧ o9 = some (Value.int (nI (fb_ct (fun k => enW tb tf ts clr od (nN b) (nI (t + k))) (nN h)))) ∧ w9 = wM a y (0 : Int32) (nI t) tb tf ts cap clr mov hom wm (nI nw) wf wt (nI nb) fr bw bl (nI no) od ow ol ork olf oco at_ aw mp mpl msh msl mwa mse) ∨ (fhC no b h ≠ 0 ∧ ∃ r9, o9 = some (Value.int r9) ∧ w9 = wM a y (nI (fhC no b h)) (nI t) tb tf ts cap clr mov hom wm (nI nw) wf wt (nI nb) fr bw bl (nI no) od ow ol ork olf oco at_ aw mp mpl msh msl mwa mse)) := by
  refine zP.of (by decide +kernel) (Nat.le_of_ble_eq_true rfl) ?_
  intro p e s m args below meth c A ls hx hb hr hta hown hlocks hml hin hN hK hP hD hS hA hl
  refine z_gen (fun G hG => ?_)
  have hl : lv_has ls 3 [(0, Value.ref (a 0)), (1, Value.int b), (2, Value.int h)] := hl
  refine lv_aload_n hx hb dX6_floodByHours_0 rfl (lv_at hl 0 rfl) ?_
  refine lv_iload_n hx hb dX6_floodByHours_1 rfl (lv_at hl 1 rfl) ?_
  refine lv_iload_n hx hb dX6_floodByHours_2 rfl (lv_at hl 2 rfl) ?_
  refine z_callV (As := [Value.int b, Value.int h]) (rest := []) hx hb hml hown hta zm_X6_floods wd_14_6 (c_X6_floods l D y a mth t tb tf ts cap clr mov hom wm nw wf wt nb fr bw bl no od ow ol ork olf oco at_ aw mp mpl msh msl mwa mse b h (by omega) (by omega)) hN hK hP hD hS hA 0 rfl rfl rfl hl rfl (Nat.le_of_ble_eq_true rfl) ⟨Nat.le_of_ble_eq_true rfl, Nat.le_of_ble_eq_true rfl⟩ ⟨Nat.le_of_ble_eq_true rfl, Nat.le_of_ble_eq_true rfl⟩ dX6_floodByHours_3 (fun v w' H locs hq hP hD hS => ?_)
  rcases hq with ⟨hq1, rfl, rfl⟩ | ⟨hq1, r1, rfl, rfl⟩
  · refine z_iret hG hx hb hr hlocks hP hD hS (Nat.le_of_ble_eq_true rfl) (Nat.le_of_ble_eq_true rfl) dX6_floodByHours_6 ?_
    refine Or.inl ⟨?_, congrArg (fun z => some (Value.int z)) ?_, ?_⟩
    · exact hq1
    · rfl
    · rfl
  · refine z_iret hG hx hb hr hlocks hP hD hS (Nat.le_of_ble_eq_true rfl) (Nat.le_of_ble_eq_true rfl) dX6_floodByHours_6 ?_
    have hcd : fhC no b h = fhC no b h := by
      rfl
    exact Or.inr ⟨by rw [hcd]; exact hq1, _, rfl, by rw [hcd]⟩
set_option maxHeartbeats 800000 in
set_option maxRecDepth 100000 in
theorem c_X6_nextFlood (l : Launch) (D : va_G) (y : Nat → ClassId) (a : Nat → Nat) (mth : Int32) (t : Nat) (tb tf ts cap clr mov hom : Int32) (wm : Int64) (nw : Nat) (wf wt : Nat → Int32) (nb : Nat) (fr bw bl : Nat → Int32) (no : Nat) (od ow ol ork olf oco at_ aw : Nat → Int32) (mp : Int32) (mpl msh msl mwa mse : Nat → Int32) (b : Int32) (hb8 : no ≤ 8) (hw : nw ≤ 6) (ht : t ≤ 9999) : zP l D y yX6_nextFlood cX6_nextFlood 3 (some .int) 3 0 0 63 [Value.ref (a 0), Value.int b] (wM a y mth (nI t) tb tf ts cap clr mov hom wm (nI nw) wf wt (nI nb) fr bw bl (nI no) od ow ol ork olf oco at_ aw mp mpl msh msl mwa mse) (fun o9 w9 => (nfC tb tf ts clr wf wt nw od no t b = 0 ∧ o9 = some (Value.int (nI (t + nfK tb tf ts clr wf wt nw od (nN b) t))) ∧ w9 = wM a y (0 : Int32) (nI t) tb tf ts cap clr mov hom wm (nI nw) wf wt (nI nb) fr bw bl (nI no) od ow ol ork olf oco at_ aw mp mpl msh msl mwa mse) ∨ (nfC tb tf ts clr wf wt nw od no t b ≠ 0 ∧ ∃ r9, o9 = some (Value.int r9) ∧ w9 = wM a y (nI (nfC tb tf ts clr wf wt nw od no t b)) (nI t) tb tf ts cap clr mov hom wm (nI nw) wf wt (nI nb) fr bw bl (nI no) od ow ol ork olf oco at_ aw mp mpl msh msl mwa mse)) := by
  refine zP.of (by decide +kernel) (Nat.le_of_ble_eq_true rfl) ?_
  intro p e s m args below meth c A ls hx hb hr hta hown hlocks hml hin hN hK hP hD hS hA hl
  refine z_gen (fun G hG => ?_)
  have hl : lv_has ls 3 [(0, Value.ref (a 0)), (1, Value.int b)] := hl
  refine lv_aload_n hx hb dX6_nextFlood_0 rfl (lv_at hl 0 rfl) ?_
  refine lv_iload_n hx hb dX6_nextFlood_1 rfl (lv_at hl 1 rfl) ?_
  refine z_callV (As := [Value.int b]) (rest := []) hx hb hml hown hta zm_X6_isBoat wd_14_10 (c_X6_isBoat l D y a mth t tb tf ts cap clr mov hom wm nw wf wt nb fr bw bl no od ow ol ork olf oco at_ aw mp mpl msh msl mwa mse b (by omega)) hN hK hP hD hS hA 0 rfl rfl rfl hl rfl (Nat.le_of_ble_eq_true rfl) ⟨Nat.le_of_ble_eq_true rfl, Nat.le_of_ble_eq_true rfl⟩ ⟨Nat.le_of_ble_eq_true rfl, Nat.le_of_ble_eq_true rfl⟩ dX6_nextFlood_2 (fun v w' H locs hq hP hD hS => ?_)
  obtain ⟨rfl, rfl⟩ := hq
  refine lv_if_ne (tgt := 14) hx hb dX6_nextFlood_5 (by decide) (fun c5 => ?_) (fun c5 => ?_)
  · have c5 := bI_1 c5
    obtain ⟨j, hj, rfl⟩ := (inB_iff (by omega)).mp c5
    have ej : nN (nI j) = j := nI_clamp (by omega)
    refine lv_iconst (v := (0 : Int32)) hx hb dX6_nextFlood_14 (by decide) ?_
    refine lv_istore_n (lv' := [(2, Value.int (0 : Int32)), (0, Value.ref (a 0)), (1, Value.int (nI j))]) hx hb dX6_nextFlood_15 rfl hl (by decide) rfl (fun ls hl => ?_)
    have LP16 : ∀ (n : Nat) (k : Nat), (k ≤ 401) → (∀ i, i < k → (fun k => !badF wf wt nw (nI (t + k)) && enW tb tf ts clr od j (nI (t + k))) i = false) → 401 - k < n → ∀ (H : Heap) (locs : List Loc) (ls : Array Slot), va_P D vwCl (wM a y mth (nI t) tb tf ts cap clr mov hom wm (nI nw) wf wt (nI nb) fr bw bl (nI no) od ow ol ork olf oco at_ aw mp mpl msh msl mwa mse) H → va_D A (wM a y mth (nI t) tb tf ts cap clr mov hom wm (nI nw) wf wt (nI nb) fr bw bl (nI no) od ow ol ork olf oco at_ aw mp mpl msh msl mwa mse) → va_S A s.heap H locs → lv_has ls 3 [(2, Value.int (nI k)), (0, Value.ref (a 0)), (1, Value.int (nI j))] → W p l e ({ frames := 3, cells := 0, slots := 0, locals := 63 } : Room) s m args below meth c H locs 0 0 G (F0 m 16 ls []) := by
      intro n
      induction n with
      | zero => intro k hk hno hn; exact absurd hn (Nat.not_lt_zero _)
      | succ n ih16 =>
        intro k hk hno hn H locs ls hP hD hS hl
        refine lv_iload_n hx hb dX6_nextFlood_16 rfl (lv_at hl 0 rfl) ?_
        refine lv_sipush (v := (400 : Int32)) hx hb dX6_nextFlood_17 (by decide) ?_
        refine lv_icmp_gt (tgt := 67) hx hb dX6_nextFlood_20 (by decide) (fun c20 => ?_) (fun c20 => ?_)
        · have c20 : 400 < k := (nI_ltI (a := 400) (b := k) (by omega) (by omega)).mp c20
          refine lv_aload_n hx hb dX6_nextFlood_67 rfl (lv_at hl 1 rfl) ?_
          refine lv_iconst (v := (2 : Int32)) hx hb dX6_nextFlood_68 (by decide) ?_
          refine z_callV (As := [Value.int (2 : Int32)]) (rest := []) hx hb hml hown hta zm_X6_fails wd_7_8 (c_X6_fails l D y a mth t tb tf ts cap clr mov hom wm nw wf wt nb fr bw bl no od ow ol ork olf oco at_ aw mp mpl msh msl mwa mse (2 : Int32)) hN hK hP hD hS hA 0 rfl rfl rfl hl rfl (Nat.le_of_ble_eq_true rfl) ⟨Nat.le_of_ble_eq_true rfl, Nat.le_of_ble_eq_true rfl⟩ ⟨Nat.le_of_ble_eq_true rfl, Nat.le_of_ble_eq_true rfl⟩ dX6_nextFlood_69 (fun v w' H locs hq hP hD hS => ?_)
          obtain ⟨rfl, rfl⟩ := hq
          refine z_iret hG hx hb hr hlocks hP hD hS (Nat.le_of_ble_eq_true rfl) (Nat.le_of_ble_eq_true rfl) dX6_nextFlood_72 ?_
          have hcd : nfC tb tf ts clr wf wt nw od no t (nI j) = 2 := by
            rw [nfC, if_pos c5, ej, if_neg (nf_none (fun i hi => hno i (by omega)))]
          exact Or.inr ⟨by rw [hcd]; decide, _, rfl, by rw [hcd]; rfl⟩
        · have c20 : ¬ 400 < k := fun z => c20 ((nI_ltI (a := 400) (b := k) (by omega) (by omega)).mpr z)
          refine lv_aload_n hx hb dX6_nextFlood_23 rfl (lv_at hl 1 rfl) ?_
          refine lv_aload_n hx hb dX6_nextFlood_24 rfl (lv_at hl 1 rfl) ?_
          refine gM6_time hx hb hta hown hK hP wd_9_12 dX6_nextFlood_25 ?_
          refine lv_iload_n hx hb dX6_nextFlood_28 rfl (lv_at hl 0 rfl) ?_
          refine lv_iadd hx hb dX6_nextFlood_29 ?_
          refine zr_top (y := nI (t + k)) (nI_add t k) ?_
          refine z_callV (As := [Value.int (nI (t + k))]) (rest := []) hx hb hml hown hta zm_X6_badAt wd_12_18 (c_X6_badAt l D y a mth t tb tf ts cap clr mov hom wm nw wf wt nb fr bw bl no od ow ol ork olf oco at_ aw mp mpl msh msl mwa mse (nI (t + k)) (by omega)) hN hK hP hD hS hA 0 rfl rfl rfl hl rfl (Nat.le_of_ble_eq_true rfl) ⟨Nat.le_of_ble_eq_true rfl, Nat.le_of_ble_eq_true rfl⟩ ⟨Nat.le_of_ble_eq_true rfl, Nat.le_of_ble_eq_true rfl⟩ dX6_nextFlood_30 (fun v w' H locs hq hP hD hS => ?_)
          obtain ⟨rfl, rfl⟩ := hq
          refine lv_if_ne (tgt := 61) hx hb dX6_nextFlood_33 (by decide) (fun c33 => ?_) (fun c33 => ?_)
          · have c33 := bI_1 c33
            refine lv_iinc (v := nI (k + 1)) (lv' := [(2, Value.int (nI (k + 1))), (0, Value.ref (a 0)), (1, Value.int (nI j))]) hx hb dX6_nextFlood_61 hl (k := 0) rfl (nI_add k 1) (by decide) rfl (fun ls hl => ?_)
            refine lv_goto (tgt := 16) hx hb dX6_nextFlood_64 (by decide) ?_
            have hl := lv_sub hl [0, 1, 2] rfl
            have hv4_hno : ∀ i, i < (k + 1) → (fun k => !badF wf wt nw (nI (t + k)) && enW tb tf ts clr od j (nI (t + k))) i = false := by
              refine all_step hno ?_
              first
              | (show (!_ && _) = false; rw [c33]; rfl)
              | (show (!_ && _) = false; rw [c47, Bool.and_false])
            exact ih16 (k + 1) (by omega) hv4_hno (by omega) _ _ _ hP hD hS hl
          · have c33 := bI_0 c33
            refine lv_aload_n hx hb dX6_nextFlood_36 rfl (lv_at hl 1 rfl) ?_
            refine lv_iload_n hx hb dX6_nextFlood_37 rfl (lv_at hl 2 rfl) ?_
            refine lv_aload_n hx hb dX6_nextFlood_38 rfl (lv_at hl 1 rfl) ?_
            refine gM6_time hx hb hta hown hK hP wd_9_12 dX6_nextFlood_39 ?_
            refine lv_iload_n hx hb dX6_nextFlood_42 rfl (lv_at hl 0 rfl) ?_
            refine lv_iadd hx hb dX6_nextFlood_43 ?_
            refine zr_top (y := nI (t + k)) (nI_add t k) ?_
            refine z_callV (As := [Value.int (nI j), Value.int (nI (t + k))]) (rest := []) hx hb hml hown hta zm_X6_floats wd_14_14 (c_X6_floats l D y a mth t tb tf ts cap clr mov hom wm nw wf wt nb fr bw bl no od ow ol ork olf oco at_ aw mp mpl msh msl mwa mse j (nI (t + k)) (by omega)) hN hK hP hD hS hA 0 rfl rfl rfl hl rfl (Nat.le_of_ble_eq_true rfl) ⟨Nat.le_of_ble_eq_true rfl, Nat.le_of_ble_eq_true rfl⟩ ⟨Nat.le_of_ble_eq_true rfl, Nat.le_of_ble_eq_true rfl⟩ dX6_nextFlood_44 (fun v w' H locs hq hP hD hS => ?_)
            obtain ⟨rfl, rfl⟩ := hq
            refine lv_if_eq (tgt := 61) hx hb dX6_nextFlood_47 (by decide) (fun c47 => ?_) (fun c47 => ?_)
            · have c47 := bI_0 c47
              refine lv_iinc (v := nI (k + 1)) (lv' := [(2, Value.int (nI (k + 1))), (0, Value.ref (a 0)), (1, Value.int (nI j))]) hx hb dX6_nextFlood_61 hl (k := 0) rfl (nI_add k 1) (by decide) rfl (fun ls hl => ?_)
              refine lv_goto (tgt := 16) hx hb dX6_nextFlood_64 (by decide) ?_
              have hl := lv_sub hl [0, 1, 2] rfl
              have hv6_hno : ∀ i, i < (k + 1) → (fun k => !badF wf wt nw (nI (t + k)) && enW tb tf ts clr od j (nI (t + k))) i = false := by
                refine all_step hno ?_
                first
                | (show (!_ && _) = false; rw [c33]; rfl)
                | (show (!_ && _) = false; rw [c47, Bool.and_false])
              exact ih16 (k + 1) (by omega) hv6_hno (by omega) _ _ _ hP hD hS hl
            · have c47 := bI_1 c47
              refine lv_aload_n hx hb dX6_nextFlood_50 rfl (lv_at hl 1 rfl) ?_
              refine lv_aload_n hx hb dX6_nextFlood_51 rfl (lv_at hl 1 rfl) ?_
              refine gM6_time hx hb hta hown hK hP wd_9_12 dX6_nextFlood_52 ?_
              refine lv_iload_n hx hb dX6_nextFlood_55 rfl (lv_at hl 0 rfl) ?_
              refine lv_iadd hx hb dX6_nextFlood_56 ?_
              refine zr_top (y := nI (t + k)) (nI_add t k) ?_
              refine z_callV (As := [Value.int (nI (t + k))]) (rest := []) hx hb hml hown hta zm_X6_tells wd_7_13 (c_X6_tells l D y a mth t tb tf ts cap clr mov hom wm nw wf wt nb fr bw bl no od ow ol ork olf oco at_ aw mp mpl msh msl mwa mse (nI (t + k))) hN hK hP hD hS hA 0 rfl rfl rfl hl rfl (Nat.le_of_ble_eq_true rfl) ⟨Nat.le_of_ble_eq_true rfl, Nat.le_of_ble_eq_true rfl⟩ ⟨Nat.le_of_ble_eq_true rfl, Nat.le_of_ble_eq_true rfl⟩ dX6_nextFlood_57 (fun v w' H locs hq hP hD hS => ?_)
              obtain ⟨rfl, rfl⟩ := hq
              refine z_iret hG hx hb hr hlocks hP hD hS (Nat.le_of_ble_eq_true rfl) (Nat.le_of_ble_eq_true rfl) dX6_nextFlood_60 ?_
              refine Or.inl ⟨?_, congrArg (fun z => some (Value.int z)) ?_, ?_⟩
              · have hfk := nf_at (tb := tb) (tf := tf) (ts := ts) (clr := clr) (od := od) (wf := wf) (wt := wt) (nw := nw) (j := j) (t := t) (k := k) (by omega) hno (by rw [c33, c47]; rfl)
                simp only [nfC, c5, ej, hfk, if_true]
                rw [if_pos (by omega)]
              · rw [ej, nf_at (k := k) (by omega) hno (by rw [c33, c47]; rfl)]
              · rfl
    have eq8_0 : (0 : Int32) = nI 0 := by
      rfl
    have hl := lv_sub hl [0, 1, 2] rfl
    have hl : lv_has ls 3 [(2, Value.int (0 : Int32)), (0, Value.ref (a 0)), (1, Value.int (nI j))] := hl
    have hl : lv_has ls 3 [(2, Value.int (nI 0)), (0, Value.ref (a 0)), (1, Value.int (nI j))] := lv_as hl (congrArg (fun z => [(2, Value.int z), (0, Value.ref (a 0)), (1, Value.int (nI j))]) eq8_0)
    have hv9_hno : ∀ i, i < 0 → (fun k => !badF wf wt nw (nI (t + k)) && enW tb tf ts clr od j (nI (t + k))) i = false := by
      intro i hi; omega
    exact LP16 (401 - 0 + 1) 0 (by omega) hv9_hno (Nat.lt_succ_self _) _ _ _ hP hD hS hl
  · have c5 := bI_0 c5
    refine lv_aload_n hx hb dX6_nextFlood_8 rfl (lv_at hl 0 rfl) ?_
    refine lv_iconst (v := (1 : Int32)) hx hb dX6_nextFlood_9 (by decide) ?_
    refine z_callV (As := [Value.int (1 : Int32)]) (rest := []) hx hb hml hown hta zm_X6_fails wd_7_8 (c_X6_fails l D y a mth t tb tf ts cap clr mov hom wm nw wf wt nb fr bw bl no od ow ol ork olf oco at_ aw mp mpl msh msl mwa mse (1 : Int32)) hN hK hP hD hS hA 0 rfl rfl rfl hl rfl (Nat.le_of_ble_eq_true rfl) ⟨Nat.le_of_ble_eq_true rfl, Nat.le_of_ble_eq_true rfl⟩ ⟨Nat.le_of_ble_eq_true rfl, Nat.le_of_ble_eq_true rfl⟩ dX6_nextFlood_10 (fun v w' H locs hq hP hD hS => ?_)
    obtain ⟨rfl, rfl⟩ := hq
    refine z_iret hG hx hb hr hlocks hP hD hS (Nat.le_of_ble_eq_true rfl) (Nat.le_of_ble_eq_true rfl) dX6_nextFlood_13 ?_
    have hcd : nfC tb tf ts clr wf wt nw od no t b = 1 := by
      simp [nfC, c5]
    exact Or.inr ⟨by rw [hcd]; decide, _, rfl, by rw [hcd]; rfl⟩
set_option maxHeartbeats 800000 in
set_option maxRecDepth 100000 in
theorem c_X6_boatAt (l : Launch) (D : va_G) (y : Nat → ClassId) (a : Nat → Nat) (mth : Int32) (t : Nat) (tb tf ts cap clr mov hom : Int32) (wm : Int64) (nw : Nat) (wf wt : Nat → Int32) (nb : Nat) (fr bw bl : Nat → Int32) (no : Nat) (od ow ol ork olf oco at_ aw : Nat → Int32) (mp : Int32) (mpl msh msl mwa mse : Nat → Int32) (g : Int32) (hb8 : no ≤ 8) : zP l D y yX6_boatAt cX6_boatAt 4 (some .int) 0 0 0 0 [Value.ref (a 0), Value.int g] (wM a y mth (nI t) tb tf ts cap clr mov hom wm (nI nw) wf wt (nI nb) fr bw bl (nI no) od ow ol ork olf oco at_ aw mp mpl msh msl mwa mse) (fun o9 w9 => o9 = some (Value.int (fI (baM at_ g no))) ∧ w9 = wM a y mth (nI t) tb tf ts cap clr mov hom wm (nI nw) wf wt (nI nb) fr bw bl (nI no) od ow ol ork olf oco at_ aw mp mpl msh msl mwa mse) := by
  refine zP.of (by decide +kernel) (Nat.le_of_ble_eq_true rfl) ?_
  intro p e s m args below meth c A ls hx hb hr hta hown hlocks hml hin hN hK hP hD hS hA hl
  refine z_gen (fun G hG => ?_)
  have hl : lv_has ls 4 [(0, Value.ref (a 0)), (1, Value.int g)] := hl
  refine lv_iconst (v := (-1 : Int32)) hx hb dX6_boatAt_0 (by decide) ?_
  refine lv_istore_n (lv' := [(2, Value.int (-1 : Int32)), (0, Value.ref (a 0)), (1, Value.int g)]) hx hb dX6_boatAt_1 rfl hl (by decide) rfl (fun ls hl => ?_)
  refine lv_iconst (v := (0 : Int32)) hx hb dX6_boatAt_2 (by decide) ?_
  refine lv_istore_n (lv' := [(3, Value.int (0 : Int32)), (2, Value.int (-1 : Int32)), (0, Value.ref (a 0)), (1, Value.int g)]) hx hb dX6_boatAt_3 rfl hl (by decide) rfl (fun ls hl => ?_)
  have LP4 : ∀ (n : Nat) (k : Nat), (k ≤ no) → no - k < n → ∀ (H : Heap) (locs : List Loc) (ls : Array Slot), va_P D vwCl (wM a y mth (nI t) tb tf ts cap clr mov hom wm (nI nw) wf wt (nI nb) fr bw bl (nI no) od ow ol ork olf oco at_ aw mp mpl msh msl mwa mse) H → va_D A (wM a y mth (nI t) tb tf ts cap clr mov hom wm (nI nw) wf wt (nI nb) fr bw bl (nI no) od ow ol ork olf oco at_ aw mp mpl msh msl mwa mse) → va_S A s.heap H locs → lv_has ls 4 [(3, Value.int (nI k)), (2, Value.int (fI (baM at_ g k))), (0, Value.ref (a 0)), (1, Value.int g)] → W p l e ({ frames := 0, cells := 0, slots := 0, locals := 0 } : Room) s m args below meth c H locs 0 0 G (F0 m 4 ls []) := by
    intro n
    induction n with
    | zero => intro k hk hn; exact absurd hn (Nat.not_lt_zero _)
    | succ n ih4 =>
      intro k hk hn H locs ls hP hD hS hl
      refine lv_iload_n hx hb dX6_boatAt_4 rfl (lv_at hl 0 rfl) ?_
      refine lv_aload_n hx hb dX6_boatAt_5 rfl (lv_at hl 2 rfl) ?_
      refine gM6_boats hx hb hta hown hK hP wd_8_13 dX6_boatAt_6 ?_
      refine lv_icmp_ge (tgt := 34) hx hb dX6_boatAt_9 (by decide) (fun c9 => ?_) (fun c9 => ?_)
      · have c9 : no ≤ k := (nI_leI (a := no) (b := k) (by omega) (by omega)).mp c9
        refine lv_iload_n hx hb dX6_boatAt_34 rfl (lv_at hl 1 rfl) ?_
        refine z_iret hG hx hb hr hlocks hP hD hS (Nat.le_of_ble_eq_true rfl) (Nat.le_of_ble_eq_true rfl) dX6_boatAt_35 ?_
        refine zqi ?_
        rw [show k = no by omega]
      · have c9 : ¬ no ≤ k := fun z => c9 ((nI_leI (a := no) (b := k) (by omega) (by omega)).mpr z)
        refine lv_aload_n hx hb dX6_boatAt_12 rfl (lv_at hl 2 rfl) ?_
        refine gM6_at hx hb hta hown hK hP wd_5_6 dX6_boatAt_13 ?_
        refine lv_iload_n hx hb dX6_boatAt_16 rfl (lv_at hl 0 rfl) ?_
        refine aM_at_ hx hb hK hP k rfl (by omega) dX6_boatAt_17 ?_
        refine lv_iload_n hx hb dX6_boatAt_18 rfl (lv_at hl 3 rfl) ?_
        refine lv_icmp_ne (tgt := 26) hx hb dX6_boatAt_19 (by decide) (fun c19 => ?_) (fun c19 => ?_)
        · refine lv_iload_n hx hb dX6_boatAt_26 rfl (lv_at hl 1 rfl) ?_
          refine lv_istore_n (lv' := [(2, Value.int (fI (baM at_ g k))), (3, Value.int (nI k)), (0, Value.ref (a 0)), (1, Value.int g)]) hx hb dX6_boatAt_27 rfl hl (by decide) rfl (fun ls hl => ?_)
          refine lv_iinc (v := nI (k + 1)) (lv' := [(3, Value.int (nI (k + 1))), (2, Value.int (fI (baM at_ g k))), (0, Value.ref (a 0)), (1, Value.int g)]) hx hb dX6_boatAt_28 hl (k := 1) rfl (nI_add k 1) (by decide) rfl (fun ls hl => ?_)
          refine lv_goto (tgt := 4) hx hb dX6_boatAt_31 (by decide) ?_
          have eq1_0 : fI (baM at_ g k) = fI (baM at_ g (k + 1)) := by
            first
            | with_reducible rfl
            | (rw [baM, if_pos (Decidable.not_not.mp c19)]; rfl)
            | (rw [baM, if_neg c19])
            | (rw [baM, if_pos c19]; rfl)
          have hl := lv_sub hl [0, 1, 2, 3] rfl
          have hl : lv_has ls 4 [(3, Value.int (nI (k + 1))), (2, Value.int (fI (baM at_ g k))), (0, Value.ref (a 0)), (1, Value.int g)] := hl
          have hl : lv_has ls 4 [(3, Value.int (nI (k + 1))), (2, Value.int (fI (baM at_ g (k + 1)))), (0, Value.ref (a 0)), (1, Value.int g)] := lv_as hl (congrArg (fun z => [(3, Value.int (nI (k + 1))), (2, Value.int z), (0, Value.ref (a 0)), (1, Value.int g)]) eq1_0)
          exact ih4 (k + 1) (by omega) (by omega) _ _ _ hP hD hS hl
        · refine lv_iload_n hx hb dX6_boatAt_22 rfl (lv_at hl 0 rfl) ?_
          refine lv_goto (tgt := 27) hx hb dX6_boatAt_23 (by decide) ?_
          refine lv_istore_n (lv' := [(2, Value.int (nI k)), (3, Value.int (nI k)), (0, Value.ref (a 0)), (1, Value.int g)]) hx hb dX6_boatAt_27 rfl hl (by decide) rfl (fun ls hl => ?_)
          refine lv_iinc (v := nI (k + 1)) (lv' := [(3, Value.int (nI (k + 1))), (2, Value.int (nI k)), (0, Value.ref (a 0)), (1, Value.int g)]) hx hb dX6_boatAt_28 hl (k := 1) rfl (nI_add k 1) (by decide) rfl (fun ls hl => ?_)
          refine lv_goto (tgt := 4) hx hb dX6_boatAt_31 (by decide) ?_
          have eq2_0 : nI k = fI (baM at_ g (k + 1)) := by
            first
            | with_reducible rfl
            | (rw [baM, if_pos (Decidable.not_not.mp c19)]; rfl)
            | (rw [baM, if_neg c19])
            | (rw [baM, if_pos c19]; rfl)
          have hl := lv_sub hl [0, 1, 2, 3] rfl
          have hl : lv_has ls 4 [(3, Value.int (nI (k + 1))), (2, Value.int (nI k)), (0, Value.ref (a 0)), (1, Value.int g)] := hl
          have hl : lv_has ls 4 [(3, Value.int (nI (k + 1))), (2, Value.int (fI (baM at_ g (k + 1)))), (0, Value.ref (a 0)), (1, Value.int g)] := lv_as hl (congrArg (fun z => [(3, Value.int (nI (k + 1))), (2, Value.int z), (0, Value.ref (a 0)), (1, Value.int g)]) eq2_0)
          exact ih4 (k + 1) (by omega) (by omega) _ _ _ hP hD hS hl
  have eq3_0 : (0 : Int32) = nI 0 := by
    rfl
  have eq4_1 : (-1 : Int32) = fI (baM at_ g 0) := by
    rfl
  have hl := lv_sub hl [0, 1, 2, 3] rfl
  have hl : lv_has ls 4 [(3, Value.int (0 : Int32)), (2, Value.int (-1 : Int32)), (0, Value.ref (a 0)), (1, Value.int g)] := hl
  have hl : lv_has ls 4 [(3, Value.int (nI 0)), (2, Value.int (-1 : Int32)), (0, Value.ref (a 0)), (1, Value.int g)] := lv_as hl (congrArg (fun z => [(3, Value.int z), (2, Value.int (-1 : Int32)), (0, Value.ref (a 0)), (1, Value.int g)]) eq3_0)
  have hl : lv_has ls 4 [(3, Value.int (nI 0)), (2, Value.int (fI (baM at_ g 0))), (0, Value.ref (a 0)), (1, Value.int g)] := lv_as hl (congrArg (fun z => [(3, Value.int (nI 0)), (2, Value.int z), (0, Value.ref (a 0)), (1, Value.int g)]) eq4_1)
  exact LP4 (no - 0 + 1) 0 (by omega) (Nat.lt_succ_self _) _ _ _ hP hD hS hl
set_option maxHeartbeats 800000 in
set_option maxRecDepth 100000 in
theorem c_X6_isShut (l : Launch) (D : va_G) (y : Nat → ClassId) (a : Nat → Nat) (mth : Int32) (t : Nat) (tb tf ts cap clr mov hom : Int32) (wm : Int64) (nw : Nat) (wf wt : Nat → Int32) (nb : Nat) (fr bw bl : Nat → Int32) (no : Nat) (od ow ol ork olf oco at_ aw : Nat → Int32) (mp : Int32) (mpl msh msl mwa mse : Nat → Int32) (b : Nat) (bu : Int32) (hb9 : b < nb) (hb6 : nb ≤ 6) (hb8 : no ≤ 8) (hfr : ∀ k, k < nb → fr k = -1 ∨ ∃ j, j < k ∧ fr k = nI j) : zP l D y yX6_isShut cX6_isShut 5 (some .boolean) 1 0 0 23 [Value.ref (a 0), Value.int (nI b), Value.int bu] (wM a y mth (nI t) tb tf ts cap clr mov hom wm (nI nw) wf wt (nI nb) fr bw bl (nI no) od ow ol ork olf oco at_ aw mp mpl msh msl mwa mse) (fun o9 w9 => o9 = some (Value.int (bI (shM at_ fr no b bu))) ∧ w9 = wM a y mth (nI t) tb tf ts cap clr mov hom wm (nI nw) wf wt (nI nb) fr bw bl (nI no) od ow ol ork olf oco at_ aw mp mpl msh msl mwa mse) := by
  refine zP.of (by decide +kernel) (Nat.le_of_ble_eq_true rfl) ?_
  intro p e s m args below meth c A ls hx hb hr hta hown hlocks hml hin hN hK hP hD hS hA hl
  refine z_gen (fun G hG => ?_)
  have hl : lv_has ls 5 [(0, Value.ref (a 0)), (1, Value.int (nI b)), (2, Value.int bu)] := hl
  refine lv_iconst (v := (0 : Int32)) hx hb dX6_isShut_0 (by decide) ?_
  refine lv_istore_n (lv' := [(3, Value.int (0 : Int32)), (0, Value.ref (a 0)), (1, Value.int (nI b)), (2, Value.int bu)]) hx hb dX6_isShut_1 rfl hl (by decide) rfl (fun ls hl => ?_)
  refine lv_aload_n hx hb dX6_isShut_2 rfl (lv_at hl 1 rfl) ?_
  refine gM6_front hx hb hta hown hK hP wd_4_21 dX6_isShut_3 ?_
  refine lv_iload_n hx hb dX6_isShut_6 rfl (lv_at hl 2 rfl) ?_
  refine aM_fr hx hb hK hP b rfl (by omega) dX6_isShut_7 ?_
  refine lv_istore (lv' := [(4, Value.int (fr b)), (3, Value.int (0 : Int32)), (0, Value.ref (a 0)), (1, Value.int (nI b)), (2, Value.int bu)]) hx hb dX6_isShut_8 hl (by decide) rfl (fun ls hl => ?_)
  have LP10 : ∀ (n : Nat) (is : Bool) (f : Nat) (kk : Int32), (kk = -1 ∨ ∃ c, c < f ∧ c < nb ∧ kk = nI c) → ((is || shG (shQ at_ no bu) fr f kk) = shM at_ fr no b bu) → f < n → ∀ (H : Heap) (locs : List Loc) (ls : Array Slot), va_P D vwCl (wM a y mth (nI t) tb tf ts cap clr mov hom wm (nI nw) wf wt (nI nb) fr bw bl (nI no) od ow ol ork olf oco at_ aw mp mpl msh msl mwa mse) H → va_D A (wM a y mth (nI t) tb tf ts cap clr mov hom wm (nI nw) wf wt (nI nb) fr bw bl (nI no) od ow ol ork olf oco at_ aw mp mpl msh msl mwa mse) → va_S A s.heap H locs → lv_has ls 5 [(4, Value.int kk), (3, Value.int (bI is)), (0, Value.ref (a 0)), (1, Value.int (nI b)), (2, Value.int bu)] → W p l e ({ frames := 1, cells := 0, slots := 0, locals := 23 } : Room) s m args below meth c H locs 0 0 G (F0 m 10 ls []) := by
    intro n
    induction n with
    | zero => intro is f kk hkk hes hn; exact absurd hn (Nat.not_lt_zero _)
    | succ n ih10 =>
      intro is f kk hkk hes hn H locs ls hP hD hS hl
      refine lv_iload hx hb dX6_isShut_10 (lv_at hl 0 rfl) ?_
      refine lv_iconst (v := (-1 : Int32)) hx hb dX6_isShut_12 (by decide) ?_
      refine lv_icmp_eq (tgt := 58) hx hb dX6_isShut_13 (by decide) (fun c13 => ?_) (fun c13 => ?_)
      · refine lv_iload_n hx hb dX6_isShut_58 rfl (lv_at hl 1 rfl) ?_
        refine z_zret hG hx hb hr hlocks hP hD hS (Nat.le_of_ble_eq_true rfl) (Nat.le_of_ble_eq_true rfl) dX6_isShut_59 ?_ ?_
        · exact bI_nar _
        · refine zqi ?_
          rw [← hes, c13, shG_end, Bool.or_false]
      · rcases hkk with hkk | ⟨c9, hc9, hc6, ek⟩
        · exact absurd hkk c13
        obtain ⟨f9, rfl⟩ : ∃ f9, f = f9 + 1 := ⟨f - 1, by omega⟩
        have e9 : nN (nI c9) = c9 := nI_clamp (by omega)
        have hfc := hfr c9 hc6
        refine lv_iload_n hx hb dX6_isShut_16 rfl (lv_at hl 1 rfl) ?_
        refine lv_if_ne (tgt := 40) hx hb dX6_isShut_17 (by decide) (fun c17 => ?_) (fun c17 => ?_)
        · have c17 := bI_1 c17
          refine lv_iconst (v := (1 : Int32)) hx hb dX6_isShut_40 (by decide) ?_
          refine lv_goto (tgt := 45) hx hb dX6_isShut_41 (by decide) ?_
          refine lv_istore_n (lv' := [(3, Value.int (1 : Int32)), (4, Value.int kk), (0, Value.ref (a 0)), (1, Value.int (nI b)), (2, Value.int bu)]) hx hb dX6_isShut_45 rfl hl (by decide) rfl (fun ls hl => ?_)
          refine lv_aload_n hx hb dX6_isShut_46 rfl (lv_at hl 2 rfl) ?_
          refine gM6_front hx hb hta hown hK hP wd_4_21 dX6_isShut_47 ?_
          refine lv_iload hx hb dX6_isShut_50 (lv_at hl 1 rfl) ?_
          refine aM_fr hx hb hK hP c9 ek (by omega) dX6_isShut_52 ?_
          refine lv_istore (lv' := [(4, Value.int (fr c9)), (3, Value.int (1 : Int32)), (0, Value.ref (a 0)), (1, Value.int (nI b)), (2, Value.int bu)]) hx hb dX6_isShut_53 hl (by decide) rfl (fun ls hl => ?_)
          refine lv_goto (tgt := 10) hx hb dX6_isShut_55 (by decide) ?_
          have eq1_0 : (1 : Int32) = bI (is || shQ at_ no bu kk) := by
            first
            | with_reducible rfl
            | exact bI_t (by rw [c17]; rfl)
            | exact bI_t (by rw [shQ, decide_eq_false c27, decide_eq_false c37]; simp)
            | exact bI_f (by rw [c17, shQ, decide_eq_true c27]; rfl)
            | exact bI_f (by rw [c17, shQ, decide_eq_true c37]; simp)
          have hl := lv_sub hl [0, 1, 2, 3, 4] rfl
          have hl : lv_has ls 5 [(4, Value.int (fr c9)), (3, Value.int (1 : Int32)), (0, Value.ref (a 0)), (1, Value.int (nI b)), (2, Value.int bu)] := hl
          have hl : lv_has ls 5 [(4, Value.int (fr c9)), (3, Value.int (bI (is || shQ at_ no bu kk))), (0, Value.ref (a 0)), (1, Value.int (nI b)), (2, Value.int bu)] := lv_as hl (congrArg (fun z => [(4, Value.int (fr c9)), (3, Value.int z), (0, Value.ref (a 0)), (1, Value.int (nI b)), (2, Value.int bu)]) eq1_0)
          have hv2_hkk : (fr c9) = -1 ∨ ∃ c, c < f9 ∧ c < nb ∧ (fr c9) = nI c := by
            rcases hfc with q | ⟨j, q1, q2⟩
            · exact Or.inl q
            · exact Or.inr ⟨j, by omega, by omega, q2⟩
          have hv3_hes : ((is || shQ at_ no bu kk) || shG (shQ at_ no bu) fr f9 (fr c9)) = shM at_ fr no b bu := by
            rw [← hes, shG, if_neg c13, ek, e9, Bool.or_assoc]
          exact ih10 (is || shQ at_ no bu kk) f9 (fr c9) hv2_hkk hv3_hes (by omega) _ _ _ hP hD hS hl
        · have c17 := bI_0 c17
          refine lv_aload_n hx hb dX6_isShut_20 rfl (lv_at hl 2 rfl) ?_
          refine lv_iload hx hb dX6_isShut_21 (lv_at hl 0 rfl) ?_
          refine z_callV (As := [Value.int kk]) (rest := []) hx hb hml hown hta zm_X6_boatAt wd_18_0 (c_X6_boatAt l D y a mth t tb tf ts cap clr mov hom wm nw wf wt nb fr bw bl no od ow ol ork olf oco at_ aw mp mpl msh msl mwa mse kk (by omega)) hN hK hP hD hS hA 0 rfl rfl rfl hl rfl (Nat.le_of_ble_eq_true rfl) ⟨Nat.le_of_ble_eq_true rfl, Nat.le_of_ble_eq_true rfl⟩ ⟨Nat.le_of_ble_eq_true rfl, Nat.le_of_ble_eq_true rfl⟩ dX6_isShut_23 (fun v w' H locs hq hP hD hS => ?_)
          obtain ⟨rfl, rfl⟩ := hq
          refine lv_iconst (v := (-1 : Int32)) hx hb dX6_isShut_26 (by decide) ?_
          refine lv_icmp_eq (tgt := 44) hx hb dX6_isShut_27 (by decide) (fun c27 => ?_) (fun c27 => ?_)
          · refine lv_iconst (v := (0 : Int32)) hx hb dX6_isShut_44 (by decide) ?_
            refine lv_istore_n (lv' := [(3, Value.int (0 : Int32)), (4, Value.int kk), (0, Value.ref (a 0)), (1, Value.int (nI b)), (2, Value.int bu)]) hx hb dX6_isShut_45 rfl hl (by decide) rfl (fun ls hl => ?_)
            refine lv_aload_n hx hb dX6_isShut_46 rfl (lv_at hl 2 rfl) ?_
            refine gM6_front hx hb hta hown hK hP wd_4_21 dX6_isShut_47 ?_
            refine lv_iload hx hb dX6_isShut_50 (lv_at hl 1 rfl) ?_
            refine aM_fr hx hb hK hP c9 ek (by omega) dX6_isShut_52 ?_
            refine lv_istore (lv' := [(4, Value.int (fr c9)), (3, Value.int (0 : Int32)), (0, Value.ref (a 0)), (1, Value.int (nI b)), (2, Value.int bu)]) hx hb dX6_isShut_53 hl (by decide) rfl (fun ls hl => ?_)
            refine lv_goto (tgt := 10) hx hb dX6_isShut_55 (by decide) ?_
            have eq5_0 : (0 : Int32) = bI (is || shQ at_ no bu kk) := by
              first
              | with_reducible rfl
              | exact bI_t (by rw [c17]; rfl)
              | exact bI_t (by rw [shQ, decide_eq_false c27, decide_eq_false c37]; simp)
              | exact bI_f (by rw [c17, shQ, decide_eq_true c27]; rfl)
              | exact bI_f (by rw [c17, shQ, decide_eq_true c37]; simp)
            have hl := lv_sub hl [0, 1, 2, 3, 4] rfl
            have hl : lv_has ls 5 [(4, Value.int (fr c9)), (3, Value.int (0 : Int32)), (0, Value.ref (a 0)), (1, Value.int (nI b)), (2, Value.int bu)] := hl
            have hl : lv_has ls 5 [(4, Value.int (fr c9)), (3, Value.int (bI (is || shQ at_ no bu kk))), (0, Value.ref (a 0)), (1, Value.int (nI b)), (2, Value.int bu)] := lv_as hl (congrArg (fun z => [(4, Value.int (fr c9)), (3, Value.int z), (0, Value.ref (a 0)), (1, Value.int (nI b)), (2, Value.int bu)]) eq5_0)
            have hv6_hkk : (fr c9) = -1 ∨ ∃ c, c < f9 ∧ c < nb ∧ (fr c9) = nI c := by
              rcases hfc with q | ⟨j, q1, q2⟩
              · exact Or.inl q
              · exact Or.inr ⟨j, by omega, by omega, q2⟩
            have hv7_hes : ((is || shQ at_ no bu kk) || shG (shQ at_ no bu) fr f9 (fr c9)) = shM at_ fr no b bu := by
              rw [← hes, shG, if_neg c13, ek, e9, Bool.or_assoc]
            exact ih10 (is || shQ at_ no bu kk) f9 (fr c9) hv6_hkk hv7_hes (by omega) _ _ _ hP hD hS hl
          · refine lv_aload_n hx hb dX6_isShut_30 rfl (lv_at hl 2 rfl) ?_
            refine lv_iload hx hb dX6_isShut_31 (lv_at hl 0 rfl) ?_
            refine z_callV (As := [Value.int kk]) (rest := []) hx hb hml hown hta zm_X6_boatAt wd_18_0 (c_X6_boatAt l D y a mth t tb tf ts cap clr mov hom wm nw wf wt nb fr bw bl no od ow ol ork olf oco at_ aw mp mpl msh msl mwa mse kk (by omega)) hN hK hP hD hS hA 0 rfl rfl rfl hl rfl (Nat.le_of_ble_eq_true rfl) ⟨Nat.le_of_ble_eq_true rfl, Nat.le_of_ble_eq_true rfl⟩ ⟨Nat.le_of_ble_eq_true rfl, Nat.le_of_ble_eq_true rfl⟩ dX6_isShut_33 (fun v w' H locs hq hP hD hS => ?_)
            obtain ⟨rfl, rfl⟩ := hq
            refine lv_iload_n hx hb dX6_isShut_36 rfl (lv_at hl 4 rfl) ?_
            refine lv_icmp_eq (tgt := 44) hx hb dX6_isShut_37 (by decide) (fun c37 => ?_) (fun c37 => ?_)
            · refine lv_iconst (v := (0 : Int32)) hx hb dX6_isShut_44 (by decide) ?_
              refine lv_istore_n (lv' := [(3, Value.int (0 : Int32)), (4, Value.int kk), (0, Value.ref (a 0)), (1, Value.int (nI b)), (2, Value.int bu)]) hx hb dX6_isShut_45 rfl hl (by decide) rfl (fun ls hl => ?_)
              refine lv_aload_n hx hb dX6_isShut_46 rfl (lv_at hl 2 rfl) ?_
              refine gM6_front hx hb hta hown hK hP wd_4_21 dX6_isShut_47 ?_
              refine lv_iload hx hb dX6_isShut_50 (lv_at hl 1 rfl) ?_
              refine aM_fr hx hb hK hP c9 ek (by omega) dX6_isShut_52 ?_
              refine lv_istore (lv' := [(4, Value.int (fr c9)), (3, Value.int (0 : Int32)), (0, Value.ref (a 0)), (1, Value.int (nI b)), (2, Value.int bu)]) hx hb dX6_isShut_53 hl (by decide) rfl (fun ls hl => ?_)
              refine lv_goto (tgt := 10) hx hb dX6_isShut_55 (by decide) ?_
              have eq9_0 : (0 : Int32) = bI (is || shQ at_ no bu kk) := by
                first
                | with_reducible rfl
                | exact bI_t (by rw [c17]; rfl)
                | exact bI_t (by rw [shQ, decide_eq_false c27, decide_eq_false c37]; simp)
                | exact bI_f (by rw [c17, shQ, decide_eq_true c27]; rfl)
                | exact bI_f (by rw [c17, shQ, decide_eq_true c37]; simp)
              have hl := lv_sub hl [0, 1, 2, 3, 4] rfl
              have hl : lv_has ls 5 [(4, Value.int (fr c9)), (3, Value.int (0 : Int32)), (0, Value.ref (a 0)), (1, Value.int (nI b)), (2, Value.int bu)] := hl
              have hl : lv_has ls 5 [(4, Value.int (fr c9)), (3, Value.int (bI (is || shQ at_ no bu kk))), (0, Value.ref (a 0)), (1, Value.int (nI b)), (2, Value.int bu)] := lv_as hl (congrArg (fun z => [(4, Value.int (fr c9)), (3, Value.int z), (0, Value.ref (a 0)), (1, Value.int (nI b)), (2, Value.int bu)]) eq9_0)
              have hv10_hkk : (fr c9) = -1 ∨ ∃ c, c < f9 ∧ c < nb ∧ (fr c9) = nI c := by
                rcases hfc with q | ⟨j, q1, q2⟩
                · exact Or.inl q
                · exact Or.inr ⟨j, by omega, by omega, q2⟩
              have hv11_hes : ((is || shQ at_ no bu kk) || shG (shQ at_ no bu) fr f9 (fr c9)) = shM at_ fr no b bu := by
                rw [← hes, shG, if_neg c13, ek, e9, Bool.or_assoc]
              exact ih10 (is || shQ at_ no bu kk) f9 (fr c9) hv10_hkk hv11_hes (by omega) _ _ _ hP hD hS hl
            · refine lv_iconst (v := (1 : Int32)) hx hb dX6_isShut_40 (by decide) ?_
              refine lv_goto (tgt := 45) hx hb dX6_isShut_41 (by decide) ?_
              refine lv_istore_n (lv' := [(3, Value.int (1 : Int32)), (4, Value.int kk), (0, Value.ref (a 0)), (1, Value.int (nI b)), (2, Value.int bu)]) hx hb dX6_isShut_45 rfl hl (by decide) rfl (fun ls hl => ?_)
              refine lv_aload_n hx hb dX6_isShut_46 rfl (lv_at hl 2 rfl) ?_
              refine gM6_front hx hb hta hown hK hP wd_4_21 dX6_isShut_47 ?_
              refine lv_iload hx hb dX6_isShut_50 (lv_at hl 1 rfl) ?_
              refine aM_fr hx hb hK hP c9 ek (by omega) dX6_isShut_52 ?_
              refine lv_istore (lv' := [(4, Value.int (fr c9)), (3, Value.int (1 : Int32)), (0, Value.ref (a 0)), (1, Value.int (nI b)), (2, Value.int bu)]) hx hb dX6_isShut_53 hl (by decide) rfl (fun ls hl => ?_)
              refine lv_goto (tgt := 10) hx hb dX6_isShut_55 (by decide) ?_
              have eq12_0 : (1 : Int32) = bI (is || shQ at_ no bu kk) := by
                first
                | with_reducible rfl
                | exact bI_t (by rw [c17]; rfl)
                | exact bI_t (by rw [shQ, decide_eq_false c27, decide_eq_false c37]; simp)
                | exact bI_f (by rw [c17, shQ, decide_eq_true c27]; rfl)
                | exact bI_f (by rw [c17, shQ, decide_eq_true c37]; simp)
              have hl := lv_sub hl [0, 1, 2, 3, 4] rfl
              have hl : lv_has ls 5 [(4, Value.int (fr c9)), (3, Value.int (1 : Int32)), (0, Value.ref (a 0)), (1, Value.int (nI b)), (2, Value.int bu)] := hl
              have hl : lv_has ls 5 [(4, Value.int (fr c9)), (3, Value.int (bI (is || shQ at_ no bu kk))), (0, Value.ref (a 0)), (1, Value.int (nI b)), (2, Value.int bu)] := lv_as hl (congrArg (fun z => [(4, Value.int (fr c9)), (3, Value.int z), (0, Value.ref (a 0)), (1, Value.int (nI b)), (2, Value.int bu)]) eq12_0)
              have hv13_hkk : (fr c9) = -1 ∨ ∃ c, c < f9 ∧ c < nb ∧ (fr c9) = nI c := by
                rcases hfc with q | ⟨j, q1, q2⟩
                · exact Or.inl q
                · exact Or.inr ⟨j, by omega, by omega, q2⟩
              have hv14_hes : ((is || shQ at_ no bu kk) || shG (shQ at_ no bu) fr f9 (fr c9)) = shM at_ fr no b bu := by
                rw [← hes, shG, if_neg c13, ek, e9, Bool.or_assoc]
              exact ih10 (is || shQ at_ no bu kk) f9 (fr c9) hv13_hkk hv14_hes (by omega) _ _ _ hP hD hS hl
  have eq15_0 : (0 : Int32) = bI false := by
    rfl
  have hl := lv_sub hl [0, 1, 2, 3, 4] rfl
  have hl : lv_has ls 5 [(4, Value.int (fr b)), (3, Value.int (0 : Int32)), (0, Value.ref (a 0)), (1, Value.int (nI b)), (2, Value.int bu)] := hl
  have hl : lv_has ls 5 [(4, Value.int (fr b)), (3, Value.int (bI false)), (0, Value.ref (a 0)), (1, Value.int (nI b)), (2, Value.int bu)] := lv_as hl (congrArg (fun z => [(4, Value.int (fr b)), (3, Value.int z), (0, Value.ref (a 0)), (1, Value.int (nI b)), (2, Value.int bu)]) eq15_0)
  have hv16_hkk : (fr b) = -1 ∨ ∃ c, c < b ∧ c < nb ∧ (fr b) = nI c := by
    rcases hfr b hb9 with q | ⟨j, q1, q2⟩
    · exact Or.inl q
    · exact Or.inr ⟨j, q1, by omega, q2⟩
  have hv17_hes : (false || shG (shQ at_ no bu) fr b (fr b)) = shM at_ fr no b bu := by
    rfl
  exact LP10 (b + 1) false b (fr b) hv16_hkk hv17_hes (Nat.lt_succ_self _) _ _ _ hP hD hS hl
set_option maxHeartbeats 800000 in
set_option maxRecDepth 100000 in
theorem c_X6_byHour (l : Launch) (D : va_G) (y : Nat → ClassId) (a : Nat → Nat) (mth : Int32) (t : Nat) (tb tf ts cap clr mov hom : Int32) (wm : Int64) (nw : Nat) (wf wt : Nat → Int32) (nb : Nat) (fr bw bl : Nat → Int32) (no : Nat) (od ow ol ork olf oco at_ aw : Nat → Int32) (mp : Int32) (mpl msh msl mwa mse : Nat → Int32)  (hw : nw ≤ 6) : zP l D y yX6_byHour cX6_byHour 1 (some .char) 1 0 0 23 [Value.ref (a 0)] (wM a y mth (nI t) tb tf ts cap clr mov hom wm (nI nw) wf wt (nI nb) fr bw bl (nI no) od ow ol ork olf oco at_ aw mp mpl msh msl mwa mse) (fun o9 w9 => o9 = some (Value.int (hbF (badF wf wt nw (nI t)) hom (nI t))) ∧ w9 = wM a y mth (nI t) tb tf ts cap clr mov hom wm (nI nw) wf wt (nI nb) fr bw bl (nI no) od ow ol ork olf oco at_ aw mp mpl msh msl mwa mse) := by
  refine zP.of (by decide +kernel) (Nat.le_of_ble_eq_true rfl) ?_
  intro p e s m args below meth c A ls hx hb hr hta hown hlocks hml hin hN hK hP hD hS hA hl
  refine z_gen (fun G hG => ?_)
  have hl : lv_has ls 1 [(0, Value.ref (a 0))] := hl
  refine lv_aload_n hx hb dX6_byHour_0 rfl (lv_at hl 0 rfl) ?_
  refine lv_aload_n hx hb dX6_byHour_1 rfl (lv_at hl 0 rfl) ?_
  refine gM6_time hx hb hta hown hK hP wd_9_12 dX6_byHour_2 ?_
  refine z_callV (As := [Value.int (nI t)]) (rest := []) hx hb hml hown hta zm_X6_badAt wd_12_18 (c_X6_badAt l D y a mth t tb tf ts cap clr mov hom wm nw wf wt nb fr bw bl no od ow ol ork olf oco at_ aw mp mpl msh msl mwa mse (nI t) (by omega)) hN hK hP hD hS hA 0 rfl rfl rfl hl rfl (Nat.le_of_ble_eq_true rfl) ⟨Nat.le_of_ble_eq_true rfl, Nat.le_of_ble_eq_true rfl⟩ ⟨Nat.le_of_ble_eq_true rfl, Nat.le_of_ble_eq_true rfl⟩ dX6_byHour_5 (fun v w' H locs hq hP hD hS => ?_)
  obtain ⟨rfl, rfl⟩ := hq
  refine lv_if_eq (tgt := 16) hx hb dX6_byHour_8 (by decide) (fun c8 => ?_) (fun c8 => ?_)
  · have c8 := bI_0 c8
    refine lv_aload_n hx hb dX6_byHour_16 rfl (lv_at hl 0 rfl) ?_
    refine gM6_busyHour hx hb hta hown hK hP wd_4_18 dX6_byHour_17 ?_
    refine lv_aload_n hx hb dX6_byHour_20 rfl (lv_at hl 0 rfl) ?_
    refine gM6_time hx hb hta hown hK hP wd_9_12 dX6_byHour_21 ?_
    refine lv_icmp_ne (tgt := 32) hx hb dX6_byHour_24 (by decide) (fun c24 => ?_) (fun c24 => ?_)
    · refine lv_bipush (v := (110 : Int32)) hx hb dX6_byHour_32 (by decide) ?_
      refine z_zret hG hx hb hr hlocks hP hD hS (Nat.le_of_ble_eq_true rfl) (Nat.le_of_ble_eq_true rfl) dX6_byHour_34 ?_ ?_
      · rfl
      · refine zqi ?_
        simp only [hbF, c8, c24, reduceIte, Bool.false_eq_true, not_true_eq_false, not_false_eq_true]
    · refine lv_bipush (v := (99 : Int32)) hx hb dX6_byHour_27 (by decide) ?_
      refine lv_goto (tgt := 34) hx hb dX6_byHour_29 (by decide) ?_
      refine z_zret hG hx hb hr hlocks hP hD hS (Nat.le_of_ble_eq_true rfl) (Nat.le_of_ble_eq_true rfl) dX6_byHour_34 ?_ ?_
      · rfl
      · refine zqi ?_
        simp only [hbF, c8, c24, reduceIte, Bool.false_eq_true, not_true_eq_false, not_false_eq_true]
  · have c8 := bI_1 c8
    refine lv_bipush (v := (98 : Int32)) hx hb dX6_byHour_11 (by decide) ?_
    refine lv_goto (tgt := 34) hx hb dX6_byHour_13 (by decide) ?_
    refine z_zret hG hx hb hr hlocks hP hD hS (Nat.le_of_ble_eq_true rfl) (Nat.le_of_ble_eq_true rfl) dX6_byHour_34 ?_ ?_
    · rfl
    · refine zqi ?_
      simp only [hbF, c8, reduceIte, Bool.false_eq_true, not_true_eq_false, not_false_eq_true]
set_option maxHeartbeats 800000 in
set_option maxRecDepth 100000 in
theorem c_X6_liftNow (l : Launch) (D : va_G) (y : Nat → ClassId) (a : Nat → Nat) (mth : Int32) (t : Nat) (tb tf ts cap clr mov hom : Int32) (wm : Int64) (nw : Nat) (wf wt : Nat → Int32) (nb : Nat) (fr bw bl : Nat → Int32) (no : Nat) (od ow ol ork olf oco at_ aw : Nat → Int32) (mp : Int32) (mpl msh msl mwa mse : Nat → Int32) (j : Nat) (k : Nat) (hj8 : j < no) (hk6 : k < nb) (hb8 : no ≤ 8) (hb6 : nb ≤ 6) (hw : nw ≤ 6) (hfr : ∀ k, k < nb → fr k = -1 ∨ ∃ j, j < k ∧ fr k = nI j) : zP l D y yX6_liftNow cX6_liftNow 3 (some .char) 3 0 0 63 [Value.ref (a 0), Value.int (nI j), Value.int (nI k)] (wM a y mth (nI t) tb tf ts cap clr mov hom wm (nI nw) wf wt (nI nb) fr bw bl (nI no) od ow ol ork olf oco at_ aw mp mpl msh msl mwa mse) (fun o9 w9 => o9 = some (Value.int (liM cap clr tb tf ts hom (nI t) (badF wf wt nw (nI t)) aw at_ fr od ow ol bw bl no j k)) ∧ w9 = wM a y mth (nI t) tb tf ts cap clr mov hom wm (nI nw) wf wt (nI nb) fr bw bl (nI no) od ow ol ork olf oco at_ aw mp mpl msh msl mwa mse) := by
  refine zP.of (by decide +kernel) (Nat.le_of_ble_eq_true rfl) ?_
  intro p e s m args below meth c A ls hx hb hr hta hown hlocks hml hin hN hK hP hD hS hA hl
  refine z_gen (fun G hG => ?_)
  have hl : lv_has ls 3 [(0, Value.ref (a 0)), (1, Value.int (nI j)), (2, Value.int (nI k))] := hl
  refine lv_aload_n hx hb dX6_liftNow_0 rfl (lv_at hl 0 rfl) ?_
  refine gM6_isAway hx hb hta hown hK hP wd_5_8 dX6_liftNow_1 ?_
  refine lv_iload_n hx hb dX6_liftNow_4 rfl (lv_at hl 1 rfl) ?_
  refine aM_aw hx hb hK hP j rfl (by omega) dX6_liftNow_5 ?_
  refine lv_if_ne (tgt := 19) hx hb dX6_liftNow_6 (by decide) (fun c6 => ?_) (fun c6 => ?_)
  · refine lv_bipush (v := (97 : Int32)) hx hb dX6_liftNow_19 (by decide) ?_
    refine z_zret hG hx hb hr hlocks hP hD hS (Nat.le_of_ble_eq_true rfl) (Nat.le_of_ble_eq_true rfl) dX6_liftNow_21 ?_ ?_
    · rfl
    · refine zqi ?_
      simp [liM, goL, ldF, c6]
  · refine lv_aload_n hx hb dX6_liftNow_9 rfl (lv_at hl 0 rfl) ?_
    refine gM6_at hx hb hta hown hK hP wd_5_6 dX6_liftNow_10 ?_
    refine lv_iload_n hx hb dX6_liftNow_13 rfl (lv_at hl 1 rfl) ?_
    refine aM_at_ hx hb hK hP j rfl (by omega) dX6_liftNow_14 ?_
    refine lv_iconst (v := (-1 : Int32)) hx hb dX6_liftNow_15 (by decide) ?_
    refine lv_icmp_eq (tgt := 22) hx hb dX6_liftNow_16 (by decide) (fun c16 => ?_) (fun c16 => ?_)
    · refine lv_aload_n hx hb dX6_liftNow_22 rfl (lv_at hl 0 rfl) ?_
      refine lv_iload_n hx hb dX6_liftNow_23 rfl (lv_at hl 2 rfl) ?_
      refine z_callV (As := [Value.int (nI k)]) (rest := []) hx hb hml hown hta zm_X6_boatAt wd_18_0 (c_X6_boatAt l D y a mth t tb tf ts cap clr mov hom wm nw wf wt nb fr bw bl no od ow ol ork olf oco at_ aw mp mpl msh msl mwa mse (nI k) (by omega)) hN hK hP hD hS hA 0 rfl rfl rfl hl rfl (Nat.le_of_ble_eq_true rfl) ⟨Nat.le_of_ble_eq_true rfl, Nat.le_of_ble_eq_true rfl⟩ ⟨Nat.le_of_ble_eq_true rfl, Nat.le_of_ble_eq_true rfl⟩ dX6_liftNow_24 (fun v w' H locs hq hP hD hS => ?_)
      obtain ⟨rfl, rfl⟩ := hq
      refine lv_iconst (v := (-1 : Int32)) hx hb dX6_liftNow_27 (by decide) ?_
      refine lv_icmp_eq (tgt := 34) hx hb dX6_liftNow_28 (by decide) (fun c28 => ?_) (fun c28 => ?_)
      · refine lv_aload_n hx hb dX6_liftNow_34 rfl (lv_at hl 0 rfl) ?_
        refine lv_iload_n hx hb dX6_liftNow_35 rfl (lv_at hl 2 rfl) ?_
        refine lv_iconst (v := (-1 : Int32)) hx hb dX6_liftNow_36 (by decide) ?_
        refine z_callV (As := [Value.int (nI k), Value.int (-1 : Int32)]) (rest := []) hx hb hml hown hta zm_X6_isShut wd_18_4 (c_X6_isShut l D y a mth t tb tf ts cap clr mov hom wm nw wf wt nb fr bw bl no od ow ol ork olf oco at_ aw mp mpl msh msl mwa mse k (-1 : Int32) (by omega) (by omega) (by omega) (by omega)) hN hK hP hD hS hA 0 rfl rfl rfl hl rfl (Nat.le_of_ble_eq_true rfl) ⟨Nat.le_of_ble_eq_true rfl, Nat.le_of_ble_eq_true rfl⟩ ⟨Nat.le_of_ble_eq_true rfl, Nat.le_of_ble_eq_true rfl⟩ dX6_liftNow_37 (fun v w' H locs hq hP hD hS => ?_)
        obtain ⟨rfl, rfl⟩ := hq
        refine lv_if_eq (tgt := 46) hx hb dX6_liftNow_40 (by decide) (fun c40 => ?_) (fun c40 => ?_)
        · have c40 := bI_0 c40
          refine lv_aload_n hx hb dX6_liftNow_46 rfl (lv_at hl 0 rfl) ?_
          refine gM6_weight hx hb hta hown hK hP wd_5_1 dX6_liftNow_47 ?_
          refine lv_iload_n hx hb dX6_liftNow_50 rfl (lv_at hl 1 rfl) ?_
          refine aM_ow hx hb hK hP j rfl (by omega) dX6_liftNow_51 ?_
          refine lv_aload_n hx hb dX6_liftNow_52 rfl (lv_at hl 0 rfl) ?_
          refine gM6_capacity hx hb hta hown hK hP wd_4_16 dX6_liftNow_53 ?_
          refine lv_icmp_gt (tgt := 74) hx hb dX6_liftNow_56 (by decide) (fun c56 => ?_) (fun c56 => ?_)
          · refine lv_bipush (v := (119 : Int32)) hx hb dX6_liftNow_74 (by decide) ?_
            refine z_zret hG hx hb hr hlocks hP hD hS (Nat.le_of_ble_eq_true rfl) (Nat.le_of_ble_eq_true rfl) dX6_liftNow_76 ?_ ?_
            · rfl
            · refine zqi ?_
              simp [liM, goL, ldF, c6, c16, c28, c40, c56]
          · refine lv_aload_n hx hb dX6_liftNow_59 rfl (lv_at hl 0 rfl) ?_
            refine gM6_weight hx hb hta hown hK hP wd_5_1 dX6_liftNow_60 ?_
            refine lv_iload_n hx hb dX6_liftNow_63 rfl (lv_at hl 1 rfl) ?_
            refine aM_ow hx hb hK hP j rfl (by omega) dX6_liftNow_64 ?_
            refine lv_aload_n hx hb dX6_liftNow_65 rfl (lv_at hl 0 rfl) ?_
            refine gM6_berthWeight hx hb hta hown hK hP wd_4_22 dX6_liftNow_66 ?_
            refine lv_iload_n hx hb dX6_liftNow_69 rfl (lv_at hl 2 rfl) ?_
            refine aM_bw hx hb hK hP k rfl (by omega) dX6_liftNow_70 ?_
            refine lv_icmp_le (tgt := 77) hx hb dX6_liftNow_71 (by decide) (fun c71 => ?_) (fun c71 => ?_)
            · refine lv_aload_n hx hb dX6_liftNow_77 rfl (lv_at hl 0 rfl) ?_
              refine gM6_length hx hb hta hown hK hP wd_5_2 dX6_liftNow_78 ?_
              refine lv_iload_n hx hb dX6_liftNow_81 rfl (lv_at hl 1 rfl) ?_
              refine aM_ol hx hb hK hP j rfl (by omega) dX6_liftNow_82 ?_
              refine lv_aload_n hx hb dX6_liftNow_83 rfl (lv_at hl 0 rfl) ?_
              refine gM6_berthLength hx hb hta hown hK hP wd_4_23 dX6_liftNow_84 ?_
              refine lv_iload_n hx hb dX6_liftNow_87 rfl (lv_at hl 2 rfl) ?_
              refine aM_bl hx hb hK hP k rfl (by omega) dX6_liftNow_88 ?_
              refine lv_icmp_le (tgt := 95) hx hb dX6_liftNow_89 (by decide) (fun c89 => ?_) (fun c89 => ?_)
              · refine lv_aload_n hx hb dX6_liftNow_95 rfl (lv_at hl 0 rfl) ?_
                refine lv_iload_n hx hb dX6_liftNow_96 rfl (lv_at hl 1 rfl) ?_
                refine lv_aload_n hx hb dX6_liftNow_97 rfl (lv_at hl 0 rfl) ?_
                refine gM6_time hx hb hta hown hK hP wd_9_12 dX6_liftNow_98 ?_
                refine z_callV (As := [Value.int (nI j), Value.int (nI t)]) (rest := []) hx hb hml hown hta zm_X6_floats wd_14_14 (c_X6_floats l D y a mth t tb tf ts cap clr mov hom wm nw wf wt nb fr bw bl no od ow ol ork olf oco at_ aw mp mpl msh msl mwa mse j (nI t) (by omega)) hN hK hP hD hS hA 0 rfl rfl rfl hl rfl (Nat.le_of_ble_eq_true rfl) ⟨Nat.le_of_ble_eq_true rfl, Nat.le_of_ble_eq_true rfl⟩ ⟨Nat.le_of_ble_eq_true rfl, Nat.le_of_ble_eq_true rfl⟩ dX6_liftNow_101 (fun v w' H locs hq hP hD hS => ?_)
                obtain ⟨rfl, rfl⟩ := hq
                refine lv_if_eq (tgt := 114) hx hb dX6_liftNow_104 (by decide) (fun c104 => ?_) (fun c104 => ?_)
                · have c104 := bI_0 c104
                  refine lv_bipush (v := (116 : Int32)) hx hb dX6_liftNow_114 (by decide) ?_
                  refine z_zret hG hx hb hr hlocks hP hD hS (Nat.le_of_ble_eq_true rfl) (Nat.le_of_ble_eq_true rfl) dX6_liftNow_116 ?_ ?_
                  · rfl
                  · refine zqi ?_
                    simp [liM, goL, ldF, c6, c16, c28, c40, c56, c71, c89, c104]
                · have c104 := bI_1 c104
                  refine lv_aload_n hx hb dX6_liftNow_107 rfl (lv_at hl 0 rfl) ?_
                  refine z_callV (As := []) (rest := []) hx hb hml hown hta zm_X6_byHour wd_18_8 (c_X6_byHour l D y a mth t tb tf ts cap clr mov hom wm nw wf wt nb fr bw bl no od ow ol ork olf oco at_ aw mp mpl msh msl mwa mse (by omega)) hN hK hP hD hS hA 0 rfl rfl rfl hl rfl (Nat.le_of_ble_eq_true rfl) ⟨Nat.le_of_ble_eq_true rfl, Nat.le_of_ble_eq_true rfl⟩ ⟨Nat.le_of_ble_eq_true rfl, Nat.le_of_ble_eq_true rfl⟩ dX6_liftNow_108 (fun v w' H locs hq hP hD hS => ?_)
                  obtain ⟨rfl, rfl⟩ := hq
                  refine lv_goto (tgt := 116) hx hb dX6_liftNow_111 (by decide) ?_
                  refine z_zret hG hx hb hr hlocks hP hD hS (Nat.le_of_ble_eq_true rfl) (Nat.le_of_ble_eq_true rfl) dX6_liftNow_116 ?_ ?_
                  · exact hb_ch ..
                  · refine zqi ?_
                    simp [liM, goL, ldF, c6, c16, c28, c40, c56, c71, c89, c104]
              · refine lv_bipush (v := (108 : Int32)) hx hb dX6_liftNow_92 (by decide) ?_
                refine z_zret hG hx hb hr hlocks hP hD hS (Nat.le_of_ble_eq_true rfl) (Nat.le_of_ble_eq_true rfl) dX6_liftNow_94 ?_ ?_
                · rfl
                · refine zqi ?_
                  simp [liM, goL, ldF, c6, c16, c28, c40, c56, c71, c89]
            · refine lv_bipush (v := (119 : Int32)) hx hb dX6_liftNow_74 (by decide) ?_
              refine z_zret hG hx hb hr hlocks hP hD hS (Nat.le_of_ble_eq_true rfl) (Nat.le_of_ble_eq_true rfl) dX6_liftNow_76 ?_ ?_
              · rfl
              · refine zqi ?_
                simp [liM, goL, ldF, c6, c16, c28, c40, c56, c71]
        · have c40 := bI_1 c40
          refine lv_bipush (v := (102 : Int32)) hx hb dX6_liftNow_43 (by decide) ?_
          refine z_zret hG hx hb hr hlocks hP hD hS (Nat.le_of_ble_eq_true rfl) (Nat.le_of_ble_eq_true rfl) dX6_liftNow_45 ?_ ?_
          · rfl
          · refine zqi ?_
            simp [liM, goL, ldF, c6, c16, c28, c40]
      · refine lv_bipush (v := (111 : Int32)) hx hb dX6_liftNow_31 (by decide) ?_
        refine z_zret hG hx hb hr hlocks hP hD hS (Nat.le_of_ble_eq_true rfl) (Nat.le_of_ble_eq_true rfl) dX6_liftNow_33 ?_ ?_
        · rfl
        · refine zqi ?_
          simp [liM, goL, ldF, c6, c16, c28]
    · refine lv_bipush (v := (97 : Int32)) hx hb dX6_liftNow_19 (by decide) ?_
      refine z_zret hG hx hb hr hlocks hP hD hS (Nat.le_of_ble_eq_true rfl) (Nat.le_of_ble_eq_true rfl) dX6_liftNow_21 ?_ ?_
      · rfl
      · refine zqi ?_
        simp [liM, goL, ldF, c6, c16]
set_option maxHeartbeats 800000 in
set_option maxRecDepth 100000 in
theorem c_X6_launchNow (l : Launch) (D : va_G) (y : Nat → ClassId) (a : Nat → Nat) (mth : Int32) (t : Nat) (tb tf ts cap clr mov hom : Int32) (wm : Int64) (nw : Nat) (wf wt : Nat → Int32) (nb : Nat) (fr bw bl : Nat → Int32) (no : Nat) (od ow ol ork olf oco at_ aw : Nat → Int32) (mp : Int32) (mpl msh msl mwa mse : Nat → Int32) (j : Nat) (hj8 : j < no) (hb8 : no ≤ 8) (hb6 : nb ≤ 6) (hw : nw ≤ 6) (hfr : ∀ k, k < nb → fr k = -1 ∨ ∃ j, j < k ∧ fr k = nI j) (hat : ∀ j, j < no → at_ j = -1 ∨ ∃ k, k < nb ∧ at_ j = nI k) : zP l D y yX6_launchNow cX6_launchNow 2 (some .char) 3 0 0 63 [Value.ref (a 0), Value.int (nI j)] (wM a y mth (nI t) tb tf ts cap clr mov hom wm (nI nw) wf wt (nI nb) fr bw bl (nI no) od ow ol ork olf oco at_ aw mp mpl msh msl mwa mse) (fun o9 w9 => o9 = some (Value.int (lnM cap clr tb tf ts hom (nI t) (badF wf wt nw (nI t)) at_ olf fr od ow no j)) ∧ w9 = wM a y mth (nI t) tb tf ts cap clr mov hom wm (nI nw) wf wt (nI nb) fr bw bl (nI no) od ow ol ork olf oco at_ aw mp mpl msh msl mwa mse) := by
  refine zP.of (by decide +kernel) (Nat.le_of_ble_eq_true rfl) ?_
  intro p e s m args below meth c A ls hx hb hr hta hown hlocks hml hin hN hK hP hD hS hA hl
  refine z_gen (fun G hG => ?_)
  have hl : lv_has ls 2 [(0, Value.ref (a 0)), (1, Value.int (nI j))] := hl
  refine lv_aload_n hx hb dX6_launchNow_0 rfl (lv_at hl 0 rfl) ?_
  refine gM6_at hx hb hta hown hK hP wd_5_6 dX6_launchNow_1 ?_
  refine lv_iload_n hx hb dX6_launchNow_4 rfl (lv_at hl 1 rfl) ?_
  refine aM_at_ hx hb hK hP j rfl (by omega) dX6_launchNow_5 ?_
  refine lv_iconst (v := (-1 : Int32)) hx hb dX6_launchNow_6 (by decide) ?_
  refine lv_icmp_ne (tgt := 13) hx hb dX6_launchNow_7 (by decide) (fun c7 => ?_) (fun c7 => ?_)
  · obtain ⟨f, hf, ef0⟩ : ∃ f, f < nb ∧ at_ j = nI f := by rcases hat j hj8 with q | q; exact absurd q c7; exact q
    have ef : nN (nI f) = f := nI_clamp (by omega)
    refine lv_aload_n hx hb dX6_launchNow_13 rfl (lv_at hl 0 rfl) ?_
    refine gM6_dry hx hb hta hown hK hP wd_5_4 dX6_launchNow_14 ?_
    refine lv_iload_n hx hb dX6_launchNow_17 rfl (lv_at hl 1 rfl) ?_
    refine aM_olf hx hb hK hP j rfl (by omega) dX6_launchNow_18 ?_
    refine lv_if_le (tgt := 25) hx hb dX6_launchNow_19 (by decide) (fun c19 => ?_) (fun c19 => ?_)
    · refine lv_aload_n hx hb dX6_launchNow_25 rfl (lv_at hl 0 rfl) ?_
      refine lv_aload_n hx hb dX6_launchNow_26 rfl (lv_at hl 0 rfl) ?_
      refine gM6_at hx hb hta hown hK hP wd_5_6 dX6_launchNow_27 ?_
      refine lv_iload_n hx hb dX6_launchNow_30 rfl (lv_at hl 1 rfl) ?_
      refine aM_at_ hx hb hK hP j rfl (by omega) dX6_launchNow_31 ?_
      refine zr_top (y := nI f) ef0 ?_
      refine lv_iconst (v := (-1 : Int32)) hx hb dX6_launchNow_32 (by decide) ?_
      refine z_callV (As := [Value.int (nI f), Value.int (-1 : Int32)]) (rest := []) hx hb hml hown hta zm_X6_isShut wd_18_4 (c_X6_isShut l D y a mth t tb tf ts cap clr mov hom wm nw wf wt nb fr bw bl no od ow ol ork olf oco at_ aw mp mpl msh msl mwa mse f (-1 : Int32) (by omega) (by omega) (by omega) (by omega)) hN hK hP hD hS hA 0 rfl rfl rfl hl rfl (Nat.le_of_ble_eq_true rfl) ⟨Nat.le_of_ble_eq_true rfl, Nat.le_of_ble_eq_true rfl⟩ ⟨Nat.le_of_ble_eq_true rfl, Nat.le_of_ble_eq_true rfl⟩ dX6_launchNow_33 (fun v w' H locs hq hP hD hS => ?_)
      obtain ⟨rfl, rfl⟩ := hq
      refine lv_if_eq (tgt := 42) hx hb dX6_launchNow_36 (by decide) (fun c36 => ?_) (fun c36 => ?_)
      · have c36 := bI_0 c36
        refine lv_aload_n hx hb dX6_launchNow_42 rfl (lv_at hl 0 rfl) ?_
        refine gM6_weight hx hb hta hown hK hP wd_5_1 dX6_launchNow_43 ?_
        refine lv_iload_n hx hb dX6_launchNow_46 rfl (lv_at hl 1 rfl) ?_
        refine aM_ow hx hb hK hP j rfl (by omega) dX6_launchNow_47 ?_
        refine lv_aload_n hx hb dX6_launchNow_48 rfl (lv_at hl 0 rfl) ?_
        refine gM6_capacity hx hb hta hown hK hP wd_4_16 dX6_launchNow_49 ?_
        refine lv_icmp_le (tgt := 58) hx hb dX6_launchNow_52 (by decide) (fun c52 => ?_) (fun c52 => ?_)
        · refine lv_aload_n hx hb dX6_launchNow_58 rfl (lv_at hl 0 rfl) ?_
          refine lv_iload_n hx hb dX6_launchNow_59 rfl (lv_at hl 1 rfl) ?_
          refine lv_aload_n hx hb dX6_launchNow_60 rfl (lv_at hl 0 rfl) ?_
          refine gM6_time hx hb hta hown hK hP wd_9_12 dX6_launchNow_61 ?_
          refine z_callV (As := [Value.int (nI j), Value.int (nI t)]) (rest := []) hx hb hml hown hta zm_X6_floats wd_14_14 (c_X6_floats l D y a mth t tb tf ts cap clr mov hom wm nw wf wt nb fr bw bl no od ow ol ork olf oco at_ aw mp mpl msh msl mwa mse j (nI t) (by omega)) hN hK hP hD hS hA 0 rfl rfl rfl hl rfl (Nat.le_of_ble_eq_true rfl) ⟨Nat.le_of_ble_eq_true rfl, Nat.le_of_ble_eq_true rfl⟩ ⟨Nat.le_of_ble_eq_true rfl, Nat.le_of_ble_eq_true rfl⟩ dX6_launchNow_64 (fun v w' H locs hq hP hD hS => ?_)
          obtain ⟨rfl, rfl⟩ := hq
          refine lv_if_eq (tgt := 77) hx hb dX6_launchNow_67 (by decide) (fun c67 => ?_) (fun c67 => ?_)
          · have c67 := bI_0 c67
            refine lv_bipush (v := (116 : Int32)) hx hb dX6_launchNow_77 (by decide) ?_
            refine z_zret hG hx hb hr hlocks hP hD hS (Nat.le_of_ble_eq_true rfl) (Nat.le_of_ble_eq_true rfl) dX6_launchNow_79 ?_ ?_
            · rfl
            · refine zqi ?_
              first
              | (rw [lnM, if_pos c7])
              | (rw [lnM, if_neg c7, ef0, ef]; simp [c7, c19, c36, c52, c67])
          · have c67 := bI_1 c67
            refine lv_aload_n hx hb dX6_launchNow_70 rfl (lv_at hl 0 rfl) ?_
            refine z_callV (As := []) (rest := []) hx hb hml hown hta zm_X6_byHour wd_18_8 (c_X6_byHour l D y a mth t tb tf ts cap clr mov hom wm nw wf wt nb fr bw bl no od ow ol ork olf oco at_ aw mp mpl msh msl mwa mse (by omega)) hN hK hP hD hS hA 0 rfl rfl rfl hl rfl (Nat.le_of_ble_eq_true rfl) ⟨Nat.le_of_ble_eq_true rfl, Nat.le_of_ble_eq_true rfl⟩ ⟨Nat.le_of_ble_eq_true rfl, Nat.le_of_ble_eq_true rfl⟩ dX6_launchNow_71 (fun v w' H locs hq hP hD hS => ?_)
            obtain ⟨rfl, rfl⟩ := hq
            refine lv_goto (tgt := 79) hx hb dX6_launchNow_74 (by decide) ?_
            refine z_zret hG hx hb hr hlocks hP hD hS (Nat.le_of_ble_eq_true rfl) (Nat.le_of_ble_eq_true rfl) dX6_launchNow_79 ?_ ?_
            · exact hb_ch ..
            · refine zqi ?_
              first
              | (rw [lnM, if_pos c7])
              | (rw [lnM, if_neg c7, ef0, ef]; simp [c7, c19, c36, c52, c67])
        · refine lv_bipush (v := (119 : Int32)) hx hb dX6_launchNow_55 (by decide) ?_
          refine z_zret hG hx hb hr hlocks hP hD hS (Nat.le_of_ble_eq_true rfl) (Nat.le_of_ble_eq_true rfl) dX6_launchNow_57 ?_ ?_
          · rfl
          · refine zqi ?_
            first
            | (rw [lnM, if_pos c7])
            | (rw [lnM, if_neg c7, ef0, ef]; simp [c7, c19, c36, c52])
      · have c36 := bI_1 c36
        refine lv_bipush (v := (102 : Int32)) hx hb dX6_launchNow_39 (by decide) ?_
        refine z_zret hG hx hb hr hlocks hP hD hS (Nat.le_of_ble_eq_true rfl) (Nat.le_of_ble_eq_true rfl) dX6_launchNow_41 ?_ ?_
        · rfl
        · refine zqi ?_
          first
          | (rw [lnM, if_pos c7])
          | (rw [lnM, if_neg c7, ef0, ef]; simp [c7, c19, c36])
    · refine lv_bipush (v := (100 : Int32)) hx hb dX6_launchNow_22 (by decide) ?_
      refine z_zret hG hx hb hr hlocks hP hD hS (Nat.le_of_ble_eq_true rfl) (Nat.le_of_ble_eq_true rfl) dX6_launchNow_24 ?_ ?_
      · rfl
      · refine zqi ?_
        first
        | (rw [lnM, if_pos c7])
        | (rw [lnM, if_neg c7, ef0, ef]; simp [c7, c19])
  · refine lv_bipush (v := (97 : Int32)) hx hb dX6_launchNow_10 (by decide) ?_
    refine z_zret hG hx hb hr hlocks hP hD hS (Nat.le_of_ble_eq_true rfl) (Nat.le_of_ble_eq_true rfl) dX6_launchNow_12 ?_ ?_
    · rfl
    · refine zqi ?_
      first
      | (rw [lnM, if_pos c7])
      | (rw [lnM, if_neg c7, ef0, ef]; simp [c7])
set_option maxHeartbeats 800000 in
set_option maxRecDepth 100000 in
theorem c_X6_shiftEver (l : Launch) (D : va_G) (y : Nat → ClassId) (a : Nat → Nat) (mth : Int32) (t : Nat) (tb tf ts cap clr mov hom : Int32) (wm : Int64) (nw : Nat) (wf wt : Nat → Int32) (nb : Nat) (fr bw bl : Nat → Int32) (no : Nat) (od ow ol ork olf oco at_ aw : Nat → Int32) (mp : Int32) (mpl msh msl mwa mse : Nat → Int32) (j : Nat) (k : Nat) (hj8 : j < no) (hk6 : k < nb) (hb8 : no ≤ 8) (hb6 : nb ≤ 6) (hfr : ∀ k, k < nb → fr k = -1 ∨ ∃ j, j < k ∧ fr k = nI j) (hat : ∀ j, j < no → at_ j = -1 ∨ ∃ k, k < nb ∧ at_ j = nI k) : zP l D y yX6_shiftEver cX6_shiftEver 3 (some .char) 2 0 0 47 [Value.ref (a 0), Value.int (nI j), Value.int (nI k)] (wM a y mth (nI t) tb tf ts cap clr mov hom wm (nI nw) wf wt (nI nb) fr bw bl (nI no) od ow ol ork olf oco at_ aw mp mpl msh msl mwa mse) (fun o9 w9 => o9 = some (Value.int (seM cap at_ olf fr ow ol bw bl no j k)) ∧ w9 = wM a y mth (nI t) tb tf ts cap clr mov hom wm (nI nw) wf wt (nI nb) fr bw bl (nI no) od ow ol ork olf oco at_ aw mp mpl msh msl mwa mse) := by
  refine zP.of (by decide +kernel) (Nat.le_of_ble_eq_true rfl) ?_
  intro p e s m args below meth c A ls hx hb hr hta hown hlocks hml hin hN hK hP hD hS hA hl
  refine z_gen (fun G hG => ?_)
  have hl : lv_has ls 3 [(0, Value.ref (a 0)), (1, Value.int (nI j)), (2, Value.int (nI k))] := hl
  refine lv_aload_n hx hb dX6_shiftEver_0 rfl (lv_at hl 0 rfl) ?_
  refine gM6_at hx hb hta hown hK hP wd_5_6 dX6_shiftEver_1 ?_
  refine lv_iload_n hx hb dX6_shiftEver_4 rfl (lv_at hl 1 rfl) ?_
  refine aM_at_ hx hb hK hP j rfl (by omega) dX6_shiftEver_5 ?_
  refine lv_iconst (v := (-1 : Int32)) hx hb dX6_shiftEver_6 (by decide) ?_
  refine lv_icmp_ne (tgt := 13) hx hb dX6_shiftEver_7 (by decide) (fun c7 => ?_) (fun c7 => ?_)
  · obtain ⟨f, hf, ef0⟩ : ∃ f, f < nb ∧ at_ j = nI f := by rcases hat j hj8 with q | q; exact absurd q c7; exact q
    have ef : nN (nI f) = f := nI_clamp (by omega)
    refine lv_aload_n hx hb dX6_shiftEver_13 rfl (lv_at hl 0 rfl) ?_
    refine gM6_dry hx hb hta hown hK hP wd_5_4 dX6_shiftEver_14 ?_
    refine lv_iload_n hx hb dX6_shiftEver_17 rfl (lv_at hl 1 rfl) ?_
    refine aM_olf hx hb hK hP j rfl (by omega) dX6_shiftEver_18 ?_
    refine lv_if_le (tgt := 25) hx hb dX6_shiftEver_19 (by decide) (fun c19 => ?_) (fun c19 => ?_)
    · refine lv_aload_n hx hb dX6_shiftEver_25 rfl (lv_at hl 0 rfl) ?_
      refine lv_iload_n hx hb dX6_shiftEver_26 rfl (lv_at hl 2 rfl) ?_
      refine z_callV (As := [Value.int (nI k)]) (rest := []) hx hb hml hown hta zm_X6_boatAt wd_18_0 (c_X6_boatAt l D y a mth t tb tf ts cap clr mov hom wm nw wf wt nb fr bw bl no od ow ol ork olf oco at_ aw mp mpl msh msl mwa mse (nI k) (by omega)) hN hK hP hD hS hA 0 rfl rfl rfl hl rfl (Nat.le_of_ble_eq_true rfl) ⟨Nat.le_of_ble_eq_true rfl, Nat.le_of_ble_eq_true rfl⟩ ⟨Nat.le_of_ble_eq_true rfl, Nat.le_of_ble_eq_true rfl⟩ dX6_shiftEver_27 (fun v w' H locs hq hP hD hS => ?_)
      obtain ⟨rfl, rfl⟩ := hq
      refine lv_iconst (v := (-1 : Int32)) hx hb dX6_shiftEver_30 (by decide) ?_
      refine lv_icmp_eq (tgt := 37) hx hb dX6_shiftEver_31 (by decide) (fun c31 => ?_) (fun c31 => ?_)
      · refine lv_aload_n hx hb dX6_shiftEver_37 rfl (lv_at hl 0 rfl) ?_
        refine lv_aload_n hx hb dX6_shiftEver_38 rfl (lv_at hl 0 rfl) ?_
        refine gM6_at hx hb hta hown hK hP wd_5_6 dX6_shiftEver_39 ?_
        refine lv_iload_n hx hb dX6_shiftEver_42 rfl (lv_at hl 1 rfl) ?_
        refine aM_at_ hx hb hK hP j rfl (by omega) dX6_shiftEver_43 ?_
        refine zr_top (y := nI f) ef0 ?_
        refine lv_iload_n hx hb dX6_shiftEver_44 rfl (lv_at hl 1 rfl) ?_
        refine z_callV (As := [Value.int (nI f), Value.int (nI j)]) (rest := []) hx hb hml hown hta zm_X6_isShut wd_18_4 (c_X6_isShut l D y a mth t tb tf ts cap clr mov hom wm nw wf wt nb fr bw bl no od ow ol ork olf oco at_ aw mp mpl msh msl mwa mse f (nI j) (by omega) (by omega) (by omega) (by omega)) hN hK hP hD hS hA 0 rfl rfl rfl hl rfl (Nat.le_of_ble_eq_true rfl) ⟨Nat.le_of_ble_eq_true rfl, Nat.le_of_ble_eq_true rfl⟩ ⟨Nat.le_of_ble_eq_true rfl, Nat.le_of_ble_eq_true rfl⟩ dX6_shiftEver_45 (fun v w' H locs hq hP hD hS => ?_)
        obtain ⟨rfl, rfl⟩ := hq
        refine lv_if_ne (tgt := 60) hx hb dX6_shiftEver_48 (by decide) (fun c48 => ?_) (fun c48 => ?_)
        · have c48 := bI_1 c48
          refine lv_bipush (v := (102 : Int32)) hx hb dX6_shiftEver_60 (by decide) ?_
          refine z_zret hG hx hb hr hlocks hP hD hS (Nat.le_of_ble_eq_true rfl) (Nat.le_of_ble_eq_true rfl) dX6_shiftEver_62 ?_ ?_
          · rfl
          · refine zqi ?_
            first
            | (rw [seM, if_pos c7])
            | (rw [seM, if_neg c7, ef0, ef]; simp [ldF, c7, c19, c31, c48])
        · have c48 := bI_0 c48
          refine lv_aload_n hx hb dX6_shiftEver_51 rfl (lv_at hl 0 rfl) ?_
          refine lv_iload_n hx hb dX6_shiftEver_52 rfl (lv_at hl 2 rfl) ?_
          refine lv_iload_n hx hb dX6_shiftEver_53 rfl (lv_at hl 1 rfl) ?_
          refine z_callV (As := [Value.int (nI k), Value.int (nI j)]) (rest := []) hx hb hml hown hta zm_X6_isShut wd_18_4 (c_X6_isShut l D y a mth t tb tf ts cap clr mov hom wm nw wf wt nb fr bw bl no od ow ol ork olf oco at_ aw mp mpl msh msl mwa mse k (nI j) (by omega) (by omega) (by omega) (by omega)) hN hK hP hD hS hA 0 rfl rfl rfl hl rfl (Nat.le_of_ble_eq_true rfl) ⟨Nat.le_of_ble_eq_true rfl, Nat.le_of_ble_eq_true rfl⟩ ⟨Nat.le_of_ble_eq_true rfl, Nat.le_of_ble_eq_true rfl⟩ dX6_shiftEver_54 (fun v w' H locs hq hP hD hS => ?_)
          obtain ⟨rfl, rfl⟩ := hq
          refine lv_if_eq (tgt := 63) hx hb dX6_shiftEver_57 (by decide) (fun c57 => ?_) (fun c57 => ?_)
          · have c57 := bI_0 c57
            refine lv_aload_n hx hb dX6_shiftEver_63 rfl (lv_at hl 0 rfl) ?_
            refine gM6_weight hx hb hta hown hK hP wd_5_1 dX6_shiftEver_64 ?_
            refine lv_iload_n hx hb dX6_shiftEver_67 rfl (lv_at hl 1 rfl) ?_
            refine aM_ow hx hb hK hP j rfl (by omega) dX6_shiftEver_68 ?_
            refine lv_aload_n hx hb dX6_shiftEver_69 rfl (lv_at hl 0 rfl) ?_
            refine gM6_capacity hx hb hta hown hK hP wd_4_16 dX6_shiftEver_70 ?_
            refine lv_icmp_gt (tgt := 91) hx hb dX6_shiftEver_73 (by decide) (fun c73 => ?_) (fun c73 => ?_)
            · refine lv_bipush (v := (119 : Int32)) hx hb dX6_shiftEver_91 (by decide) ?_
              refine z_zret hG hx hb hr hlocks hP hD hS (Nat.le_of_ble_eq_true rfl) (Nat.le_of_ble_eq_true rfl) dX6_shiftEver_93 ?_ ?_
              · rfl
              · refine zqi ?_
                first
                | (rw [seM, if_pos c7])
                | (rw [seM, if_neg c7, ef0, ef]; simp [ldF, c7, c19, c31, c48, c57, c73])
            · refine lv_aload_n hx hb dX6_shiftEver_76 rfl (lv_at hl 0 rfl) ?_
              refine gM6_weight hx hb hta hown hK hP wd_5_1 dX6_shiftEver_77 ?_
              refine lv_iload_n hx hb dX6_shiftEver_80 rfl (lv_at hl 1 rfl) ?_
              refine aM_ow hx hb hK hP j rfl (by omega) dX6_shiftEver_81 ?_
              refine lv_aload_n hx hb dX6_shiftEver_82 rfl (lv_at hl 0 rfl) ?_
              refine gM6_berthWeight hx hb hta hown hK hP wd_4_22 dX6_shiftEver_83 ?_
              refine lv_iload_n hx hb dX6_shiftEver_86 rfl (lv_at hl 2 rfl) ?_
              refine aM_bw hx hb hK hP k rfl (by omega) dX6_shiftEver_87 ?_
              refine lv_icmp_le (tgt := 94) hx hb dX6_shiftEver_88 (by decide) (fun c88 => ?_) (fun c88 => ?_)
              · refine lv_aload_n hx hb dX6_shiftEver_94 rfl (lv_at hl 0 rfl) ?_
                refine gM6_length hx hb hta hown hK hP wd_5_2 dX6_shiftEver_95 ?_
                refine lv_iload_n hx hb dX6_shiftEver_98 rfl (lv_at hl 1 rfl) ?_
                refine aM_ol hx hb hK hP j rfl (by omega) dX6_shiftEver_99 ?_
                refine lv_aload_n hx hb dX6_shiftEver_100 rfl (lv_at hl 0 rfl) ?_
                refine gM6_berthLength hx hb hta hown hK hP wd_4_23 dX6_shiftEver_101 ?_
                refine lv_iload_n hx hb dX6_shiftEver_104 rfl (lv_at hl 2 rfl) ?_
                refine aM_bl hx hb hK hP k rfl (by omega) dX6_shiftEver_105 ?_
                refine lv_icmp_le (tgt := 114) hx hb dX6_shiftEver_106 (by decide) (fun c106 => ?_) (fun c106 => ?_)
                · refine lv_bipush (v := (110 : Int32)) hx hb dX6_shiftEver_114 (by decide) ?_
                  refine z_zret hG hx hb hr hlocks hP hD hS (Nat.le_of_ble_eq_true rfl) (Nat.le_of_ble_eq_true rfl) dX6_shiftEver_116 ?_ ?_
                  · rfl
                  · refine zqi ?_
                    first
                    | (rw [seM, if_pos c7])
                    | (rw [seM, if_neg c7, ef0, ef]; simp [ldF, c7, c19, c31, c48, c57, c73, c88, c106])
                · refine lv_bipush (v := (108 : Int32)) hx hb dX6_shiftEver_109 (by decide) ?_
                  refine lv_goto (tgt := 116) hx hb dX6_shiftEver_111 (by decide) ?_
                  refine z_zret hG hx hb hr hlocks hP hD hS (Nat.le_of_ble_eq_true rfl) (Nat.le_of_ble_eq_true rfl) dX6_shiftEver_116 ?_ ?_
                  · rfl
                  · refine zqi ?_
                    first
                    | (rw [seM, if_pos c7])
                    | (rw [seM, if_neg c7, ef0, ef]; simp [ldF, c7, c19, c31, c48, c57, c73, c88, c106])
              · refine lv_bipush (v := (119 : Int32)) hx hb dX6_shiftEver_91 (by decide) ?_
                refine z_zret hG hx hb hr hlocks hP hD hS (Nat.le_of_ble_eq_true rfl) (Nat.le_of_ble_eq_true rfl) dX6_shiftEver_93 ?_ ?_
                · rfl
                · refine zqi ?_
                  first
                  | (rw [seM, if_pos c7])
                  | (rw [seM, if_neg c7, ef0, ef]; simp [ldF, c7, c19, c31, c48, c57, c73, c88])
          · have c57 := bI_1 c57
            refine lv_bipush (v := (102 : Int32)) hx hb dX6_shiftEver_60 (by decide) ?_
            refine z_zret hG hx hb hr hlocks hP hD hS (Nat.le_of_ble_eq_true rfl) (Nat.le_of_ble_eq_true rfl) dX6_shiftEver_62 ?_ ?_
            · rfl
            · refine zqi ?_
              first
              | (rw [seM, if_pos c7])
              | (rw [seM, if_neg c7, ef0, ef]; simp [ldF, c7, c19, c31, c48, c57])
      · refine lv_bipush (v := (111 : Int32)) hx hb dX6_shiftEver_34 (by decide) ?_
        refine z_zret hG hx hb hr hlocks hP hD hS (Nat.le_of_ble_eq_true rfl) (Nat.le_of_ble_eq_true rfl) dX6_shiftEver_36 ?_ ?_
        · rfl
        · refine zqi ?_
          first
          | (rw [seM, if_pos c7])
          | (rw [seM, if_neg c7, ef0, ef]; simp [ldF, c7, c19, c31])
    · refine lv_bipush (v := (100 : Int32)) hx hb dX6_shiftEver_22 (by decide) ?_
      refine z_zret hG hx hb hr hlocks hP hD hS (Nat.le_of_ble_eq_true rfl) (Nat.le_of_ble_eq_true rfl) dX6_shiftEver_24 ?_ ?_
      · rfl
      · refine zqi ?_
        first
        | (rw [seM, if_pos c7])
        | (rw [seM, if_neg c7, ef0, ef]; simp [ldF, c7, c19])
  · refine lv_bipush (v := (97 : Int32)) hx hb dX6_shiftEver_10 (by decide) ?_
    refine z_zret hG hx hb hr hlocks hP hD hS (Nat.le_of_ble_eq_true rfl) (Nat.le_of_ble_eq_true rfl) dX6_shiftEver_12 ?_ ?_
    · rfl
    · refine zqi ?_
      first
      | (rw [seM, if_pos c7])
      | (rw [seM, if_neg c7, ef0, ef]; simp [ldF, c7])
set_option maxHeartbeats 800000 in
set_option maxRecDepth 100000 in
theorem c_X6_shiftNow (l : Launch) (D : va_G) (y : Nat → ClassId) (a : Nat → Nat) (mth : Int32) (t : Nat) (tb tf ts cap clr mov hom : Int32) (wm : Int64) (nw : Nat) (wf wt : Nat → Int32) (nb : Nat) (fr bw bl : Nat → Int32) (no : Nat) (od ow ol ork olf oco at_ aw : Nat → Int32) (mp : Int32) (mpl msh msl mwa mse : Nat → Int32) (j : Nat) (k : Nat) (hj8 : j < no) (hk6 : k < nb) (hb8 : no ≤ 8) (hb6 : nb ≤ 6) (hw : nw ≤ 6) (hfr : ∀ k, k < nb → fr k = -1 ∨ ∃ j, j < k ∧ fr k = nI j) (hat : ∀ j, j < no → at_ j = -1 ∨ ∃ k, k < nb ∧ at_ j = nI k) : zP l D y yX6_shiftNow cX6_shiftNow 4 (some .char) 3 0 0 69 [Value.ref (a 0), Value.int (nI j), Value.int (nI k)] (wM a y mth (nI t) tb tf ts cap clr mov hom wm (nI nw) wf wt (nI nb) fr bw bl (nI no) od ow ol ork olf oco at_ aw mp mpl msh msl mwa mse) (fun o9 w9 => o9 = some (Value.int (snM cap hom (nI t) (badF wf wt nw (nI t)) at_ olf fr ow ol bw bl no j k)) ∧ w9 = wM a y mth (nI t) tb tf ts cap clr mov hom wm (nI nw) wf wt (nI nb) fr bw bl (nI no) od ow ol ork olf oco at_ aw mp mpl msh msl mwa mse) := by
  refine zP.of (by decide +kernel) (Nat.le_of_ble_eq_true rfl) ?_
  intro p e s m args below meth c A ls hx hb hr hta hown hlocks hml hin hN hK hP hD hS hA hl
  refine z_gen (fun G hG => ?_)
  have hl : lv_has ls 4 [(0, Value.ref (a 0)), (1, Value.int (nI j)), (2, Value.int (nI k))] := hl
  refine lv_aload_n hx hb dX6_shiftNow_0 rfl (lv_at hl 0 rfl) ?_
  refine lv_iload_n hx hb dX6_shiftNow_1 rfl (lv_at hl 1 rfl) ?_
  refine lv_iload_n hx hb dX6_shiftNow_2 rfl (lv_at hl 2 rfl) ?_
  refine z_callV (As := [Value.int (nI j), Value.int (nI k)]) (rest := []) hx hb hml hown hta zm_X6_shiftEver wd_21_11 (c_X6_shiftEver l D y a mth t tb tf ts cap clr mov hom wm nw wf wt nb fr bw bl no od ow ol ork olf oco at_ aw mp mpl msh msl mwa mse j k (by omega) (by omega) (by omega) (by omega) (by omega) (by omega)) hN hK hP hD hS hA 0 rfl rfl rfl hl rfl (Nat.le_of_ble_eq_true rfl) ⟨Nat.le_of_ble_eq_true rfl, Nat.le_of_ble_eq_true rfl⟩ ⟨Nat.le_of_ble_eq_true rfl, Nat.le_of_ble_eq_true rfl⟩ dX6_shiftNow_3 (fun v w' H locs hq hP hD hS => ?_)
  obtain ⟨rfl, rfl⟩ := hq
  refine lv_istore_n (lv' := [(3, Value.int (seM cap at_ olf fr ow ol bw bl no j k)), (0, Value.ref (a 0)), (1, Value.int (nI j)), (2, Value.int (nI k))]) hx hb dX6_shiftNow_6 rfl hl (by decide) rfl (fun ls hl => ?_)
  refine lv_iload_n hx hb dX6_shiftNow_7 rfl (lv_at hl 0 rfl) ?_
  refine lv_bipush (v := (110 : Int32)) hx hb dX6_shiftNow_8 (by decide) ?_
  refine lv_icmp_ne (tgt := 20) hx hb dX6_shiftNow_10 (by decide) (fun c10 => ?_) (fun c10 => ?_)
  · refine lv_iload_n hx hb dX6_shiftNow_20 rfl (lv_at hl 0 rfl) ?_
    refine z_zret hG hx hb hr hlocks hP hD hS (Nat.le_of_ble_eq_true rfl) (Nat.le_of_ble_eq_true rfl) dX6_shiftNow_21 ?_ ?_
    · exact seM_ch ..
    · refine zqi ?_
      simp only [snM, c10, reduceIte, Bool.false_eq_true, not_true_eq_false, not_false_eq_true]
  · refine lv_aload_n hx hb dX6_shiftNow_13 rfl (lv_at hl 1 rfl) ?_
    refine z_callV (As := []) (rest := []) hx hb hml hown hta zm_X6_byHour wd_18_8 (c_X6_byHour l D y a mth t tb tf ts cap clr mov hom wm nw wf wt nb fr bw bl no od ow ol ork olf oco at_ aw mp mpl msh msl mwa mse (by omega)) hN hK hP hD hS hA 0 rfl rfl rfl hl rfl (Nat.le_of_ble_eq_true rfl) ⟨Nat.le_of_ble_eq_true rfl, Nat.le_of_ble_eq_true rfl⟩ ⟨Nat.le_of_ble_eq_true rfl, Nat.le_of_ble_eq_true rfl⟩ dX6_shiftNow_14 (fun v w' H locs hq hP hD hS => ?_)
    obtain ⟨rfl, rfl⟩ := hq
    refine lv_goto (tgt := 21) hx hb dX6_shiftNow_17 (by decide) ?_
    refine z_zret hG hx hb hr hlocks hP hD hS (Nat.le_of_ble_eq_true rfl) (Nat.le_of_ble_eq_true rfl) dX6_shiftNow_21 ?_ ?_
    · exact hb_ch ..
    · refine zqi ?_
      simp only [snM, c10, reduceIte, Bool.false_eq_true, not_true_eq_false, not_false_eq_true]
