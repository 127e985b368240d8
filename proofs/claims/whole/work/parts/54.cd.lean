set_option maxHeartbeats 800000 in
set_option maxRecDepth 100000 in
theorem c_X6_codeNow (l : Launch) (D : va_G) (y : Nat → ClassId) (a : Nat → Nat) (mth : Int32) (t : Nat) (tb tf ts cap clr mov hom : Int32) (wm : Int64) (nw : Nat) (wf wt : Nat → Int32) (nb : Nat) (fr bw bl : Nat → Int32) (no : Nat) (od ow ol ork olf oco at_ aw : Nat → Int32) (mp : Int32) (mpl msh msl mwa mse : Nat → Int32)  (hb8 : no ≤ 8) (hb6 : nb ≤ 6) : zP l D y yX6_codeNow cX6_codeNow 3 (some .int) 1 0 0 23 [Value.ref (a 0)] (wM a y mth (nI t) tb tf ts cap clr mov hom wm (nI nw) wf wt (nI nb) fr bw bl (nI no) od ow ol ork olf oco at_ aw mp mpl msh msl mwa mse) (fun o9 w9 => o9 = some (Value.int (nI (cdN at_ nb no 6))) ∧ w9 = wM a y mth (nI t) tb tf ts cap clr mov hom wm (nI nw) wf wt (nI nb) fr bw bl (nI no) od ow ol ork olf oco at_ aw mp mpl msh msl mwa mse) := by
  refine zP.of (by decide +kernel) (Nat.le_of_ble_eq_true rfl) ?_
  intro p e s m args below meth c A ls hx hb hr hta hown hlocks hml hin hN hK hP hD hS hA hl
  refine z_gen (fun G hG => ?_)
  have hl : lv_has ls 3 [(0, Value.ref (a 0))] := hl
  refine lv_iconst (v := (0 : Int32)) hx hb dX6_codeNow_0 (by decide) ?_
  refine lv_istore_n (lv' := [(1, Value.int (0 : Int32)), (0, Value.ref (a 0))]) hx hb dX6_codeNow_1 rfl hl (by decide) rfl (fun ls hl => ?_)
  refine lv_iconst (v := (0 : Int32)) hx hb dX6_codeNow_2 (by decide) ?_
  refine lv_istore_n (lv' := [(2, Value.int (0 : Int32)), (1, Value.int (0 : Int32)), (0, Value.ref (a 0))]) hx hb dX6_codeNow_3 rfl hl (by decide) rfl (fun ls hl => ?_)
  have LP4 : ∀ (n : Nat) (k : Nat), (k ≤ 6) → 6 - k < n → ∀ (H : Heap) (locs : List Loc) (ls : Array Slot), va_P D vwCl (wM a y mth (nI t) tb tf ts cap clr mov hom wm (nI nw) wf wt (nI nb) fr bw bl (nI no) od ow ol ork olf oco at_ aw mp mpl msh msl mwa mse) H → va_D A (wM a y mth (nI t) tb tf ts cap clr mov hom wm (nI nw) wf wt (nI nb) fr bw bl (nI no) od ow ol ork olf oco at_ aw mp mpl msh msl mwa mse) → va_S A s.heap H locs → lv_has ls 3 [(2, Value.int (nI k)), (1, Value.int (nI (cdN at_ nb no k))), (0, Value.ref (a 0))] → W p l e ({ frames := 1, cells := 0, slots := 0, locals := 23 } : Room) s m args below meth c H locs 0 0 G (F0 m 4 ls []) := by
    intro n
    induction n with
    | zero => intro k hk hn; exact absurd hn (Nat.not_lt_zero _)
    | succ n ih4 =>
      intro k hk hn H locs ls hP hD hS hl
      refine lv_iload_n hx hb dX6_codeNow_4 rfl (lv_at hl 0 rfl) ?_
      refine lv_bipush (v := (6 : Int32)) hx hb dX6_codeNow_5 (by decide) ?_
      refine lv_icmp_ge (tgt := 41) hx hb dX6_codeNow_7 (by decide) (fun c7 => ?_) (fun c7 => ?_)
      · have c7 : 6 ≤ k := (nI_leI (a := 6) (b := k) (by omega) (by omega)).mp c7
        refine lv_iload_n hx hb dX6_codeNow_41 rfl (lv_at hl 1 rfl) ?_
        refine z_iret hG hx hb hr hlocks hP hD hS (Nat.le_of_ble_eq_true rfl) (Nat.le_of_ble_eq_true rfl) dX6_codeNow_42 ?_
        refine zqi ?_
        rw [show k = 6 by omega]
      · have c7 : ¬ 6 ≤ k := fun z => c7 ((nI_leI (a := 6) (b := k) (by omega) (by omega)).mpr z)
        refine lv_bipush (v := (9 : Int32)) hx hb dX6_codeNow_10 (by decide) ?_
        refine lv_iload_n hx hb dX6_codeNow_12 rfl (lv_at hl 1 rfl) ?_
        refine lv_imul hx hb dX6_codeNow_13 ?_
        refine zr_top (y := nI (9 * cdN at_ nb no k)) (pk_mul 9 (cdN at_ nb no k)) ?_
        refine lv_iload_n hx hb dX6_codeNow_14 rfl (lv_at hl 0 rfl) ?_
        refine lv_aload_n hx hb dX6_codeNow_15 rfl (lv_at hl 2 rfl) ?_
        refine gM6_berths hx hb hta hown hK hP wd_7_0 dX6_codeNow_16 ?_
        refine lv_icmp_ge (tgt := 32) hx hb dX6_codeNow_19 (by decide) (fun c19 => ?_) (fun c19 => ?_)
        · have c19 : nb ≤ k := (nI_leI (a := nb) (b := k) (by omega) (by omega)).mp c19
          refine lv_iconst (v := (0 : Int32)) hx hb dX6_codeNow_32 (by decide) ?_
          refine lv_iadd hx hb dX6_codeNow_33 ?_
          refine zr_top (y := nI ((9 * cdN at_ nb no k) + 0)) (nI_add (9 * cdN at_ nb no k) 0) ?_
          refine lv_istore_n (lv' := [(1, Value.int (nI ((9 * cdN at_ nb no k) + 0))), (2, Value.int (nI k)), (0, Value.ref (a 0))]) hx hb dX6_codeNow_34 rfl hl (by decide) rfl (fun ls hl => ?_)
          refine lv_iinc (v := nI (k + 1)) (lv' := [(2, Value.int (nI (k + 1))), (1, Value.int (nI ((9 * cdN at_ nb no k) + 0))), (0, Value.ref (a 0))]) hx hb dX6_codeNow_35 hl (k := 1) rfl (nI_add k 1) (by decide) rfl (fun ls hl => ?_)
          refine lv_goto (tgt := 4) hx hb dX6_codeNow_38 (by decide) ?_
          have eq1_0 : nI ((9 * cdN at_ nb no k) + 0) = nI (cdN at_ nb no (k + 1)) := by
            first
            | with_reducible rfl
            | rw [cdN, if_pos (show k < nb by omega)]
            | rw [cdN, if_neg (show ¬ k < nb by omega)]
          have hl := lv_sub hl [0, 1, 2] rfl
          have hl : lv_has ls 3 [(2, Value.int (nI (k + 1))), (1, Value.int (nI ((9 * cdN at_ nb no k) + 0))), (0, Value.ref (a 0))] := hl
          have hl : lv_has ls 3 [(2, Value.int (nI (k + 1))), (1, Value.int (nI (cdN at_ nb no (k + 1)))), (0, Value.ref (a 0))] := lv_as hl (congrArg (fun z => [(2, Value.int (nI (k + 1))), (1, Value.int z), (0, Value.ref (a 0))]) eq1_0)
          exact ih4 (k + 1) (by omega) (by omega) _ _ _ hP hD hS hl
        · have c19 : ¬ nb ≤ k := fun z => c19 ((nI_leI (a := nb) (b := k) (by omega) (by omega)).mpr z)
          refine lv_aload_n hx hb dX6_codeNow_22 rfl (lv_at hl 2 rfl) ?_
          refine lv_iload_n hx hb dX6_codeNow_23 rfl (lv_at hl 0 rfl) ?_
          refine z_callV (As := [Value.int (nI k)]) (rest := [Value.int (nI (9 * cdN at_ nb no k))]) hx hb hml hown hta zm_X6_boatAt wd_18_0 (c_X6_boatAt l D y a mth t tb tf ts cap clr mov hom wm nw wf wt nb fr bw bl no od ow ol ork olf oco at_ aw mp mpl msh msl mwa mse (nI k) (by omega)) hN hK hP hD hS hA 0 rfl rfl rfl hl rfl (Nat.le_of_ble_eq_true rfl) ⟨Nat.le_of_ble_eq_true rfl, Nat.le_of_ble_eq_true rfl⟩ ⟨Nat.le_of_ble_eq_true rfl, Nat.le_of_ble_eq_true rfl⟩ dX6_codeNow_24 (fun v w' H locs hq hP hD hS => ?_)
          obtain ⟨rfl, rfl⟩ := hq
          refine lv_iconst (v := (1 : Int32)) hx hb dX6_codeNow_27 (by decide) ?_
          refine lv_iadd hx hb dX6_codeNow_28 ?_
          refine zr_top (y := nI (baM at_ (nI k) no)) (fI_1 _) ?_
          refine lv_goto (tgt := 33) hx hb dX6_codeNow_29 (by decide) ?_
          refine lv_iadd hx hb dX6_codeNow_33 ?_
          refine zr_top (y := nI ((9 * cdN at_ nb no k) + (baM at_ (nI k) no))) (nI_add (9 * cdN at_ nb no k) (baM at_ (nI k) no)) ?_
          refine lv_istore_n (lv' := [(1, Value.int (nI ((9 * cdN at_ nb no k) + (baM at_ (nI k) no)))), (2, Value.int (nI k)), (0, Value.ref (a 0))]) hx hb dX6_codeNow_34 rfl hl (by decide) rfl (fun ls hl => ?_)
          refine lv_iinc (v := nI (k + 1)) (lv' := [(2, Value.int (nI (k + 1))), (1, Value.int (nI ((9 * cdN at_ nb no k) + (baM at_ (nI k) no)))), (0, Value.ref (a 0))]) hx hb dX6_codeNow_35 hl (k := 1) rfl (nI_add k 1) (by decide) rfl (fun ls hl => ?_)
          refine lv_goto (tgt := 4) hx hb dX6_codeNow_38 (by decide) ?_
          have eq3_0 : nI ((9 * cdN at_ nb no k) + (baM at_ (nI k) no)) = nI (cdN at_ nb no (k + 1)) := by
            first
            | with_reducible rfl
            | rw [cdN, if_pos (show k < nb by omega)]
            | rw [cdN, if_neg (show ¬ k < nb by omega)]
          have hl := lv_sub hl [0, 1, 2] rfl
          have hl : lv_has ls 3 [(2, Value.int (nI (k + 1))), (1, Value.int (nI ((9 * cdN at_ nb no k) + (baM at_ (nI k) no)))), (0, Value.ref (a 0))] := hl
          have hl : lv_has ls 3 [(2, Value.int (nI (k + 1))), (1, Value.int (nI (cdN at_ nb no (k + 1)))), (0, Value.ref (a 0))] := lv_as hl (congrArg (fun z => [(2, Value.int (nI (k + 1))), (1, Value.int z), (0, Value.ref (a 0))]) eq3_0)
          exact ih4 (k + 1) (by omega) (by omega) _ _ _ hP hD hS hl
  have eq4_0 : (0 : Int32) = nI 0 := by
    rfl
  have eq5_1 : (0 : Int32) = nI (cdN at_ nb no 0) := by
    rfl
  have hl := lv_sub hl [0, 1, 2] rfl
  have hl : lv_has ls 3 [(2, Value.int (0 : Int32)), (1, Value.int (0 : Int32)), (0, Value.ref (a 0))] := hl
  have hl : lv_has ls 3 [(2, Value.int (nI 0)), (1, Value.int (0 : Int32)), (0, Value.ref (a 0))] := lv_as hl (congrArg (fun z => [(2, Value.int z), (1, Value.int (0 : Int32)), (0, Value.ref (a 0))]) eq4_0)
  have hl : lv_has ls 3 [(2, Value.int (nI 0)), (1, Value.int (nI (cdN at_ nb no 0))), (0, Value.ref (a 0))] := lv_as hl (congrArg (fun z => [(2, Value.int (nI 0)), (1, Value.int z), (0, Value.ref (a 0))]) eq5_1)
  exact LP4 (6 - 0 + 1) 0 (by omega) (Nat.lt_succ_self _) _ _ _ hP hD hS hl
