set_option maxHeartbeats 800000 in
set_option maxRecDepth 100000 in
theorem c_X6_goesOn (l : Launch) (D : va_G) (y : Nat → ClassId) (a : Nat → Nat) (mth : Int32) (t : Nat) (tb tf ts cap clr mov hom : Int32) (wm : Int64) (nw : Nat) (wf wt : Nat → Int32) (nb : Nat) (fr bw bl : Nat → Int32) (no : Nat) (od ow ol ork olf oco at_ aw : Nat → Int32) (mq : Nat) (mpl msh msl mwa mse : Nat → Int32) (j : Nat) (ii : Nat) (Wf : Nat → Nat) (Ed : (Nat → Int32) → Nat → Nat → Prop) (g0 : Nat → Int32) (n9 : Nat) (wv : Nat) (hb8 : no ≤ 8) (hb6 : nb ≤ 6) (hfr : ∀ k, k < nb → fr k = -1 ∨ ∃ j, j < k ∧ fr k = nI j) (hj : j < no) (hE : Eok nb no Ed) (h0 : Va nb no g0) (hrs : RS nb no Wf Ed g0 mpl msh mse mq) (hhs : HS mpl msl mq) (hii : ii < mq) (hR : RN no Wf Ed g0 n9 at_ wv) (hwv : msh ii = nI wv) (hwb : wv ≤ 200000) (hW : Wok no ow Wf) (hEd : EdM nb no cap olf fr ow ol bw bl Ed) : zP l D y yX6_goesOn cX6_goesOn 5 none 3 0 0 69 [Value.ref (a 0), Value.int (nI j), Value.int (nI ii)] (wM a y mth (nI t) tb tf ts cap clr mov hom wm (nI nw) wf wt (nI nb) fr bw bl (nI no) od ow ol ork olf oco at_ aw (nI mq) mpl msh msl mwa mse) (fun o9 w9 => ∃ (mpl9 : Nat → Int32) (msh9 : Nat → Int32) (msl9 : Nat → Int32) (mse9 : Nat → Int32) (mq9 : Nat), (RT nb no Wf Ed g0 wv (wv + 200) mpl msh mse mq mpl9 msh9 msl9 mse9 mq9 ∧ ∀ k, k < nb → Ed at_ j k → cvd mpl9 msh9 mq9 (cdN (upd at_ j (nI k)) nb no 6) (wv + Wf j)) ∧ o9 = none ∧ w9 = wM a y mth (nI t) tb tf ts cap clr mov hom wm (nI nw) wf wt (nI nb) fr bw bl (nI no) od ow ol ork olf oco at_ aw (nI mq9) mpl9 msh9 msl9 mwa mse9) := by
  have hva := (rn_va hE (by omega) h0 hR).1
  have hmq7 := rs_720 hE (by omega) hb8 h0 hrs
  have hat := hva.1
  refine zP.of (by decide +kernel) (Nat.le_of_ble_eq_true rfl) ?_
  intro p e s m args below meth c A ls hx hb hr hta hown hlocks hml hin hN hK hP hD hS hA hl
  refine z_gen (fun G hG => ?_)
  have hl : lv_has ls 5 [(0, Value.ref (a 0)), (1, Value.int (nI j)), (2, Value.int (nI ii))] := hl
  refine lv_aload_n hx hb dX6_goesOn_0 rfl (lv_at hl 0 rfl) ?_
  refine gM6_at hx hb hta hown hK hP wd_5_6 dX6_goesOn_1 ?_
  refine lv_iload_n hx hb dX6_goesOn_4 rfl (lv_at hl 1 rfl) ?_
  refine aM_at_ hx hb hK hP j rfl (by omega) dX6_goesOn_5 ?_
  refine lv_istore_n (lv' := [(3, Value.int (at_ j)), (0, Value.ref (a 0)), (1, Value.int (nI j)), (2, Value.int (nI ii))]) hx hb dX6_goesOn_6 rfl hl (by decide) rfl (fun ls hl => ?_)
  refine lv_iconst (v := (0 : Int32)) hx hb dX6_goesOn_7 (by decide) ?_
  refine lv_istore (lv' := [(4, Value.int (0 : Int32)), (3, Value.int (at_ j)), (0, Value.ref (a 0)), (1, Value.int (nI j)), (2, Value.int (nI ii))]) hx hb dX6_goesOn_8 hl (by decide) rfl (fun ls hl => ?_)
  have LP10 : ∀ (n : Nat) (k : Nat) (mpl1 : Nat → Int32) (msh1 : Nat → Int32) (msl1 : Nat → Int32) (mse1 : Nat → Int32) (mq1 : Nat), (k ≤ nb) → (RT nb no Wf Ed g0 wv (wv + 200) mpl msh mse mq mpl1 msh1 msl1 mse1 mq1) → (∀ k0, k0 < k → Ed at_ j k0 → cvd mpl1 msh1 mq1 (cdN (upd at_ j (nI k0)) nb no 6) (wv + Wf j)) → nb - k < n → ∀ (H : Heap) (locs : List Loc) (ls : Array Slot), va_P D vwCl (wM a y mth (nI t) tb tf ts cap clr mov hom wm (nI nw) wf wt (nI nb) fr bw bl (nI no) od ow ol ork olf oco at_ aw (nI mq1) mpl1 msh1 msl1 mwa mse1) H → va_D A (wM a y mth (nI t) tb tf ts cap clr mov hom wm (nI nw) wf wt (nI nb) fr bw bl (nI no) od ow ol ork olf oco at_ aw (nI mq1) mpl1 msh1 msl1 mwa mse1) → va_S A s.heap H locs → lv_has ls 5 [(4, Value.int (nI k)), (3, Value.int (at_ j)), (0, Value.ref (a 0)), (1, Value.int (nI j)), (2, Value.int (nI ii))] → W p l e ({ frames := 3, cells := 0, slots := 0, locals := 69 } : Room) s m args below meth c H locs 0 0 G (F0 m 10 ls []) := by
    intro n
    induction n with
    | zero => intro k mpl1 msh1 msl1 mse1 mq1 hk hg hcv hn; exact absurd hn (Nat.not_lt_zero _)
    | succ n ih10 =>
      intro k mpl1 msh1 msl1 mse1 mq1 hk hg hcv hn H locs ls hP hD hS hl
      have hmq1 := rs_720 hE (by omega) hb8 h0 hg.1
      have hmq2 := hg.2.2.1
      refine lv_iload hx hb dX6_goesOn_10 (lv_at hl 0 rfl) ?_
      refine lv_aload_n hx hb dX6_goesOn_12 rfl (lv_at hl 2 rfl) ?_
      refine gM6_berths hx hb hta hown hK hP wd_7_0 dX6_goesOn_13 ?_
      refine lv_icmp_ge (tgt := 76) hx hb dX6_goesOn_16 (by decide) (fun c16 => ?_) (fun c16 => ?_)
      · have c16 : nb ≤ k := (nI_leI (a := nb) (b := k) (by omega) (by omega)).mp c16
        refine z_vret hG hx hb hr hlocks hP hD hS (Nat.le_of_ble_eq_true rfl) (Nat.le_of_ble_eq_true rfl) dX6_goesOn_76 ?_
        exact ⟨_, _, _, _, _, ⟨hg, fun k0 hk0 => hcv k0 (by omega)⟩, rfl, rfl⟩
      · have c16 : ¬ nb ≤ k := fun z => c16 ((nI_leI (a := nb) (b := k) (by omega) (by omega)).mpr z)
        refine lv_aload_n hx hb dX6_goesOn_19 rfl (lv_at hl 2 rfl) ?_
        refine lv_iload_n hx hb dX6_goesOn_20 rfl (lv_at hl 3 rfl) ?_
        refine lv_iload hx hb dX6_goesOn_21 (lv_at hl 0 rfl) ?_
        refine z_callV (As := [Value.int (nI j), Value.int (nI k)]) (rest := []) hx hb hml hown hta zm_X6_shiftEver wd_21_11 (c_X6_shiftEver l D y a mth t tb tf ts cap clr mov hom wm nw wf wt nb fr bw bl no od ow ol ork olf oco at_ aw (nI mq1) mpl1 msh1 msl1 mwa mse1 j k (by omega) (by omega) (by omega) (by omega) (by omega) (by omega)) hN hK hP hD hS hA 0 rfl rfl rfl hl rfl (Nat.le_of_ble_eq_true rfl) ⟨Nat.le_of_ble_eq_true rfl, Nat.le_of_ble_eq_true rfl⟩ ⟨Nat.le_of_ble_eq_true rfl, Nat.le_of_ble_eq_true rfl⟩ dX6_goesOn_23 (fun v w' H locs hq hP hD hS => ?_)
        obtain ⟨rfl, rfl⟩ := hq
        refine lv_bipush (v := (110 : Int32)) hx hb dX6_goesOn_26 (by decide) ?_
        refine lv_icmp_eq (tgt := 34) hx hb dX6_goesOn_28 (by decide) (fun c28 => ?_) (fun c28 => ?_)
        · have hEj : Ed at_ j k := (hEd at_ j k hj (by omega)).mpr c28
          have hWj := hW j hj
          have hR1 : RN no Wf Ed g0 (n9 + 1) (upd at_ j (nI k)) (wv + Wf j) := ⟨at_, j, k, wv, hR, hEj, fun _ _ => rfl, rfl⟩
          refine lv_aload_n hx hb dX6_goesOn_34 rfl (lv_at hl 2 rfl) ?_
          refine gM6_at hx hb hta hown hK hP wd_5_6 dX6_goesOn_35 ?_
          refine lv_iload_n hx hb dX6_goesOn_38 rfl (lv_at hl 3 rfl) ?_
          refine lv_iload hx hb dX6_goesOn_39 (lv_at hl 0 rfl) ?_
          refine sM_at_ hx hb hK hP hD hS j rfl (by omega) dX6_goesOn_41 (fun H locs hP hD hS => ?_)
          refine lv_aload_n hx hb dX6_goesOn_42 rfl (lv_at hl 2 rfl) ?_
          refine lv_aload_n hx hb dX6_goesOn_43 rfl (lv_at hl 2 rfl) ?_
          refine z_callV (As := []) (rest := [Value.ref (a 0)]) hx hb hml hown hta zm_X6_codeNow wd_32_22 (c_X6_codeNow l D y a mth t tb tf ts cap clr mov hom wm nw wf wt nb fr bw bl no od ow ol ork olf oco (upd at_ j (nI k)) aw (nI mq1) mpl1 msh1 msl1 mwa mse1 (by omega) (by omega)) hN hK hP hD hS hA 0 rfl rfl rfl hl rfl (Nat.le_of_ble_eq_true rfl) ⟨Nat.le_of_ble_eq_true rfl, Nat.le_of_ble_eq_true rfl⟩ ⟨Nat.le_of_ble_eq_true rfl, Nat.le_of_ble_eq_true rfl⟩ dX6_goesOn_44 (fun v w' H locs hq hP hD hS => ?_)
          obtain ⟨rfl, rfl⟩ := hq
          refine lv_aload_n hx hb dX6_goesOn_47 rfl (lv_at hl 2 rfl) ?_
          refine gM6_shifted hx hb hta hown hK hP wd_5_10 dX6_goesOn_48 ?_
          refine lv_iload_n hx hb dX6_goesOn_51 rfl (lv_at hl 4 rfl) ?_
          refine aM_msh hx hb hK hP ii rfl (by omega) dX6_goesOn_52 ?_
          refine zr_top (y := nI (wv)) (rt_fix (by omega) hg hii hwv (by omega) (by omega)) ?_
          refine lv_aload_n hx hb dX6_goesOn_53 rfl (lv_at hl 2 rfl) ?_
          refine gM6_weight hx hb hta hown hK hP wd_5_1 dX6_goesOn_54 ?_
          refine lv_iload_n hx hb dX6_goesOn_57 rfl (lv_at hl 3 rfl) ?_
          refine aM_ow hx hb hK hP j rfl (by omega) dX6_goesOn_58 ?_
          refine zr_top (y := nI (Wf j)) (hWj.1) ?_
          refine lv_iadd hx hb dX6_goesOn_59 ?_
          refine zr_top (y := nI (wv + (Wf j))) (nI_add wv (Wf j)) ?_
          refine z_callV (As := [Value.int (nI (cdN (upd at_ j (nI k)) nb no 6)), Value.int (nI (wv + (Wf j)))]) (rest := []) hx hb hml hown hta zm_X6_meets wd_33_2 (c_X6_meets l D y a mth t tb tf ts cap clr mov hom wm nw wf wt nb fr bw bl no od ow ol ork olf oco (upd at_ j (nI k)) aw mq1 mpl1 msh1 msl1 mwa mse1 (nI (cdN (upd at_ j (nI k)) nb no 6)) (nI (wv + (Wf j))) hg.2.1 (fun hn => rs_room hE (by omega) hb8 h0 hg.1 hR1 (by omega) hn)) hN hK hP hD hS hA 0 rfl rfl rfl hl rfl (Nat.le_of_ble_eq_true rfl) ⟨Nat.le_of_ble_eq_true rfl, Nat.le_of_ble_eq_true rfl⟩ ⟨Nat.le_of_ble_eq_true rfl, Nat.le_of_ble_eq_true rfl⟩ dX6_goesOn_60 (fun v w' H locs hq hP hD hS => ?_)
          obtain ⟨mpl9_3, msh9_3, msl9_3, mse9_3, mp9_3, hq3, rfl, rfl⟩ := hq
          have hst := rt_meets hE (by omega) hb8 h0 (lo := wv) (hi := wv + 200) hg.1 hg.2.1 hR1 (by omega) (by omega) (by omega) hq3
          have hg2 := rt_trans hg hst.1
          refine lv_aload_n hx hb dX6_goesOn_63 rfl (lv_at hl 2 rfl) ?_
          refine gM6_at hx hb hta hown hK hP wd_5_6 dX6_goesOn_64 ?_
          refine lv_iload_n hx hb dX6_goesOn_67 rfl (lv_at hl 3 rfl) ?_
          refine lv_iload_n hx hb dX6_goesOn_68 rfl (lv_at hl 1 rfl) ?_
          refine sM_at_ hx hb hK hP hD hS j rfl (by omega) dX6_goesOn_69 (fun H locs hP hD hS => ?_)
          refine lv_iinc (v := nI (k + 1)) (lv' := [(4, Value.int (nI (k + 1))), (3, Value.int (at_ j)), (0, Value.ref (a 0)), (1, Value.int (nI j)), (2, Value.int (nI ii))]) hx hb dX6_goesOn_70 hl (k := 0) rfl (nI_add k 1) (by decide) rfl (fun ls hl => ?_)
          refine lv_goto (tgt := 10) hx hb dX6_goesOn_73 (by decide) ?_
          have hl := lv_sub hl [0, 1, 2, 3, 4] rfl
          have ew4_at : upd (upd at_ j (nI k)) j (at_ j) = at_ := by
            first
            | with_reducible rfl
            | exact upd_back at_ j (nI k)
          have ew4_at := congrArg (fun z => wM a y mth (nI t) tb tf ts cap clr mov hom wm (nI nw) wf wt (nI nb) fr bw bl (nI no) od ow ol ork olf oco z aw (nI mp9_3) mpl9_3 msh9_3 msl9_3 mwa mse9_3) ew4_at
          have hP : va_P D vwCl (wM a y mth (nI t) tb tf ts cap clr mov hom wm (nI nw) wf wt (nI nb) fr bw bl (nI no) od ow ol ork olf oco at_ aw (nI mp9_3) mpl9_3 msh9_3 msl9_3 mwa mse9_3) _ := zw_P ew4_at hP
          have hD : va_D A (wM a y mth (nI t) tb tf ts cap clr mov hom wm (nI nw) wf wt (nI nb) fr bw bl (nI no) od ow ol ork olf oco at_ aw (nI mp9_3) mpl9_3 msh9_3 msl9_3 mwa mse9_3) := zw_D ew4_at hD
          have hv5_hg : RT nb no Wf Ed g0 wv (wv + 200) mpl msh mse mq mpl9_3 msh9_3 msl9_3 mse9_3 mp9_3 := by
            first
            | exact hg2
            | exact hg
          have hv6_hcv : ∀ k0, k0 < (k + 1) → Ed at_ j k0 → cvd mpl9_3 msh9_3 mp9_3 (cdN (upd at_ j (nI k0)) nb no 6) (wv + Wf j) := by
            first
            | exact all_step (fun k0 hk0 z => rt_cvd (by omega) hst.1 (hcv k0 hk0 z)) (fun _ => hst.2)
            | exact all_step hcv (fun z => absurd ((hEd at_ j k hj (by omega)).mp z) c28)
          exact ih10 (k + 1) mpl9_3 msh9_3 msl9_3 mse9_3 mp9_3 (by omega) hv5_hg hv6_hcv (by omega) _ _ _ hP hD hS hl
        · refine lv_goto (tgt := 70) hx hb dX6_goesOn_31 (by decide) ?_
          refine lv_iinc (v := nI (k + 1)) (lv' := [(4, Value.int (nI (k + 1))), (3, Value.int (at_ j)), (0, Value.ref (a 0)), (1, Value.int (nI j)), (2, Value.int (nI ii))]) hx hb dX6_goesOn_70 hl (k := 0) rfl (nI_add k 1) (by decide) rfl (fun ls hl => ?_)
          refine lv_goto (tgt := 10) hx hb dX6_goesOn_73 (by decide) ?_
          have hl := lv_sub hl [0, 1, 2, 3, 4] rfl
          have hv7_hg : RT nb no Wf Ed g0 wv (wv + 200) mpl msh mse mq mpl1 msh1 msl1 mse1 mq1 := by
            first
            | exact hg2
            | exact hg
          have hv8_hcv : ∀ k0, k0 < (k + 1) → Ed at_ j k0 → cvd mpl1 msh1 mq1 (cdN (upd at_ j (nI k0)) nb no 6) (wv + Wf j) := by
            first
            | exact all_step (fun k0 hk0 z => rt_cvd (by omega) hst.1 (hcv k0 hk0 z)) (fun _ => hst.2)
            | exact all_step hcv (fun z => absurd ((hEd at_ j k hj (by omega)).mp z) c28)
          exact ih10 (k + 1) mpl1 msh1 msl1 mse1 mq1 (by omega) hv7_hg hv8_hcv (by omega) _ _ _ hP hD hS hl
  have eq9_0 : (0 : Int32) = nI 0 := by
    rfl
  have hl := lv_sub hl [0, 1, 2, 3, 4] rfl
  have hl : lv_has ls 5 [(4, Value.int (0 : Int32)), (3, Value.int (at_ j)), (0, Value.ref (a 0)), (1, Value.int (nI j)), (2, Value.int (nI ii))] := hl
  have hl : lv_has ls 5 [(4, Value.int (nI 0)), (3, Value.int (at_ j)), (0, Value.ref (a 0)), (1, Value.int (nI j)), (2, Value.int (nI ii))] := lv_as hl (congrArg (fun z => [(4, Value.int z), (3, Value.int (at_ j)), (0, Value.ref (a 0)), (1, Value.int (nI j)), (2, Value.int (nI ii))]) eq9_0)
  have hv10_hg : RT nb no Wf Ed g0 wv (wv + 200) mpl msh mse mq mpl msh msl mse mq := by
    exact rt_refl hrs hhs
  have hv11_hcv : ∀ k0, k0 < 0 → Ed at_ j k0 → cvd mpl msh mq (cdN (upd at_ j (nI k0)) nb no 6) (wv + Wf j) := by
    intro k0 hk0; omega
  exact LP10 (nb - 0 + 1) 0 mpl msh msl mse mq (by omega) hv10_hg hv11_hcv (Nat.lt_succ_self _) _ _ _ hP hD hS hl
