set_option maxHeartbeats 800000 in
set_option maxRecDepth 100000 in
theorem c_X5_leastFirst (l : Launch) (D : va_G) (y : Nat → ClassId) (a : Nat → Nat) (cap clr : Int32) (t : Nat) (hom mov : Int32) (wm : Int64) (tb tf ts : Int32) (nw : Nat) (wf wt : Nat → Int32) (nb : Nat) (bw bl bi bb : Nat → Int32) (no : Nat) (od ow ol ork ob olf oco : Nat → Int32) (pn pb pm : Int32) (pcd pw pli : Nat → Int32) (j : Nat) (Wf : Nat → Nat) (Ed : (Nat → Int32) → Nat → Nat → Prop) (Cl : (Nat → Int32) → Prop) (v : Int32) (hb8 : no ≤ 8) (hb6 : nb ≤ 6) (hj8 : j < 8) (hE : Eok nb no Ed) (hva : Va nb no (gB ob nb)) (hW : Wok no ow Wf) (hEC : EC nb no Ed (beS ob nb no) cap olf ow ol bw bl bi) (hCl : ClC nb no (beS ob nb no) bi j Cl) (hv : Lst no Wf Ed (gB ob nb) Cl v) : zP l D y yX5_leastFirst cX5_leastFirst 4 (some .int) 5 0 0 123 [Value.ref (a 0), Value.int (nI j)] (wB a y cap clr (nI t) hom mov wm tb tf ts (nI nw) wf wt (nI nb) bw bl bi bb (nI no) od ow ol ork ob olf oco pn pb pm pcd pw pli) (fun o9 w9 => ∃ (pcd9 : Nat → Int32) (pw9 : Nat → Int32) (pli9 : Nat → Int32) (nl9 : Nat), (True) ∧ o9 = some (Value.int v) ∧ w9 = wB a y cap clr (nI t) hom mov wm tb tf ts (nI nw) wf wt (nI nb) bw bl bi bb (nI no) od ow ol ork ob olf oco (nI nl9) (beS ob nb no) (nI nb) pcd9 pw9 pli9) := by
  refine zP.of (by decide +kernel) (Nat.le_of_ble_eq_true rfl) ?_
  intro p e s m args below meth c A ls hx hb hr hta hown hlocks hml hin hN hK hP hD hS hA hl
  refine z_gen (fun G hG => ?_)
  have hl : lv_has ls 4 [(0, Value.ref (a 0)), (1, Value.int (nI j))] := hl
  refine lv_aload_n hx hb dX5_leastFirst_0 rfl (lv_at hl 0 rfl) ?_
  refine z_callV (As := []) (rest := []) hx hb hml hown hta zm_X5_startFromNow wd_30_0 (c_X5_startFromNow l D y a cap clr t hom mov wm tb tf ts nw wf wt nb bw bl bi bb no od ow ol ork ob olf oco pn pb pm pcd pw pli (by omega) (by omega) (by omega)) hN hK hP hD hS hA 0 rfl rfl rfl hl rfl (Nat.le_of_ble_eq_true rfl) ⟨Nat.le_of_ble_eq_true rfl, Nat.le_of_ble_eq_true rfl⟩ ⟨Nat.le_of_ble_eq_true rfl, Nat.le_of_ble_eq_true rfl⟩ dX5_leastFirst_1 (fun v w' H locs hq hP hD hS => ?_)
  obtain ⟨pcd9_1, pw9_1, pli9_1, hq1, rfl, rfl⟩ := hq
  refine lv_iconst (v := (0 : Int32)) hx hb dX5_leastFirst_4 (by decide) ?_
  refine lv_istore_n (lv' := [(2, Value.int (0 : Int32)), (0, Value.ref (a 0)), (1, Value.int (nI j))]) hx hb dX5_leastFirst_5 rfl hl (by decide) rfl (fun ls hl => ?_)
  have LP6 : ∀ (n : Nat) (tk : Nat) (pcd1 : Nat → Int32) (pw1 : Nat → Int32) (pli1 : Nat → Int32) (nl1 : Nat), (DJ nb no Wf Ed (gB ob nb) (beS ob nb no) Cl tk pcd1 pw1 pli1 nl1) → 720 - tk < n → ∀ (H : Heap) (locs : List Loc) (ls : Array Slot), va_P D vwCl (wB a y cap clr (nI t) hom mov wm tb tf ts (nI nw) wf wt (nI nb) bw bl bi bb (nI no) od ow ol ork ob olf oco (nI nl1) (beS ob nb no) (nI nb) pcd1 pw1 pli1) H → va_D A (wB a y cap clr (nI t) hom mov wm tb tf ts (nI nw) wf wt (nI nb) bw bl bi bb (nI no) od ow ol ork ob olf oco (nI nl1) (beS ob nb no) (nI nb) pcd1 pw1 pli1) → va_S A s.heap H locs → lv_has ls 4 [(2, Value.int (nI tk)), (0, Value.ref (a 0)), (1, Value.int (nI j))] → W p l e ({ frames := 5, cells := 0, slots := 0, locals := 123 } : Room) s m args below meth c H locs 0 0 G (F0 m 6 ls []) := by
    intro n
    induction n with
    | zero => intro tk pcd1 pw1 pli1 nl1 hdj hn; exact absurd hn (Nat.not_lt_zero _)
    | succ n ih6 =>
      intro tk pcd1 pw1 pli1 nl1 hdj hn H locs ls hP hD hS hl
      have hnl := dj_tk hdj
      refine lv_iload_n hx hb dX5_leastFirst_6 rfl (lv_at hl 0 rfl) ?_
      refine lv_sipush (v := (720 : Int32)) hx hb dX5_leastFirst_7 (by decide) ?_
      refine lv_icmp_ge (tgt := 62) hx hb dX5_leastFirst_10 (by decide) (fun c10 => ?_) (fun c10 => ?_)
      · have c10 : 720 ≤ tk := (nI_leI (a := 720) (b := tk) (by omega) (by omega)).mp c10
        refine lv_iconst (v := (-1 : Int32)) hx hb dX5_leastFirst_62 (by decide) ?_
        refine z_iret hG hx hb hr hlocks hP hD hS (Nat.le_of_ble_eq_true rfl) (Nat.le_of_ble_eq_true rfl) dX5_leastFirst_63 ?_
        have htk := dj_tk hdj
        obtain rfl : nl1 = 0 := by omega
        exact ⟨_, _, _, 0, trivial, congrArg (fun z => some (Value.int z)) (lst_uniq (dj_end hE (by omega) hb8 hva (wok_le hW) hdj) hv), rfl⟩
      · have c10 : ¬ 720 ≤ tk := fun z => c10 ((nI_leI (a := 720) (b := tk) (by omega) (by omega)).mpr z)
        refine lv_aload_n hx hb dX5_leastFirst_13 rfl (lv_at hl 1 rfl) ?_
        refine gB5_places hx hb hta hown hK hP wd_2_9 dX5_leastFirst_14 ?_
        refine gB2_listed hx hb hta hown hK hP wd_29_22 dX5_leastFirst_17 ?_
        refine lv_if_le (tgt := 62) hx hb dX5_leastFirst_20 (by decide) (fun c20 => ?_) (fun c20 => ?_)
        · have c20 : nl1 ≤ 0 := (nI_leI (a := nl1) (b := 0) (by omega) (by omega)).mp c20
          refine lv_iconst (v := (-1 : Int32)) hx hb dX5_leastFirst_62 (by decide) ?_
          refine z_iret hG hx hb hr hlocks hP hD hS (Nat.le_of_ble_eq_true rfl) (Nat.le_of_ble_eq_true rfl) dX5_leastFirst_63 ?_
          have htk := dj_tk hdj
          obtain rfl : nl1 = 0 := by omega
          exact ⟨_, _, _, 0, trivial, congrArg (fun z => some (Value.int z)) (lst_uniq (dj_end hE (by omega) hb8 hva (wok_le hW) hdj) hv), rfl⟩
        · have c20 : ¬ nl1 ≤ 0 := fun z => c20 ((nI_leI (a := nl1) (b := 0) (by omega) (by omega)).mpr z)
          refine lv_aload_n hx hb dX5_leastFirst_23 rfl (lv_at hl 1 rfl) ?_
          refine gB5_places hx hb hta hown hK hP wd_2_9 dX5_leastFirst_24 ?_
          refine z_callV (As := []) (rest := []) hx hb hml hown hta zm_X2_takeLeast wd_31_10 (c_X2_takeLeast l D y a cap clr t hom mov wm tb tf ts nw wf wt nb bw bl bi bb no od ow ol ork ob olf oco nl1 (beS ob nb no) (nI nb) pcd1 pw1 pli1 (by omega) (by omega) (fun i hi => (hdj.1.2.1 i hi).imp fun _ z => ⟨z.1, z.2.1⟩)) hN hK hP hD hS hA 5 rfl rfl rfl hl rfl (Nat.le_of_ble_eq_true rfl) ⟨Nat.le_of_ble_eq_true rfl, Nat.le_of_ble_eq_true rfl⟩ ⟨Nat.le_of_ble_eq_true rfl, Nat.le_of_ble_eq_true rfl⟩ dX5_leastFirst_27 (fun v w' H locs hq hP hD hS => ?_)
          obtain ⟨i9_2, q9_2, pli9_2, hq2, rfl, rfl⟩ := hq
          have ht := hq2
          have hq7 := ht.2.2.1
          obtain ⟨u8, n8, g8, hu1, hu2, hu3, hu4, hu5⟩ := tk_get hdj.1 ht
          have hub : u8 ≤ 200000 := by
            have h1 := hdj.2.2.2.1 _ _ hq7 hu2 hu1
            have h2 := dj_tk hdj
            omega
          have hv8 := (rn_va hE (by omega) hva hu3).1
          refine lv_istore_n (lv' := [(3, Value.int (nI q9_2)), (2, Value.int (nI tk)), (0, Value.ref (a 0)), (1, Value.int (nI j))]) hx hb dX5_leastFirst_30 rfl hl (by decide) rfl (fun ls hl => ?_)
          refine lv_aload_n hx hb dX5_leastFirst_31 rfl (lv_at hl 2 rfl) ?_
          refine lv_iload_n hx hb dX5_leastFirst_32 rfl (lv_at hl 0 rfl) ?_
          refine lv_iload_n hx hb dX5_leastFirst_33 rfl (lv_at hl 3 rfl) ?_
          refine z_callV (As := [Value.int (nI q9_2), Value.int (nI j)]) (rest := []) hx hb hml hown hta zm_X5_isClearAt wd_31_14 (c_X5_isClearAt l D y a cap clr t hom mov wm tb tf ts nw wf wt nb bw bl bi bb no od ow ol ork ob olf oco (nI (nl1 - 1)) (beS ob nb no) (nI nb) pcd1 pw1 pli9_2 q9_2 j (by omega) hq7 hj8) hN hK hP hD hS hA 0 rfl rfl rfl hl rfl (Nat.le_of_ble_eq_true rfl) ⟨Nat.le_of_ble_eq_true rfl, Nat.le_of_ble_eq_true rfl⟩ ⟨Nat.le_of_ble_eq_true rfl, Nat.le_of_ble_eq_true rfl⟩ dX5_leastFirst_34 (fun v w' H locs hq hP hD hS => ?_)
          obtain ⟨rfl, rfl⟩ := hq
          refine lv_if_eq (tgt := 50) hx hb dX5_leastFirst_37 (by decide) (fun c37 => ?_) (fun c37 => ?_)
          · have c37 := bI_0 c37
            refine lv_aload_n hx hb dX5_leastFirst_50 rfl (lv_at hl 2 rfl) ?_
            refine lv_iload_n hx hb dX5_leastFirst_51 rfl (lv_at hl 0 rfl) ?_
            refine z_callV (As := [Value.int (nI q9_2)]) (rest := []) hx hb hml hown hta zm_X5_goOnFrom wd_32_0 (c_X5_goOnFrom l D y a cap clr t hom mov wm tb tf ts nw wf wt nb bw bl bi bb no od ow ol ork ob olf oco (nl1 - 1) (beS ob nb no) (nI nb) pcd1 pw1 pli9_2 q9_2 Wf Ed (gB ob nb) n8 g8 u8 (by omega) (by omega) hE hva (tk_si hdj.1 ht) hq7 hu3 hu4 hu1 hub hW rfl hEC) hN hK hP hD hS hA 0 rfl rfl rfl hl rfl (Nat.le_of_ble_eq_true rfl) ⟨Nat.le_of_ble_eq_true rfl, Nat.le_of_ble_eq_true rfl⟩ ⟨Nat.le_of_ble_eq_true rfl, Nat.le_of_ble_eq_true rfl⟩ dX5_leastFirst_52 (fun v w' H locs hq hP hD hS => ?_)
            obtain ⟨pcd9_4, pw9_4, pli9_4, nl9_4, r9_4, hq4, rfl, rfl⟩ := hq
            have hgo := hq4
            refine lv_pop hx hb dX5_leastFirst_55 rfl ?_
            refine lv_iinc (v := nI (tk + 1)) (lv' := [(2, Value.int (nI (tk + 1))), (3, Value.int (nI q9_2)), (0, Value.ref (a 0)), (1, Value.int (nI j))]) hx hb dX5_leastFirst_56 hl (k := 1) rfl (nI_add tk 1) (by decide) rfl (fun ls hl => ?_)
            refine lv_goto (tgt := 6) hx hb dX5_leastFirst_59 (by decide) ?_
            have hl := lv_sub hl [0, 2, 3] rfl
            have hv5_hdj : DJ nb no Wf Ed (gB ob nb) (beS ob nb no) Cl (tk + 1) pcd9_4 pw9_4 pli9_4 nl9_4 := by
              exact dj_step hE (by omega) hb8 hva hCl.1 hdj ht hu3 hu4 hu1 hub (fun z => by rw [(hCl.2 _ _ _ hu4 hv8).mpr z] at c37; cases c37) hgo.1 (fun i k hi hk he => hgo.2.2 i k hi hk he)
            exact ih6 (tk + 1) pcd9_4 pw9_4 pli9_4 nl9_4 hv5_hdj (by omega) _ _ _ hP hD hS hl
          · have c37 := bI_1 c37
            refine lv_aload_n hx hb dX5_leastFirst_40 rfl (lv_at hl 2 rfl) ?_
            refine gB5_places hx hb hta hown hK hP wd_2_9 dX5_leastFirst_41 ?_
            refine gB2_weight hx hb hta hown hK hP wd_29_23 dX5_leastFirst_44 ?_
            refine lv_iload_n hx hb dX5_leastFirst_47 rfl (lv_at hl 0 rfl) ?_
            refine aB_pw hx hb hK hP q9_2 rfl (by omega) dX5_leastFirst_48 ?_
            refine z_iret hG hx hb hr hlocks hP hD hS (Nat.le_of_ble_eq_true rfl) (Nat.le_of_ble_eq_true rfl) dX5_leastFirst_49 ?_
            exact ⟨_, _, _, _, trivial, congrArg (fun z => some (Value.int z)) (lst_uniq (dj_found hE (by omega) hb8 hva (wok_le hW) hdj ht (fun g hg hvg => (hCl.2 _ _ _ hg hvg).mp c37)) hv), rfl⟩
  have eq6_0 : (0 : Int32) = nI 0 := by
    rfl
  have hl := lv_sub hl [0, 1, 2] rfl
  have hl : lv_has ls 4 [(2, Value.int (0 : Int32)), (0, Value.ref (a 0)), (1, Value.int (nI j))] := hl
  have hl : lv_has ls 4 [(2, Value.int (nI 0)), (0, Value.ref (a 0)), (1, Value.int (nI j))] := lv_as hl (congrArg (fun z => [(2, Value.int z), (0, Value.ref (a 0)), (1, Value.int (nI j))]) eq6_0)
  have hv7_hdj : DJ nb no Wf Ed (gB ob nb) (beS ob nb no) Cl 0 pcd9_1 pw9_1 pli9_1 1 := by
    exact dj_start (by omega) hva hq1
  exact LP6 (720 - 0 + 1) 0 pcd9_1 pw9_1 pli9_1 1 hv7_hdj (Nat.lt_succ_self _) _ _ _ hP hD hS hl
