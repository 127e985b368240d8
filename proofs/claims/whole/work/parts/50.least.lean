set_option maxHeartbeats 800000 in
set_option maxRecDepth 100000 in
theorem c_X5_leastClear (l : Launch) (D : va_G) (y : Nat → ClassId) (a : Nat → Nat) (cap clr : Int32) (t : Nat) (hom mov : Int32) (wm : Int64) (tb tf ts : Int32) (nw : Nat) (wf wt : Nat → Int32) (nb : Nat) (bw bl bi bb : Nat → Int32) (no : Nat) (od ow ol ork ob olf oco : Nat → Int32) (nl : Nat) (pb pm : Int32) (pcd pw pli : Nat → Int32) (j : Nat) (hb6 : nb ≤ 6) (hj8 : j < 8) (hn7 : nl ≤ 720) (hli : ∀ i, i < nl → ∃ x, x < 720 ∧ pli i = nI x ∧ ∃ u, pw x = nI u ∧ u < 1000000) : zP l D y yX5_leastClear cX5_leastClear 5 (some .int) 3 0 0 68 [Value.ref (a 0), Value.int (nI j)] (wB a y cap clr (nI t) hom mov wm tb tf ts (nI nw) wf wt (nI nb) bw bl bi bb (nI no) od ow ol ork ob olf oco (nI nl) pb pm pcd pw pli) (fun o9 w9 => ∃ (v9 : Int32), (LcR (fun x => clrC pcd pb bi nb x j) pw pli nl v9) ∧ o9 = some (Value.int v9) ∧ w9 = wB a y cap clr (nI t) hom mov wm tb tf ts (nI nw) wf wt (nI nb) bw bl bi bb (nI no) od ow ol ork ob olf oco (nI nl) pb pm pcd pw pli) := by
  refine zP.of (by decide +kernel) (Nat.le_of_ble_eq_true rfl) ?_
  intro p e s m args below meth c A ls hx hb hr hta hown hlocks hml hin hN hK hP hD hS hA hl
  refine z_gen (fun G hG => ?_)
  have hl : lv_has ls 5 [(0, Value.ref (a 0)), (1, Value.int (nI j))] := hl
  refine lv_iconst (v := (-1 : Int32)) hx hb dX5_leastClear_0 (by decide) ?_
  refine lv_istore_n (lv' := [(2, Value.int (-1 : Int32)), (0, Value.ref (a 0)), (1, Value.int (nI j))]) hx hb dX5_leastClear_1 rfl hl (by decide) rfl (fun ls hl => ?_)
  refine lv_iconst (v := (0 : Int32)) hx hb dX5_leastClear_2 (by decide) ?_
  refine lv_istore_n (lv' := [(3, Value.int (0 : Int32)), (2, Value.int (-1 : Int32)), (0, Value.ref (a 0)), (1, Value.int (nI j))]) hx hb dX5_leastClear_3 rfl hl (by decide) rfl (fun ls hl => ?_)
  have LP4 : ∀ (n : Nat) (k : Nat) (v9 : Int32), (k ≤ nl) → (LcR (fun x => clrC pcd pb bi nb x j) pw pli k v9) → nl - k < n → ∀ (H : Heap) (locs : List Loc) (ls : Array Slot), va_P D vwCl (wB a y cap clr (nI t) hom mov wm tb tf ts (nI nw) wf wt (nI nb) bw bl bi bb (nI no) od ow ol ork ob olf oco (nI nl) pb pm pcd pw pli) H → va_D A (wB a y cap clr (nI t) hom mov wm tb tf ts (nI nw) wf wt (nI nb) bw bl bi bb (nI no) od ow ol ork ob olf oco (nI nl) pb pm pcd pw pli) → va_S A s.heap H locs → lv_has ls 5 [(3, Value.int (nI k)), (2, Value.int v9), (0, Value.ref (a 0)), (1, Value.int (nI j))] → W p l e ({ frames := 3, cells := 0, slots := 0, locals := 68 } : Room) s m args below meth c H locs 0 0 G (F0 m 4 ls []) := by
    intro n
    induction n with
    | zero => intro k v9 hk hlc hn; exact absurd hn (Nat.not_lt_zero _)
    | succ n ih4 =>
      intro k v9 hk hlc hn H locs ls hP hD hS hl
      refine lv_iload_n hx hb dX5_leastClear_4 rfl (lv_at hl 0 rfl) ?_
      refine lv_sipush (v := (720 : Int32)) hx hb dX5_leastClear_5 (by decide) ?_
      refine lv_icmp_ge (tgt := 79) hx hb dX5_leastClear_8 (by decide) (fun c8 => ?_) (fun c8 => ?_)
      · have c8 : 720 ≤ k := (nI_leI (a := 720) (b := k) (by omega) (by omega)).mp c8
        refine lv_iload_n hx hb dX5_leastClear_79 rfl (lv_at hl 1 rfl) ?_
        refine z_iret hG hx hb hr hlocks hP hD hS (Nat.le_of_ble_eq_true rfl) (Nat.le_of_ble_eq_true rfl) dX5_leastClear_80 ?_
        exact ⟨v9, (by rw [show nl = k by omega]; exact hlc), rfl, rfl⟩
      · have c8 : ¬ 720 ≤ k := fun z => c8 ((nI_leI (a := 720) (b := k) (by omega) (by omega)).mpr z)
        refine lv_iload_n hx hb dX5_leastClear_11 rfl (lv_at hl 0 rfl) ?_
        refine lv_aload_n hx hb dX5_leastClear_12 rfl (lv_at hl 2 rfl) ?_
        refine gB5_places hx hb hta hown hK hP wd_2_9 dX5_leastClear_13 ?_
        refine gB2_listed hx hb hta hown hK hP wd_29_22 dX5_leastClear_16 ?_
        refine lv_icmp_ge (tgt := 79) hx hb dX5_leastClear_19 (by decide) (fun c19 => ?_) (fun c19 => ?_)
        · have c19 : nl ≤ k := (nI_leI (a := nl) (b := k) (by omega) (by omega)).mp c19
          refine lv_iload_n hx hb dX5_leastClear_79 rfl (lv_at hl 1 rfl) ?_
          refine z_iret hG hx hb hr hlocks hP hD hS (Nat.le_of_ble_eq_true rfl) (Nat.le_of_ble_eq_true rfl) dX5_leastClear_80 ?_
          exact ⟨v9, (by rw [show nl = k by omega]; exact hlc), rfl, rfl⟩
        · have c19 : ¬ nl ≤ k := fun z => c19 ((nI_leI (a := nl) (b := k) (by omega) (by omega)).mpr z)
          refine lv_aload_n hx hb dX5_leastClear_22 rfl (lv_at hl 2 rfl) ?_
          refine gB5_places hx hb hta hown hK hP wd_2_9 dX5_leastClear_23 ?_
          refine gB2_list hx hb hta hown hK hP wd_34_5 dX5_leastClear_26 ?_
          refine lv_iload_n hx hb dX5_leastClear_29 rfl (lv_at hl 0 rfl) ?_
          refine aB_pli hx hb hK hP k rfl (by omega) dX5_leastClear_30 ?_
          obtain ⟨x, hx7, ex, u8, hu1, hu2⟩ := hli k (by omega)
          refine zr_top (y := nI x) ex ?_
          refine lv_istore (lv' := [(4, Value.int (nI x)), (3, Value.int (nI k)), (2, Value.int v9), (0, Value.ref (a 0)), (1, Value.int (nI j))]) hx hb dX5_leastClear_31 hl (by decide) rfl (fun ls hl => ?_)
          refine lv_aload_n hx hb dX5_leastClear_33 rfl (lv_at hl 3 rfl) ?_
          refine lv_iload hx hb dX5_leastClear_34 (lv_at hl 0 rfl) ?_
          refine lv_iload_n hx hb dX5_leastClear_36 rfl (lv_at hl 4 rfl) ?_
          refine z_callV (As := [Value.int (nI x), Value.int (nI j)]) (rest := []) hx hb hml hown hta zm_X5_isClearAt wd_31_14 (c_X5_isClearAt l D y a cap clr t hom mov wm tb tf ts nw wf wt nb bw bl bi bb no od ow ol ork ob olf oco (nI nl) pb pm pcd pw pli x j (by omega) hx7 hj8) hN hK hP hD hS hA 0 rfl rfl rfl hl rfl (Nat.le_of_ble_eq_true rfl) ⟨Nat.le_of_ble_eq_true rfl, Nat.le_of_ble_eq_true rfl⟩ ⟨Nat.le_of_ble_eq_true rfl, Nat.le_of_ble_eq_true rfl⟩ dX5_leastClear_37 (fun v w' H locs hq hP hD hS => ?_)
          obtain ⟨rfl, rfl⟩ := hq
          refine lv_if_eq (tgt := 73) hx hb dX5_leastClear_40 (by decide) (fun c40 => ?_) (fun c40 => ?_)
          · have c40 := bI_0 c40
            refine lv_iinc (v := nI (k + 1)) (lv' := [(3, Value.int (nI (k + 1))), (4, Value.int (nI x)), (2, Value.int v9), (0, Value.ref (a 0)), (1, Value.int (nI j))]) hx hb dX5_leastClear_73 hl (k := 1) rfl (nI_add k 1) (by decide) rfl (fun ls hl => ?_)
            refine lv_goto (tgt := 4) hx hb dX5_leastClear_76 (by decide) ?_
            have hl := lv_sub hl [0, 2, 3, 4] rfl
            have hv2_hlc : LcR (fun x => clrC pcd pb bi nb x j) pw pli (k + 1) v9 := by
              first
              | exact lc_skip hlc ex hx7 c40
              | exact lc_keep hlc ex hx7 c45 c59
              | exact lc_new hlc ex hx7 c40 hu1 hu2 (Or.inl c45)
              | exact lc_new hlc ex hx7 c40 hu1 hu2 (Or.inr (Int32.not_le.mp c59))
            exact ih4 (k + 1) v9 (by omega) hv2_hlc (by omega) _ _ _ hP hD hS hl
          · have c40 := bI_1 c40
            refine lv_iload_n hx hb dX5_leastClear_43 rfl (lv_at hl 2 rfl) ?_
            refine lv_iconst (v := (-1 : Int32)) hx hb dX5_leastClear_44 (by decide) ?_
            refine lv_icmp_eq (tgt := 62) hx hb dX5_leastClear_45 (by decide) (fun c45 => ?_) (fun c45 => ?_)
            · refine lv_aload_n hx hb dX5_leastClear_62 rfl (lv_at hl 3 rfl) ?_
              refine gB5_places hx hb hta hown hK hP wd_2_9 dX5_leastClear_63 ?_
              refine gB2_weight hx hb hta hown hK hP wd_29_23 dX5_leastClear_66 ?_
              refine lv_iload hx hb dX5_leastClear_69 (lv_at hl 0 rfl) ?_
              refine aB_pw hx hb hK hP x rfl (by omega) dX5_leastClear_71 ?_
              refine lv_istore_n (lv' := [(2, Value.int (pw x)), (4, Value.int (nI x)), (3, Value.int (nI k)), (0, Value.ref (a 0)), (1, Value.int (nI j))]) hx hb dX5_leastClear_72 rfl hl (by decide) rfl (fun ls hl => ?_)
              refine lv_iinc (v := nI (k + 1)) (lv' := [(3, Value.int (nI (k + 1))), (2, Value.int (pw x)), (4, Value.int (nI x)), (0, Value.ref (a 0)), (1, Value.int (nI j))]) hx hb dX5_leastClear_73 hl (k := 2) rfl (nI_add k 1) (by decide) rfl (fun ls hl => ?_)
              refine lv_goto (tgt := 4) hx hb dX5_leastClear_76 (by decide) ?_
              have hl := lv_sub hl [0, 1, 3, 4] rfl
              have hv3_hlc : LcR (fun x => clrC pcd pb bi nb x j) pw pli (k + 1) (pw x) := by
                first
                | exact lc_skip hlc ex hx7 c40
                | exact lc_keep hlc ex hx7 c45 c59
                | exact lc_new hlc ex hx7 c40 hu1 hu2 (Or.inl c45)
                | exact lc_new hlc ex hx7 c40 hu1 hu2 (Or.inr (Int32.not_le.mp c59))
              exact ih4 (k + 1) (pw x) (by omega) hv3_hlc (by omega) _ _ _ hP hD hS hl
            · refine lv_aload_n hx hb dX5_leastClear_48 rfl (lv_at hl 3 rfl) ?_
              refine gB5_places hx hb hta hown hK hP wd_2_9 dX5_leastClear_49 ?_
              refine gB2_weight hx hb hta hown hK hP wd_29_23 dX5_leastClear_52 ?_
              refine lv_iload hx hb dX5_leastClear_55 (lv_at hl 0 rfl) ?_
              refine aB_pw hx hb hK hP x rfl (by omega) dX5_leastClear_57 ?_
              refine lv_iload_n hx hb dX5_leastClear_58 rfl (lv_at hl 2 rfl) ?_
              refine lv_icmp_ge (tgt := 73) hx hb dX5_leastClear_59 (by decide) (fun c59 => ?_) (fun c59 => ?_)
              · refine lv_iinc (v := nI (k + 1)) (lv' := [(3, Value.int (nI (k + 1))), (4, Value.int (nI x)), (2, Value.int v9), (0, Value.ref (a 0)), (1, Value.int (nI j))]) hx hb dX5_leastClear_73 hl (k := 1) rfl (nI_add k 1) (by decide) rfl (fun ls hl => ?_)
                refine lv_goto (tgt := 4) hx hb dX5_leastClear_76 (by decide) ?_
                have hl := lv_sub hl [0, 2, 3, 4] rfl
                have hv4_hlc : LcR (fun x => clrC pcd pb bi nb x j) pw pli (k + 1) v9 := by
                  first
                  | exact lc_skip hlc ex hx7 c40
                  | exact lc_keep hlc ex hx7 c45 c59
                  | exact lc_new hlc ex hx7 c40 hu1 hu2 (Or.inl c45)
                  | exact lc_new hlc ex hx7 c40 hu1 hu2 (Or.inr (Int32.not_le.mp c59))
                exact ih4 (k + 1) v9 (by omega) hv4_hlc (by omega) _ _ _ hP hD hS hl
              · refine lv_aload_n hx hb dX5_leastClear_62 rfl (lv_at hl 3 rfl) ?_
                refine gB5_places hx hb hta hown hK hP wd_2_9 dX5_leastClear_63 ?_
                refine gB2_weight hx hb hta hown hK hP wd_29_23 dX5_leastClear_66 ?_
                refine lv_iload hx hb dX5_leastClear_69 (lv_at hl 0 rfl) ?_
                refine aB_pw hx hb hK hP x rfl (by omega) dX5_leastClear_71 ?_
                refine lv_istore_n (lv' := [(2, Value.int (pw x)), (4, Value.int (nI x)), (3, Value.int (nI k)), (0, Value.ref (a 0)), (1, Value.int (nI j))]) hx hb dX5_leastClear_72 rfl hl (by decide) rfl (fun ls hl => ?_)
                refine lv_iinc (v := nI (k + 1)) (lv' := [(3, Value.int (nI (k + 1))), (2, Value.int (pw x)), (4, Value.int (nI x)), (0, Value.ref (a 0)), (1, Value.int (nI j))]) hx hb dX5_leastClear_73 hl (k := 2) rfl (nI_add k 1) (by decide) rfl (fun ls hl => ?_)
                refine lv_goto (tgt := 4) hx hb dX5_leastClear_76 (by decide) ?_
                have hl := lv_sub hl [0, 1, 3, 4] rfl
                have hv5_hlc : LcR (fun x => clrC pcd pb bi nb x j) pw pli (k + 1) (pw x) := by
                  first
                  | exact lc_skip hlc ex hx7 c40
                  | exact lc_keep hlc ex hx7 c45 c59
                  | exact lc_new hlc ex hx7 c40 hu1 hu2 (Or.inl c45)
                  | exact lc_new hlc ex hx7 c40 hu1 hu2 (Or.inr (Int32.not_le.mp c59))
                exact ih4 (k + 1) (pw x) (by omega) hv5_hlc (by omega) _ _ _ hP hD hS hl
  have eq6_0 : (0 : Int32) = nI 0 := by
    rfl
  have hl := lv_sub hl [0, 1, 2, 3] rfl
  have hl : lv_has ls 5 [(3, Value.int (0 : Int32)), (2, Value.int (-1 : Int32)), (0, Value.ref (a 0)), (1, Value.int (nI j))] := hl
  have hl : lv_has ls 5 [(3, Value.int (nI 0)), (2, Value.int (-1 : Int32)), (0, Value.ref (a 0)), (1, Value.int (nI j))] := lv_as hl (congrArg (fun z => [(3, Value.int z), (2, Value.int (-1 : Int32)), (0, Value.ref (a 0)), (1, Value.int (nI j))]) eq6_0)
  have hv7_hlc : LcR (fun x => clrC pcd pb bi nb x j) pw pli 0 (-1 : Int32) := by
    exact Or.inl ⟨rfl, fun i x hi => absurd hi (Nat.not_lt_zero _)⟩
  exact LP4 (nl - 0 + 1) 0 (-1 : Int32) (by omega) hv7_hlc (Nat.lt_succ_self _) _ _ _ hP hD hS hl
set_option maxHeartbeats 800000 in
set_option maxRecDepth 100000 in
theorem c_X5_leastOfRounds (l : Launch) (D : va_G) (y : Nat → ClassId) (a : Nat → Nat) (cap clr : Int32) (t : Nat) (hom mov : Int32) (wm : Int64) (tb tf ts : Int32) (nw : Nat) (wf wt : Nat → Int32) (nb : Nat) (bw bl bi bb : Nat → Int32) (no : Nat) (od ow ol ork ob olf oco : Nat → Int32) (pn pb pm : Int32) (pcd pw pli : Nat → Int32) (j : Nat) (Wf : Nat → Nat) (Ed : (Nat → Int32) → Nat → Nat → Prop) (Cl : (Nat → Int32) → Prop) (v : Int32) (hb8 : no ≤ 8) (hb6 : nb ≤ 6) (hj8 : j < 8) (hE : Eok nb no Ed) (hva : Va nb no (gB ob nb)) (hW : Wok no ow Wf) (hEC : EC nb no Ed (beS ob nb no) cap olf ow ol bw bl bi) (hCl : ClC nb no (beS ob nb no) bi j Cl) (hv : Lst no Wf Ed (gB ob nb) Cl v) : zP l D y yX5_leastOfRounds cX5_leastOfRounds 5 (some .int) 5 0 0 123 [Value.ref (a 0), Value.int (nI j)] (wB a y cap clr (nI t) hom mov wm tb tf ts (nI nw) wf wt (nI nb) bw bl bi bb (nI no) od ow ol ork ob olf oco pn pb pm pcd pw pli) (fun o9 w9 => ∃ (pcd9 : Nat → Int32) (pw9 : Nat → Int32) (pli9 : Nat → Int32) (nl9 : Nat), (True) ∧ o9 = some (Value.int v) ∧ w9 = wB a y cap clr (nI t) hom mov wm tb tf ts (nI nw) wf wt (nI nb) bw bl bi bb (nI no) od ow ol ork ob olf oco (nI nl9) (beS ob nb no) (nI nb) pcd9 pw9 pli9) := by
  refine zP.of (by decide +kernel) (Nat.le_of_ble_eq_true rfl) ?_
  intro p e s m args below meth c A ls hx hb hr hta hown hlocks hml hin hN hK hP hD hS hA hl
  refine z_gen (fun G hG => ?_)
  have hl : lv_has ls 5 [(0, Value.ref (a 0)), (1, Value.int (nI j))] := hl
  refine lv_aload_n hx hb dX5_leastOfRounds_0 rfl (lv_at hl 0 rfl) ?_
  refine z_callV (As := []) (rest := []) hx hb hml hown hta zm_X5_startFromNow wd_30_0 (c_X5_startFromNow l D y a cap clr t hom mov wm tb tf ts nw wf wt nb bw bl bi bb no od ow ol ork ob olf oco pn pb pm pcd pw pli (by omega) (by omega) (by omega)) hN hK hP hD hS hA 0 rfl rfl rfl hl rfl (Nat.le_of_ble_eq_true rfl) ⟨Nat.le_of_ble_eq_true rfl, Nat.le_of_ble_eq_true rfl⟩ ⟨Nat.le_of_ble_eq_true rfl, Nat.le_of_ble_eq_true rfl⟩ dX5_leastOfRounds_1 (fun v w' H locs hq hP hD hS => ?_)
  obtain ⟨pcd9_1, pw9_1, pli9_1, hq1, rfl, rfl⟩ := hq
  refine lv_iconst (v := (1 : Int32)) hx hb dX5_leastOfRounds_4 (by decide) ?_
  refine lv_istore_n (lv' := [(2, Value.int (1 : Int32)), (0, Value.ref (a 0)), (1, Value.int (nI j))]) hx hb dX5_leastOfRounds_5 rfl hl (by decide) rfl (fun ls hl => ?_)
  refine lv_iconst (v := (0 : Int32)) hx hb dX5_leastOfRounds_6 (by decide) ?_
  refine lv_istore_n (lv' := [(3, Value.int (0 : Int32)), (2, Value.int (1 : Int32)), (0, Value.ref (a 0)), (1, Value.int (nI j))]) hx hb dX5_leastOfRounds_7 rfl hl (by decide) rfl (fun ls hl => ?_)
  have LP8 : ∀ (n : Nat) (rd : Nat) (pcd1 : Nat → Int32) (pw1 : Nat → Int32) (pli1 : Nat → Int32) (nl1 : Nat) (ls1 : Bool), (rd ≤ 720) → (RJ nb no Wf Ed (gB ob nb) (beS ob nb no) rd ls1 pcd1 pw1 pli1 nl1) → 720 - rd < n → ∀ (H : Heap) (locs : List Loc) (ls : Array Slot), va_P D vwCl (wB a y cap clr (nI t) hom mov wm tb tf ts (nI nw) wf wt (nI nb) bw bl bi bb (nI no) od ow ol ork ob olf oco (nI nl1) (beS ob nb no) (nI nb) pcd1 pw1 pli1) H → va_D A (wB a y cap clr (nI t) hom mov wm tb tf ts (nI nw) wf wt (nI nb) bw bl bi bb (nI no) od ow ol ork ob olf oco (nI nl1) (beS ob nb no) (nI nb) pcd1 pw1 pli1) → va_S A s.heap H locs → lv_has ls 5 [(3, Value.int (nI rd)), (2, Value.int (bI ls1)), (0, Value.ref (a 0)), (1, Value.int (nI j))] → W p l e ({ frames := 5, cells := 0, slots := 0, locals := 123 } : Room) s m args below meth c H locs 0 0 G (F0 m 8 ls []) := by
    intro n
    induction n with
    | zero => intro rd pcd1 pw1 pli1 nl1 ls1 hrd hrj hn; exact absurd hn (Nat.not_lt_zero _)
    | succ n ih8 =>
      intro rd pcd1 pw1 pli1 nl1 ls1 hrd hrj hn H locs ls hP hD hS hl
      have hrd0 := si_nl hrj.1
      refine lv_iload_n hx hb dX5_leastOfRounds_8 rfl (lv_at hl 0 rfl) ?_
      refine lv_sipush (v := (720 : Int32)) hx hb dX5_leastOfRounds_9 (by decide) ?_
      refine lv_icmp_ge (tgt := 75) hx hb dX5_leastOfRounds_12 (by decide) (fun c12 => ?_) (fun c12 => ?_)
      · have c12 : 720 ≤ rd := (nI_leI (a := 720) (b := rd) (by omega) (by omega)).mp c12
        refine lv_aload_n hx hb dX5_leastOfRounds_75 rfl (lv_at hl 2 rfl) ?_
        refine lv_iload_n hx hb dX5_leastOfRounds_76 rfl (lv_at hl 3 rfl) ?_
        refine z_callV (As := [Value.int (nI j)]) (rest := []) hx hb hml hown hta zm_X5_leastClear wd_34_6 (c_X5_leastClear l D y a cap clr t hom mov wm tb tf ts nw wf wt nb bw bl bi bb no od ow ol ork ob olf oco nl1 (beS ob nb no) (nI nb) pcd1 pw1 pli1 j (by omega) hj8 (si_nl hrj.1) (fun i hi => by obtain ⟨x, a, b, c⟩ := hrj.1.2.1 i hi; exact ⟨x, a, b, si_u hrj.1 a c⟩)) hN hK hP hD hS hA 0 rfl rfl rfl hl rfl (Nat.le_of_ble_eq_true rfl) ⟨Nat.le_of_ble_eq_true rfl, Nat.le_of_ble_eq_true rfl⟩ ⟨Nat.le_of_ble_eq_true rfl, Nat.le_of_ble_eq_true rfl⟩ dX5_leastOfRounds_77 (fun v w' H locs hq hP hD hS => ?_)
        obtain ⟨v9_2, hq2, rfl, rfl⟩ := hq
        have hlc := hq2
        refine z_iret hG hx hb hr hlocks hP hD hS (Nat.le_of_ble_eq_true rfl) (Nat.le_of_ble_eq_true rfl) dX5_leastOfRounds_80 ?_
        exact ⟨_, _, _, _, trivial, congrArg (fun z => some (Value.int z)) (lst_uniq (lc_lst hE (by omega) hb8 hva hCl hrj.1 hrj.2.1 (rj_end hE (by omega) hva hrj (by first | exact Or.inl c12 | exact Or.inl (by omega) | exact Or.inr c16)) hlc) hv), rfl⟩
      · have c12 : ¬ 720 ≤ rd := fun z => c12 ((nI_leI (a := 720) (b := rd) (by omega) (by omega)).mpr z)
        refine lv_iload_n hx hb dX5_leastOfRounds_15 rfl (lv_at hl 1 rfl) ?_
        refine lv_if_eq (tgt := 75) hx hb dX5_leastOfRounds_16 (by decide) (fun c16 => ?_) (fun c16 => ?_)
        · have c16 := bI_0 c16
          refine lv_aload_n hx hb dX5_leastOfRounds_75 rfl (lv_at hl 2 rfl) ?_
          refine lv_iload_n hx hb dX5_leastOfRounds_76 rfl (lv_at hl 3 rfl) ?_
          refine z_callV (As := [Value.int (nI j)]) (rest := []) hx hb hml hown hta zm_X5_leastClear wd_34_6 (c_X5_leastClear l D y a cap clr t hom mov wm tb tf ts nw wf wt nb bw bl bi bb no od ow ol ork ob olf oco nl1 (beS ob nb no) (nI nb) pcd1 pw1 pli1 j (by omega) hj8 (si_nl hrj.1) (fun i hi => by obtain ⟨x, a, b, c⟩ := hrj.1.2.1 i hi; exact ⟨x, a, b, si_u hrj.1 a c⟩)) hN hK hP hD hS hA 0 rfl rfl rfl hl rfl (Nat.le_of_ble_eq_true rfl) ⟨Nat.le_of_ble_eq_true rfl, Nat.le_of_ble_eq_true rfl⟩ ⟨Nat.le_of_ble_eq_true rfl, Nat.le_of_ble_eq_true rfl⟩ dX5_leastOfRounds_77 (fun v w' H locs hq hP hD hS => ?_)
          obtain ⟨v9_3, hq3, rfl, rfl⟩ := hq
          have hlc := hq3
          refine z_iret hG hx hb hr hlocks hP hD hS (Nat.le_of_ble_eq_true rfl) (Nat.le_of_ble_eq_true rfl) dX5_leastOfRounds_80 ?_
          exact ⟨_, _, _, _, trivial, congrArg (fun z => some (Value.int z)) (lst_uniq (lc_lst hE (by omega) hb8 hva hCl hrj.1 hrj.2.1 (rj_end hE (by omega) hva hrj (by first | exact Or.inl c12 | exact Or.inl (by omega) | exact Or.inr c16)) hlc) hv), rfl⟩
        · have c16 := bI_1 c16
          refine lv_iconst (v := (0 : Int32)) hx hb dX5_leastOfRounds_19 (by decide) ?_
          refine lv_istore_n (lv' := [(2, Value.int (0 : Int32)), (3, Value.int (nI rd)), (0, Value.ref (a 0)), (1, Value.int (nI j))]) hx hb dX5_leastOfRounds_20 rfl hl (by decide) rfl (fun ls hl => ?_)
          refine lv_iconst (v := (0 : Int32)) hx hb dX5_leastOfRounds_21 (by decide) ?_
          refine lv_istore (lv' := [(4, Value.int (0 : Int32)), (2, Value.int (0 : Int32)), (3, Value.int (nI rd)), (0, Value.ref (a 0)), (1, Value.int (nI j))]) hx hb dX5_leastOfRounds_22 hl (by decide) rfl (fun ls hl => ?_)
          have LP24 : ∀ (n : Nat) (ix : Nat) (pcd2 : Nat → Int32) (pw2 : Nat → Int32) (pli2 : Nat → Int32) (nl2 : Nat) (r2 : Bool), (RI nb no Wf Ed (gB ob nb) (beS ob nb no) pcd1 pw1 pli1 nl1 ix r2 pcd2 pw2 pli2 nl2) → 720 - ix < n → ∀ (H : Heap) (locs : List Loc) (ls : Array Slot), va_P D vwCl (wB a y cap clr (nI t) hom mov wm tb tf ts (nI nw) wf wt (nI nb) bw bl bi bb (nI no) od ow ol ork ob olf oco (nI nl2) (beS ob nb no) (nI nb) pcd2 pw2 pli2) H → va_D A (wB a y cap clr (nI t) hom mov wm tb tf ts (nI nw) wf wt (nI nb) bw bl bi bb (nI no) od ow ol ork ob olf oco (nI nl2) (beS ob nb no) (nI nb) pcd2 pw2 pli2) → va_S A s.heap H locs → lv_has ls 5 [(4, Value.int (nI ix)), (2, Value.int (bI r2)), (3, Value.int (nI rd)), (0, Value.ref (a 0)), (1, Value.int (nI j))] → W p l e ({ frames := 5, cells := 0, slots := 0, locals := 123 } : Room) s m args below meth c H locs 0 0 G (F0 m 24 ls []) := by
            intro n
            induction n with
            | zero => intro ix pcd2 pw2 pli2 nl2 r2 hri hn; exact absurd hn (Nat.not_lt_zero _)
            | succ n ih24 =>
              intro ix pcd2 pw2 pli2 nl2 r2 hri hn H locs ls hP hD hS hl
              have hix := hri.2.2.2.2.1
              have hnl3 := si_nl hri.1.1
              refine lv_iload hx hb dX5_leastOfRounds_24 (lv_at hl 0 rfl) ?_
              refine lv_sipush (v := (720 : Int32)) hx hb dX5_leastOfRounds_26 (by decide) ?_
              refine lv_icmp_ge (tgt := 69) hx hb dX5_leastOfRounds_29 (by decide) (fun c29 => ?_) (fun c29 => ?_)
              · have c29 : 720 ≤ ix := (nI_leI (a := 720) (b := ix) (by omega) (by omega)).mp c29
                refine lv_iinc (v := nI (rd + 1)) (lv' := [(3, Value.int (nI (rd + 1))), (4, Value.int (nI ix)), (2, Value.int (bI r2)), (0, Value.ref (a 0)), (1, Value.int (nI j))]) hx hb dX5_leastOfRounds_69 hl (k := 2) rfl (nI_add rd 1) (by decide) rfl (fun ls hl => ?_)
                refine lv_goto (tgt := 8) hx hb dX5_leastOfRounds_72 (by decide) ?_
                have hl := lv_sub hl [0, 2, 3, 4] rfl
                have hv4_hrj : RJ nb no Wf Ed (gB ob nb) (beS ob nb no) (rd + 1) r2 pcd2 pw2 pli2 nl2 := by
                  exact ri_end hE (by omega) hb8 hva (fun i hi => (hW i hi).2) hrj hri (by first | omega | (have := si_nl hri.1.1; omega))
                exact ih8 (rd + 1) pcd2 pw2 pli2 nl2 r2 (by omega) hv4_hrj (by omega) _ _ _ hP hD hS hl
              · have c29 : ¬ 720 ≤ ix := fun z => c29 ((nI_leI (a := 720) (b := ix) (by omega) (by omega)).mpr z)
                refine lv_iload hx hb dX5_leastOfRounds_32 (lv_at hl 0 rfl) ?_
                refine lv_aload_n hx hb dX5_leastOfRounds_34 rfl (lv_at hl 3 rfl) ?_
                refine gB5_places hx hb hta hown hK hP wd_2_9 dX5_leastOfRounds_35 ?_
                refine gB2_listed hx hb hta hown hK hP wd_29_22 dX5_leastOfRounds_38 ?_
                refine lv_icmp_ge (tgt := 69) hx hb dX5_leastOfRounds_41 (by decide) (fun c41 => ?_) (fun c41 => ?_)
                · have c41 : nl2 ≤ ix := (nI_leI (a := nl2) (b := ix) (by omega) (by omega)).mp c41
                  refine lv_iinc (v := nI (rd + 1)) (lv' := [(3, Value.int (nI (rd + 1))), (4, Value.int (nI ix)), (2, Value.int (bI r2)), (0, Value.ref (a 0)), (1, Value.int (nI j))]) hx hb dX5_leastOfRounds_69 hl (k := 2) rfl (nI_add rd 1) (by decide) rfl (fun ls hl => ?_)
                  refine lv_goto (tgt := 8) hx hb dX5_leastOfRounds_72 (by decide) ?_
                  have hl := lv_sub hl [0, 2, 3, 4] rfl
                  have hv5_hrj : RJ nb no Wf Ed (gB ob nb) (beS ob nb no) (rd + 1) r2 pcd2 pw2 pli2 nl2 := by
                    exact ri_end hE (by omega) hb8 hva (fun i hi => (hW i hi).2) hrj hri (by first | omega | (have := si_nl hri.1.1; omega))
                  exact ih8 (rd + 1) pcd2 pw2 pli2 nl2 r2 (by omega) hv5_hrj (by omega) _ _ _ hP hD hS hl
                · have c41 : ¬ nl2 ≤ ix := fun z => c41 ((nI_leI (a := nl2) (b := ix) (by omega) (by omega)).mpr z)
                  refine lv_aload_n hx hb dX5_leastOfRounds_44 rfl (lv_at hl 3 rfl) ?_
                  refine lv_aload_n hx hb dX5_leastOfRounds_45 rfl (lv_at hl 3 rfl) ?_
                  refine gB5_places hx hb hta hown hK hP wd_2_9 dX5_leastOfRounds_46 ?_
                  refine gB2_list hx hb hta hown hK hP wd_34_5 dX5_leastOfRounds_49 ?_
                  refine lv_iload hx hb dX5_leastOfRounds_52 (lv_at hl 0 rfl) ?_
                  refine aB_pli hx hb hK hP ix rfl (by omega) dX5_leastOfRounds_54 ?_
                  have hnl2 := si_nl hri.1.1
                  obtain ⟨x, hx7, ex, hxn⟩ := hri.1.1.2.1 ix (by omega)
                  obtain ⟨u8, n8, g8, hu1, hu2, hu3, hu4, hu5⟩ := (hri.1.1.1 x hx7).resolve_left hxn
                  have hub : u8 ≤ 200000 := by have := iw_le hri.1.1 hri.2.2.1 hri.2.2.2.1 hx7 hu2 hu1; omega
                  refine zr_top (y := nI x) ex ?_
                  refine z_callV (As := [Value.int (nI x)]) (rest := []) hx hb hml hown hta zm_X5_goOnFrom wd_32_0 (c_X5_goOnFrom l D y a cap clr t hom mov wm tb tf ts nw wf wt nb bw bl bi bb no od ow ol ork ob olf oco nl2 (beS ob nb no) (nI nb) pcd2 pw2 pli2 x Wf Ed (gB ob nb) n8 g8 u8 (by omega) (by omega) hE hva hri.1.1 hx7 hu3 hu4 hu1 hub hW rfl hEC) hN hK hP hD hS hA 0 rfl rfl rfl hl rfl (Nat.le_of_ble_eq_true rfl) ⟨Nat.le_of_ble_eq_true rfl, Nat.le_of_ble_eq_true rfl⟩ ⟨Nat.le_of_ble_eq_true rfl, Nat.le_of_ble_eq_true rfl⟩ dX5_leastOfRounds_55 (fun v w' H locs hq hP hD hS => ?_)
                  obtain ⟨pcd9_6, pw9_6, pli9_6, nl9_6, r9_6, hq6, rfl, rfl⟩ := hq
                  have hgo := hq6
                  refine lv_if_eq (tgt := 63) hx hb dX5_leastOfRounds_58 (by decide) (fun c58 => ?_) (fun c58 => ?_)
                  · have c58 := bI_0 c58
                    refine lv_iinc (v := nI (ix + 1)) (lv' := [(4, Value.int (nI (ix + 1))), (2, Value.int (bI r2)), (3, Value.int (nI rd)), (0, Value.ref (a 0)), (1, Value.int (nI j))]) hx hb dX5_leastOfRounds_63 hl (k := 0) rfl (nI_add ix 1) (by decide) rfl (fun ls hl => ?_)
                    refine lv_goto (tgt := 24) hx hb dX5_leastOfRounds_66 (by decide) ?_
                    have hl := lv_sub hl [0, 1, 2, 3, 4] rfl
                    have hv7_hri : RI nb no Wf Ed (gB ob nb) (beS ob nb no) pcd1 pw1 pli1 nl1 (ix + 1) r2 pcd9_6 pw9_6 pli9_6 nl9_6 := by
                      exact ri_step hE (by omega) hb8 (wok_le hW) hri (by omega) ex hx7 hu1 hu2 hu3 hu4 hgo.1 hgo.2.1 (fun i k hi hk he => hgo.2.2 i k hi hk he) _ (fun z => by first | exact ⟨z, c58⟩ | cases z)
                    exact ih24 (ix + 1) pcd9_6 pw9_6 pli9_6 nl9_6 r2 hv7_hri (by omega) _ _ _ hP hD hS hl
                  · have c58 := bI_1 c58
                    refine lv_iconst (v := (1 : Int32)) hx hb dX5_leastOfRounds_61 (by decide) ?_
                    refine lv_istore_n (lv' := [(2, Value.int (1 : Int32)), (4, Value.int (nI ix)), (3, Value.int (nI rd)), (0, Value.ref (a 0)), (1, Value.int (nI j))]) hx hb dX5_leastOfRounds_62 rfl hl (by decide) rfl (fun ls hl => ?_)
                    refine lv_iinc (v := nI (ix + 1)) (lv' := [(4, Value.int (nI (ix + 1))), (2, Value.int (1 : Int32)), (3, Value.int (nI rd)), (0, Value.ref (a 0)), (1, Value.int (nI j))]) hx hb dX5_leastOfRounds_63 hl (k := 1) rfl (nI_add ix 1) (by decide) rfl (fun ls hl => ?_)
                    refine lv_goto (tgt := 24) hx hb dX5_leastOfRounds_66 (by decide) ?_
                    have eq8_0 : (1 : Int32) = bI true := by
                      rfl
                    have hl := lv_sub hl [0, 1, 2, 3, 4] rfl
                    have hl : lv_has ls 5 [(4, Value.int (nI (ix + 1))), (2, Value.int (1 : Int32)), (3, Value.int (nI rd)), (0, Value.ref (a 0)), (1, Value.int (nI j))] := hl
                    have hl : lv_has ls 5 [(4, Value.int (nI (ix + 1))), (2, Value.int (bI true)), (3, Value.int (nI rd)), (0, Value.ref (a 0)), (1, Value.int (nI j))] := lv_as hl (congrArg (fun z => [(4, Value.int (nI (ix + 1))), (2, Value.int z), (3, Value.int (nI rd)), (0, Value.ref (a 0)), (1, Value.int (nI j))]) eq8_0)
                    have hv9_hri : RI nb no Wf Ed (gB ob nb) (beS ob nb no) pcd1 pw1 pli1 nl1 (ix + 1) true pcd9_6 pw9_6 pli9_6 nl9_6 := by
                      exact ri_step hE (by omega) hb8 (wok_le hW) hri (by omega) ex hx7 hu1 hu2 hu3 hu4 hgo.1 hgo.2.1 (fun i k hi hk he => hgo.2.2 i k hi hk he) _ (fun z => by first | exact ⟨z, c58⟩ | cases z)
                    exact ih24 (ix + 1) pcd9_6 pw9_6 pli9_6 nl9_6 true hv9_hri (by omega) _ _ _ hP hD hS hl
          have eq10_0 : (0 : Int32) = nI 0 := by
            rfl
          have eq11_1 : (0 : Int32) = bI false := by
            rfl
          have hl := lv_sub hl [0, 1, 2, 3, 4] rfl
          have hl : lv_has ls 5 [(4, Value.int (0 : Int32)), (2, Value.int (0 : Int32)), (3, Value.int (nI rd)), (0, Value.ref (a 0)), (1, Value.int (nI j))] := hl
          have hl : lv_has ls 5 [(4, Value.int (nI 0)), (2, Value.int (0 : Int32)), (3, Value.int (nI rd)), (0, Value.ref (a 0)), (1, Value.int (nI j))] := lv_as hl (congrArg (fun z => [(4, Value.int z), (2, Value.int (0 : Int32)), (3, Value.int (nI rd)), (0, Value.ref (a 0)), (1, Value.int (nI j))]) eq10_0)
          have hl : lv_has ls 5 [(4, Value.int (nI 0)), (2, Value.int (bI false)), (3, Value.int (nI rd)), (0, Value.ref (a 0)), (1, Value.int (nI j))] := lv_as hl (congrArg (fun z => [(4, Value.int (nI 0)), (2, Value.int z), (3, Value.int (nI rd)), (0, Value.ref (a 0)), (1, Value.int (nI j))]) eq11_1)
          have hv12_hri : RI nb no Wf Ed (gB ob nb) (beS ob nb no) pcd1 pw1 pli1 nl1 0 false pcd1 pw1 pli1 nl1 := by
            exact ri_start hrj.1 hrj.2.1 hrj.2.2.1
          exact LP24 (720 - 0 + 1) 0 pcd1 pw1 pli1 nl1 false hv12_hri (Nat.lt_succ_self _) _ _ _ hP hD hS hl
  have eq13_0 : (0 : Int32) = nI 0 := by
    rfl
  have eq14_1 : (1 : Int32) = bI true := by
    rfl
  have hl := lv_sub hl [0, 1, 2, 3] rfl
  have hl : lv_has ls 5 [(3, Value.int (0 : Int32)), (2, Value.int (1 : Int32)), (0, Value.ref (a 0)), (1, Value.int (nI j))] := hl
  have hl : lv_has ls 5 [(3, Value.int (nI 0)), (2, Value.int (1 : Int32)), (0, Value.ref (a 0)), (1, Value.int (nI j))] := lv_as hl (congrArg (fun z => [(3, Value.int z), (2, Value.int (1 : Int32)), (0, Value.ref (a 0)), (1, Value.int (nI j))]) eq13_0)
  have hl : lv_has ls 5 [(3, Value.int (nI 0)), (2, Value.int (bI true)), (0, Value.ref (a 0)), (1, Value.int (nI j))] := lv_as hl (congrArg (fun z => [(3, Value.int (nI 0)), (2, Value.int z), (0, Value.ref (a 0)), (1, Value.int (nI j))]) eq14_1)
  have hv15_hrj : RJ nb no Wf Ed (gB ob nb) (beS ob nb no) 0 true pcd9_1 pw9_1 pli9_1 1 := by
    exact rj_start (by omega) hva hq1
  exact LP8 (720 - 0 + 1) 0 pcd9_1 pw9_1 pli9_1 1 true (by omega) hv15_hrj (Nat.lt_succ_self _) _ _ _ hP hD hS hl
