set_option maxHeartbeats 1600000 in
set_option maxRecDepth 100000 in
theorem lc_8 {p : Program} {l : Launch} {e : Env} {s : State} {m : MethodId} {below : List Frame} {meth : Method} {c : Code} {D : va_G} {y : Nat → ClassId} {b L : Nat} {xs : Nat → Int32} {a a' : Nat → Nat} {o1 o2 kq cells slots : Nat} {G : State → Prop} (hlt : l.stackTraces = false) (C0 : LC p s m meth c b L xs D y) (hk : 5 * kq + 5 ≤ L) (hL : L ≤ 2560) (hc : cells + 3 ≤ 3144 ∧ slots + 18 ≤ 125590) (kk : LawK p l e s m below meth c D y b a a' o1 o2 kq (cells + 3) (slots + 18) 2118 G) : LawK p l e s m below meth c D y b a a' o1 o2 kq cells slots 712 G := by
  intro cap clr t hom mov wm tb tf ts nw wf wt nb bw bl bi bb no od ow ol ork ob olf oco pn pb pm pcd pw pli mth fr at_ aw mp mpl msh msl mwa mse v0 d0 H locs ls hR hP hD hS hl
  have C1 := C0
  obtain ⟨hx, hb, hr, hml, hown, hta, hX, hbl, hlocks, hN, hH, hK⟩ := C1
  have hA : ∀ q, s.heap.size ≤ q → lwA s q := fun _ h => h
  have hb8 := hR.1.2.2.2
  have hb6 := hR.1.2.2.1
  have hw := hR.1.2.1
  have ht := hR.1.1
  have hsp := hR.2.1
  have hol := hR.2.2.1
  have hfr := fr_hfr (rel_fr hR)
  have hat := (rel_va hR).1
  refine lv_aload_n hx hb dL_law_712 rfl (lv_at hl 1 rfl) ?_
  refine z_arg (i := 1) C0 (by omega) hL hS (lv_at hl 0 rfl) (lv_at hl 5 rfl) (by decide) dL_law_713 dL_law_714 dL_law_716 dL_law_717 dL_law_718 ?_
  refine z_arg (i := 2) C0 (by omega) hL hS (lv_at hl 0 rfl) (lv_at hl 5 rfl) (by decide) dL_law_719 dL_law_720 dL_law_722 dL_law_723 dL_law_724 ?_
  refine lv_aload_n hx hb dL_law_725 rfl (lv_at hl 3 rfl) ?_
  refine z_callWr (wa := wM a' y mth (nI t) tb tf ts cap clr mov hom wm (nI nw) wf wt (nI nb) fr bw bl (nI no) od ow ol ork olf oco at_ aw mp mpl msh msl mwa mse) (w1 := wB a y cap clr (nI t) hom mov wm tb tf ts (nI nw) wf wt (nI nb) bw bl bi bb (nI no) od ow ol ork ob olf oco pn pb pm pcd pw pli ++ oL y o1 v0) (wb := oD y o2 d0) (As := [Value.ref (a 0), Value.int (xs (5 * kq + 1)), Value.int (xs (5 * kq + 2)), Value.ref o1]) (rest := []) hx hb hml hown hta zw_floodHours wd_12_22 (c_L_floodHours l hlt D y a cap clr t hom mov wm tb tf ts nw wf wt nb bw bl bi bb no od ow ol ork ob olf oco pn pb pm pcd pw pli (xs (5 * kq + 1)) (xs (5 * kq + 2)) hb8 ht o1 v0) hH hN hK hP hD hS hA rfl hl rfl (Nat.le_of_ble_eq_true rfl) ⟨Nat.le_of_ble_eq_true rfl, Nat.le_of_ble_eq_true rfl⟩ ⟨by show cells + 2 ≤ 3144; omega, by show slots + 12 ≤ 125590; omega⟩ dL_law_726 (fun v w' H locs hq hP hD hS => ?_)
  rcases hq with ⟨hc1, v1, hv1, rfl, rfl⟩ | ⟨hc1, rfl, rfl⟩
  · refine lv_istore (lv' := [(6, Value.int 0), (0, Value.ref b), (1, Value.ref (a 0)), (2, Value.ref (a' 0)), (3, Value.ref o1), (4, Value.ref o2), (5, Value.int (nI (5 * kq)))]) hx hb dL_law_729 hl (by decide) rfl (fun ls hl => ?_)
    refine lv_aload_n hx hb dL_law_731 rfl (lv_at hl 3 rfl) ?_
    refine z_arg (i := 1) C0 (by omega) hL hS (lv_at hl 1 rfl) (lv_at hl 6 rfl) (by decide) dL_law_732 dL_law_733 dL_law_735 dL_law_736 dL_law_737 ?_
    refine z_arg (i := 2) C0 (by omega) hL hS (lv_at hl 1 rfl) (lv_at hl 6 rfl) (by decide) dL_law_738 dL_law_739 dL_law_741 dL_law_742 dL_law_743 ?_
    refine z_callVF (wa := []) (w1 := wM a' y mth (nI t) tb tf ts cap clr mov hom wm (nI nw) wf wt (nI nb) fr bw bl (nI no) od ow ol ork olf oco at_ aw mp mpl msh msl mwa mse) (wb := (wB a y cap clr (nI t) hom mov wm tb tf ts (nI nw) wf wt (nI nb) bw bl bi bb (nI no) od ow ol ork ob olf oco pn pb pm pcd pw pli ++ oL y o1 v1) ++ oD y o2 d0) (As := [Value.int (xs (5 * kq + 1)), Value.int (xs (5 * kq + 2))]) (rest := []) hx hb hml hown hta zm_X6_floodHours wd_14_2 (c_X6_floodHours l D y a' mth t tb tf ts cap clr mov hom wm nw wf wt nb fr bw bl no od ow ol ork olf oco at_ aw mp mpl msh msl mwa mse (xs (5 * kq + 1)) (xs (5 * kq + 2)) hb8 ht) hN hK hP hD hS hA 0 rfl rfl rfl hl rfl (Nat.le_of_ble_eq_true rfl) ⟨Nat.le_of_ble_eq_true rfl, Nat.le_of_ble_eq_true rfl⟩ ⟨by show cells + 2 + 0 ≤ 3144; omega, by show slots + 12 + 0 ≤ 125590; omega⟩ dL_law_744 (fun v w' H locs hq hP hD hS => ?_)
    rcases hq with ⟨hm, rfl, rfl⟩ | ⟨hm, r9, rfl, rfl⟩
    · have hP := z_nil hP
      have hD := z_nilD hD
      obtain ⟨bv, hbv⟩ : ∃ z : Int32, z = nI (fb_ct (fun k => enW tb tf ts clr od (nN (xs (5 * kq + 1))) (nI (t + k))) (nN (xs (5 * kq + 2)))) := ⟨_, rfl⟩
      refine zr_top (y := bv) hbv.symm ?_
      refine lv_istore (lv' := [(7, Value.int bv), (6, Value.int 0), (0, Value.ref b), (1, Value.ref (a 0)), (2, Value.ref (a' 0)), (3, Value.ref o1), (4, Value.ref o2), (5, Value.int (nI (5 * kq)))]) hx hb dL_law_747 hl (by decide) rfl (fun ls hl => ?_)
      refine z_tail (P := 749) C0 (c_X6_thrown l D y a' (0 : Int32) t tb tf ts cap clr mov hom wm nw wf wt nb fr bw bl no od ow ol ork olf oco at_ aw mp mpl msh msl mwa mse) rfl hP hD hS hl (lv_at hl 4 rfl) (lv_at hl 1 rfl) (lv_at hl 5 rfl) (lv_at hl 0 rfl) (rfl) (fun _ => hv1.trans (congrArg Int32.toInt64 (hbv.symm))) ⟨by show cells + 2 + 0 ≤ 3144; omega, by show slots + 12 + 0 ≤ 125590; omega⟩ dL_law_749 dL_law_750 dL_law_753 dL_law_755 dL_law_760 dL_law_762 dL_law_765 dL_law_766 dL_law_767 dL_law_768 dL_law_770 dL_law_771 dL_law_772 dL_law_777 (by decide) (fun H locs hP hD hS => ?_)
      refine W.widen (k := cells + 3) (n := slots + 18) (by omega) (by omega) ?_
      exact kk cap clr t hom mov wm tb tf ts nw wf wt nb bw bl bi bb no od ow ol ork ob olf oco pn pb pm pcd pw pli (0 : Int32) fr at_ aw mp mpl msh msl mwa mse _ _ _ _ _ (hR) hP hD hS (lv_sub hl [2, 3, 4, 5, 6, 7] rfl)
    · exact absurd (hc1) hm
  · refine lv_istore (lv' := [(6, Value.int (nI (fhC no (xs (5 * kq + 1)) (xs (5 * kq + 2))))), (0, Value.ref b), (1, Value.ref (a 0)), (2, Value.ref (a' 0)), (3, Value.ref o1), (4, Value.ref o2), (5, Value.int (nI (5 * kq)))]) hx hb dL_law_729 hl (by decide) rfl (fun ls hl => ?_)
    refine lv_aload_n hx hb dL_law_731 rfl (lv_at hl 3 rfl) ?_
    refine z_arg (i := 1) C0 (by omega) hL hS (lv_at hl 1 rfl) (lv_at hl 6 rfl) (by decide) dL_law_732 dL_law_733 dL_law_735 dL_law_736 dL_law_737 ?_
    refine z_arg (i := 2) C0 (by omega) hL hS (lv_at hl 1 rfl) (lv_at hl 6 rfl) (by decide) dL_law_738 dL_law_739 dL_law_741 dL_law_742 dL_law_743 ?_
    refine z_callVF (wa := []) (w1 := wM a' y mth (nI t) tb tf ts cap clr mov hom wm (nI nw) wf wt (nI nb) fr bw bl (nI no) od ow ol ork olf oco at_ aw mp mpl msh msl mwa mse) (wb := (wB a y cap clr (nI t) hom mov wm tb tf ts (nI nw) wf wt (nI nb) bw bl bi bb (nI no) od ow ol ork ob olf oco pn pb pm pcd pw pli ++ oL y o1 v0) ++ oD y o2 d0) (As := [Value.int (xs (5 * kq + 1)), Value.int (xs (5 * kq + 2))]) (rest := []) hx hb hml hown hta zm_X6_floodHours wd_14_2 (c_X6_floodHours l D y a' mth t tb tf ts cap clr mov hom wm nw wf wt nb fr bw bl no od ow ol ork olf oco at_ aw mp mpl msh msl mwa mse (xs (5 * kq + 1)) (xs (5 * kq + 2)) hb8 ht) hN hK hP hD hS hA 0 rfl rfl rfl hl rfl (Nat.le_of_ble_eq_true rfl) ⟨Nat.le_of_ble_eq_true rfl, Nat.le_of_ble_eq_true rfl⟩ ⟨by show cells + 2 + 0 ≤ 3144; omega, by show slots + 12 + 0 ≤ 125590; omega⟩ dL_law_744 (fun v w' H locs hq hP hD hS => ?_)
    rcases hq with ⟨hm, rfl, rfl⟩ | ⟨hm, r9, rfl, rfl⟩
    · exact absurd (hm) hc1
    · have hP := z_nil hP
      have hD := z_nilD hD
      refine lv_istore (lv' := [(7, Value.int r9), (6, Value.int (nI (fhC no (xs (5 * kq + 1)) (xs (5 * kq + 2))))), (0, Value.ref b), (1, Value.ref (a 0)), (2, Value.ref (a' 0)), (3, Value.ref o1), (4, Value.ref o2), (5, Value.int (nI (5 * kq)))]) hx hb dL_law_747 hl (by decide) rfl (fun ls hl => ?_)
      refine z_tail (P := 749) C0 (c_X6_thrown l D y a' (nI (fhC no (xs (5 * kq + 1)) (xs (5 * kq + 2)))) t tb tf ts cap clr mov hom wm nw wf wt nb fr bw bl no od ow ol ork olf oco at_ aw mp mpl msh msl mwa mse) rfl hP hD hS hl (lv_at hl 4 rfl) (lv_at hl 1 rfl) (lv_at hl 5 rfl) (lv_at hl 0 rfl) (rfl) (fun z => absurd z (nI_n0 hc1 c4_fhC)) ⟨by show cells + 2 + 0 ≤ 3144; omega, by show slots + 12 + 0 ≤ 125590; omega⟩ dL_law_749 dL_law_750 dL_law_753 dL_law_755 dL_law_760 dL_law_762 dL_law_765 dL_law_766 dL_law_767 dL_law_768 dL_law_770 dL_law_771 dL_law_772 dL_law_777 (by decide) (fun H locs hP hD hS => ?_)
      refine W.widen (k := cells + 3) (n := slots + 18) (by omega) (by omega) ?_
      exact kk cap clr t hom mov wm tb tf ts nw wf wt nb bw bl bi bb no od ow ol ork ob olf oco pn pb pm pcd pw pli (nI (fhC no (xs (5 * kq + 1)) (xs (5 * kq + 2)))) fr at_ aw mp mpl msh msl mwa mse _ _ _ _ _ (hR) hP hD hS (lv_sub hl [2, 3, 4, 5, 6, 7] rfl)
set_option maxHeartbeats 1600000 in
set_option maxRecDepth 100000 in
theorem lc_9 {p : Program} {l : Launch} {e : Env} {s : State} {m : MethodId} {below : List Frame} {meth : Method} {c : Code} {D : va_G} {y : Nat → ClassId} {b L : Nat} {xs : Nat → Int32} {a a' : Nat → Nat} {o1 o2 kq cells slots : Nat} {G : State → Prop} (hlt : l.stackTraces = false) (C0 : LC p s m meth c b L xs D y) (hk : 5 * kq + 5 ≤ L) (hL : L ≤ 2560) (hc : cells + 3 ≤ 3144 ∧ slots + 18 ≤ 125590) (kk : LawK p l e s m below meth c D y b a a' o1 o2 kq (cells + 3) (slots + 18) 2118 G) : LawK p l e s m below meth c D y b a a' o1 o2 kq cells slots 780 G := by
  intro cap clr t hom mov wm tb tf ts nw wf wt nb bw bl bi bb no od ow ol ork ob olf oco pn pb pm pcd pw pli mth fr at_ aw mp mpl msh msl mwa mse v0 d0 H locs ls hR hP hD hS hl
  have C1 := C0
  obtain ⟨hx, hb, hr, hml, hown, hta, hX, hbl, hlocks, hN, hH, hK⟩ := C1
  have hA : ∀ q, s.heap.size ≤ q → lwA s q := fun _ h => h
  have hb8 := hR.1.2.2.2
  have hb6 := hR.1.2.2.1
  have hw := hR.1.2.1
  have ht := hR.1.1
  have hsp := hR.2.1
  have hol := hR.2.2.1
  have hfr := fr_hfr (rel_fr hR)
  have hat := (rel_va hR).1
  refine lv_aload_n hx hb dL_law_780 rfl (lv_at hl 1 rfl) ?_
  refine z_arg (i := 1) C0 (by omega) hL hS (lv_at hl 0 rfl) (lv_at hl 5 rfl) (by decide) dL_law_781 dL_law_782 dL_law_784 dL_law_785 dL_law_786 ?_
  refine z_arg (i := 2) C0 (by omega) hL hS (lv_at hl 0 rfl) (lv_at hl 5 rfl) (by decide) dL_law_787 dL_law_788 dL_law_790 dL_law_791 dL_law_792 ?_
  refine lv_aload_n hx hb dL_law_793 rfl (lv_at hl 3 rfl) ?_
  refine z_callWr (wa := wM a' y mth (nI t) tb tf ts cap clr mov hom wm (nI nw) wf wt (nI nb) fr bw bl (nI no) od ow ol ork olf oco at_ aw mp mpl msh msl mwa mse) (w1 := wB a y cap clr (nI t) hom mov wm tb tf ts (nI nw) wf wt (nI nb) bw bl bi bb (nI no) od ow ol ork ob olf oco pn pb pm pcd pw pli ++ oL y o1 v0) (wb := oD y o2 d0) (As := [Value.ref (a 0), Value.int (xs (5 * kq + 1)), Value.int (xs (5 * kq + 2)), Value.ref o1]) (rest := []) hx hb hml hown hta zw_floodByHours wd_14_18 (c_L_floodByHours l hlt D y a cap clr t hom mov wm tb tf ts nw wf wt nb bw bl bi bb no od ow ol ork ob olf oco pn pb pm pcd pw pli (xs (5 * kq + 1)) (xs (5 * kq + 2)) hb8 ht o1 v0) hH hN hK hP hD hS hA rfl hl rfl (Nat.le_of_ble_eq_true rfl) ⟨Nat.le_of_ble_eq_true rfl, Nat.le_of_ble_eq_true rfl⟩ ⟨by show cells + 2 ≤ 3144; omega, by show slots + 12 ≤ 125590; omega⟩ dL_law_794 (fun v w' H locs hq hP hD hS => ?_)
  rcases hq with ⟨hc1, v1, hv1, rfl, rfl⟩ | ⟨hc1, rfl, rfl⟩
  · refine lv_istore (lv' := [(6, Value.int 0), (0, Value.ref b), (1, Value.ref (a 0)), (2, Value.ref (a' 0)), (3, Value.ref o1), (4, Value.ref o2), (5, Value.int (nI (5 * kq)))]) hx hb dL_law_797 hl (by decide) rfl (fun ls hl => ?_)
    refine lv_aload_n hx hb dL_law_799 rfl (lv_at hl 3 rfl) ?_
    refine z_arg (i := 1) C0 (by omega) hL hS (lv_at hl 1 rfl) (lv_at hl 6 rfl) (by decide) dL_law_800 dL_law_801 dL_law_803 dL_law_804 dL_law_805 ?_
    refine z_arg (i := 2) C0 (by omega) hL hS (lv_at hl 1 rfl) (lv_at hl 6 rfl) (by decide) dL_law_806 dL_law_807 dL_law_809 dL_law_810 dL_law_811 ?_
    refine z_callVF (wa := []) (w1 := wM a' y mth (nI t) tb tf ts cap clr mov hom wm (nI nw) wf wt (nI nb) fr bw bl (nI no) od ow ol ork olf oco at_ aw mp mpl msh msl mwa mse) (wb := (wB a y cap clr (nI t) hom mov wm tb tf ts (nI nw) wf wt (nI nb) bw bl bi bb (nI no) od ow ol ork ob olf oco pn pb pm pcd pw pli ++ oL y o1 v1) ++ oD y o2 d0) (As := [Value.int (xs (5 * kq + 1)), Value.int (xs (5 * kq + 2))]) (rest := []) hx hb hml hown hta zm_X6_floodByHours wd_15_1 (c_X6_floodByHours l D y a' mth t tb tf ts cap clr mov hom wm nw wf wt nb fr bw bl no od ow ol ork olf oco at_ aw mp mpl msh msl mwa mse (xs (5 * kq + 1)) (xs (5 * kq + 2)) hb8 ht) hN hK hP hD hS hA 0 rfl rfl rfl hl rfl (Nat.le_of_ble_eq_true rfl) ⟨Nat.le_of_ble_eq_true rfl, Nat.le_of_ble_eq_true rfl⟩ ⟨by show cells + 2 + 0 ≤ 3144; omega, by show slots + 12 + 0 ≤ 125590; omega⟩ dL_law_812 (fun v w' H locs hq hP hD hS => ?_)
    rcases hq with ⟨hm, rfl, rfl⟩ | ⟨hm, r9, rfl, rfl⟩
    · have hP := z_nil hP
      have hD := z_nilD hD
      obtain ⟨bv, hbv⟩ : ∃ z : Int32, z = nI (fb_ct (fun k => enW tb tf ts clr od (nN (xs (5 * kq + 1))) (nI (t + k))) (nN (xs (5 * kq + 2)))) := ⟨_, rfl⟩
      refine zr_top (y := bv) hbv.symm ?_
      refine lv_istore (lv' := [(7, Value.int bv), (6, Value.int 0), (0, Value.ref b), (1, Value.ref (a 0)), (2, Value.ref (a' 0)), (3, Value.ref o1), (4, Value.ref o2), (5, Value.int (nI (5 * kq)))]) hx hb dL_law_815 hl (by decide) rfl (fun ls hl => ?_)
      refine z_tail (P := 817) C0 (c_X6_thrown l D y a' (0 : Int32) t tb tf ts cap clr mov hom wm nw wf wt nb fr bw bl no od ow ol ork olf oco at_ aw mp mpl msh msl mwa mse) rfl hP hD hS hl (lv_at hl 4 rfl) (lv_at hl 1 rfl) (lv_at hl 5 rfl) (lv_at hl 0 rfl) (rfl) (fun _ => hv1.trans (congrArg Int32.toInt64 (hbv.symm))) ⟨by show cells + 2 + 0 ≤ 3144; omega, by show slots + 12 + 0 ≤ 125590; omega⟩ dL_law_817 dL_law_818 dL_law_821 dL_law_823 dL_law_828 dL_law_830 dL_law_833 dL_law_834 dL_law_835 dL_law_836 dL_law_838 dL_law_839 dL_law_840 dL_law_845 (by decide) (fun H locs hP hD hS => ?_)
      refine W.widen (k := cells + 3) (n := slots + 18) (by omega) (by omega) ?_
      exact kk cap clr t hom mov wm tb tf ts nw wf wt nb bw bl bi bb no od ow ol ork ob olf oco pn pb pm pcd pw pli (0 : Int32) fr at_ aw mp mpl msh msl mwa mse _ _ _ _ _ (hR) hP hD hS (lv_sub hl [2, 3, 4, 5, 6, 7] rfl)
    · exact absurd (hc1) hm
  · refine lv_istore (lv' := [(6, Value.int (nI (fhC no (xs (5 * kq + 1)) (xs (5 * kq + 2))))), (0, Value.ref b), (1, Value.ref (a 0)), (2, Value.ref (a' 0)), (3, Value.ref o1), (4, Value.ref o2), (5, Value.int (nI (5 * kq)))]) hx hb dL_law_797 hl (by decide) rfl (fun ls hl => ?_)
    refine lv_aload_n hx hb dL_law_799 rfl (lv_at hl 3 rfl) ?_
    refine z_arg (i := 1) C0 (by omega) hL hS (lv_at hl 1 rfl) (lv_at hl 6 rfl) (by decide) dL_law_800 dL_law_801 dL_law_803 dL_law_804 dL_law_805 ?_
    refine z_arg (i := 2) C0 (by omega) hL hS (lv_at hl 1 rfl) (lv_at hl 6 rfl) (by decide) dL_law_806 dL_law_807 dL_law_809 dL_law_810 dL_law_811 ?_
    refine z_callVF (wa := []) (w1 := wM a' y mth (nI t) tb tf ts cap clr mov hom wm (nI nw) wf wt (nI nb) fr bw bl (nI no) od ow ol ork olf oco at_ aw mp mpl msh msl mwa mse) (wb := (wB a y cap clr (nI t) hom mov wm tb tf ts (nI nw) wf wt (nI nb) bw bl bi bb (nI no) od ow ol ork ob olf oco pn pb pm pcd pw pli ++ oL y o1 v0) ++ oD y o2 d0) (As := [Value.int (xs (5 * kq + 1)), Value.int (xs (5 * kq + 2))]) (rest := []) hx hb hml hown hta zm_X6_floodByHours wd_15_1 (c_X6_floodByHours l D y a' mth t tb tf ts cap clr mov hom wm nw wf wt nb fr bw bl no od ow ol ork olf oco at_ aw mp mpl msh msl mwa mse (xs (5 * kq + 1)) (xs (5 * kq + 2)) hb8 ht) hN hK hP hD hS hA 0 rfl rfl rfl hl rfl (Nat.le_of_ble_eq_true rfl) ⟨Nat.le_of_ble_eq_true rfl, Nat.le_of_ble_eq_true rfl⟩ ⟨by show cells + 2 + 0 ≤ 3144; omega, by show slots + 12 + 0 ≤ 125590; omega⟩ dL_law_812 (fun v w' H locs hq hP hD hS => ?_)
    rcases hq with ⟨hm, rfl, rfl⟩ | ⟨hm, r9, rfl, rfl⟩
    · exact absurd (hm) hc1
    · have hP := z_nil hP
      have hD := z_nilD hD
      refine lv_istore (lv' := [(7, Value.int r9), (6, Value.int (nI (fhC no (xs (5 * kq + 1)) (xs (5 * kq + 2))))), (0, Value.ref b), (1, Value.ref (a 0)), (2, Value.ref (a' 0)), (3, Value.ref o1), (4, Value.ref o2), (5, Value.int (nI (5 * kq)))]) hx hb dL_law_815 hl (by decide) rfl (fun ls hl => ?_)
      refine z_tail (P := 817) C0 (c_X6_thrown l D y a' (nI (fhC no (xs (5 * kq + 1)) (xs (5 * kq + 2)))) t tb tf ts cap clr mov hom wm nw wf wt nb fr bw bl no od ow ol ork olf oco at_ aw mp mpl msh msl mwa mse) rfl hP hD hS hl (lv_at hl 4 rfl) (lv_at hl 1 rfl) (lv_at hl 5 rfl) (lv_at hl 0 rfl) (rfl) (fun z => absurd z (nI_n0 hc1 c4_fhC)) ⟨by show cells + 2 + 0 ≤ 3144; omega, by show slots + 12 + 0 ≤ 125590; omega⟩ dL_law_817 dL_law_818 dL_law_821 dL_law_823 dL_law_828 dL_law_830 dL_law_833 dL_law_834 dL_law_835 dL_law_836 dL_law_838 dL_law_839 dL_law_840 dL_law_845 (by decide) (fun H locs hP hD hS => ?_)
      refine W.widen (k := cells + 3) (n := slots + 18) (by omega) (by omega) ?_
      exact kk cap clr t hom mov wm tb tf ts nw wf wt nb bw bl bi bb no od ow ol ork ob olf oco pn pb pm pcd pw pli (nI (fhC no (xs (5 * kq + 1)) (xs (5 * kq + 2)))) fr at_ aw mp mpl msh msl mwa mse _ _ _ _ _ (hR) hP hD hS (lv_sub hl [2, 3, 4, 5, 6, 7] rfl)
set_option maxHeartbeats 1600000 in
set_option maxRecDepth 100000 in
theorem lc_10 {p : Program} {l : Launch} {e : Env} {s : State} {m : MethodId} {below : List Frame} {meth : Method} {c : Code} {D : va_G} {y : Nat → ClassId} {b L : Nat} {xs : Nat → Int32} {a a' : Nat → Nat} {o1 o2 kq cells slots : Nat} {G : State → Prop} (hlt : l.stackTraces = false) (C0 : LC p s m meth c b L xs D y) (hk : 5 * kq + 5 ≤ L) (hL : L ≤ 2560) (hc : cells + 3 ≤ 3144 ∧ slots + 18 ≤ 125590) (kk : LawK p l e s m below meth c D y b a a' o1 o2 kq (cells + 3) (slots + 18) 2118 G) : LawK p l e s m below meth c D y b a a' o1 o2 kq cells slots 848 G := by
  intro cap clr t hom mov wm tb tf ts nw wf wt nb bw bl bi bb no od ow ol ork ob olf oco pn pb pm pcd pw pli mth fr at_ aw mp mpl msh msl mwa mse v0 d0 H locs ls hR hP hD hS hl
  have C1 := C0
  obtain ⟨hx, hb, hr, hml, hown, hta, hX, hbl, hlocks, hN, hH, hK⟩ := C1
  have hA : ∀ q, s.heap.size ≤ q → lwA s q := fun _ h => h
  have hb8 := hR.1.2.2.2
  have hb6 := hR.1.2.2.1
  have hw := hR.1.2.1
  have ht := hR.1.1
  have hsp := hR.2.1
  have hol := hR.2.2.1
  have hfr := fr_hfr (rel_fr hR)
  have hat := (rel_va hR).1
  refine lv_aload_n hx hb dL_law_848 rfl (lv_at hl 1 rfl) ?_
  refine z_arg (i := 1) C0 (by omega) hL hS (lv_at hl 0 rfl) (lv_at hl 5 rfl) (by decide) dL_law_849 dL_law_850 dL_law_852 dL_law_853 dL_law_854 ?_
  refine lv_aload_n hx hb dL_law_855 rfl (lv_at hl 3 rfl) ?_
  refine z_callWr (wa := wM a' y mth (nI t) tb tf ts cap clr mov hom wm (nI nw) wf wt (nI nb) fr bw bl (nI no) od ow ol ork olf oco at_ aw mp mpl msh msl mwa mse) (w1 := wB a y cap clr (nI t) hom mov wm tb tf ts (nI nw) wf wt (nI nb) bw bl bi bb (nI no) od ow ol ork ob olf oco pn pb pm pcd pw pli ++ oL y o1 v0) (wb := oD y o2 d0) (As := [Value.ref (a 0), Value.int (xs (5 * kq + 1)), Value.ref o1]) (rest := []) hx hb hml hown hta zw_nextFlood wd_15_5 (c_L_nextFlood l hlt D y a cap clr t hom mov wm tb tf ts nw wf wt nb bw bl bi bb no od ow ol ork ob olf oco pn pb pm pcd pw pli (xs (5 * kq + 1)) hb8 hw ht o1 v0) hH hN hK hP hD hS hA rfl hl rfl (Nat.le_of_ble_eq_true rfl) ⟨Nat.le_of_ble_eq_true rfl, Nat.le_of_ble_eq_true rfl⟩ ⟨by show cells + 2 ≤ 3144; omega, by show slots + 12 ≤ 125590; omega⟩ dL_law_856 (fun v w' H locs hq hP hD hS => ?_)
  rcases hq with ⟨hc1, v1, hv1, rfl, rfl⟩ | ⟨hc1, rfl, rfl⟩
  · refine lv_istore (lv' := [(6, Value.int 0), (0, Value.ref b), (1, Value.ref (a 0)), (2, Value.ref (a' 0)), (3, Value.ref o1), (4, Value.ref o2), (5, Value.int (nI (5 * kq)))]) hx hb dL_law_859 hl (by decide) rfl (fun ls hl => ?_)
    refine lv_aload_n hx hb dL_law_861 rfl (lv_at hl 3 rfl) ?_
    refine z_arg (i := 1) C0 (by omega) hL hS (lv_at hl 1 rfl) (lv_at hl 6 rfl) (by decide) dL_law_862 dL_law_863 dL_law_865 dL_law_866 dL_law_867 ?_
    refine z_callVF (wa := []) (w1 := wM a' y mth (nI t) tb tf ts cap clr mov hom wm (nI nw) wf wt (nI nb) fr bw bl (nI no) od ow ol ork olf oco at_ aw mp mpl msh msl mwa mse) (wb := (wB a y cap clr (nI t) hom mov wm tb tf ts (nI nw) wf wt (nI nb) bw bl bi bb (nI no) od ow ol ork ob olf oco pn pb pm pcd pw pli ++ oL y o1 v1) ++ oD y o2 d0) (As := [Value.int (xs (5 * kq + 1))]) (rest := []) hx hb hml hown hta zm_X6_nextFlood wd_15_15 (c_X6_nextFlood l D y a' mth t tb tf ts cap clr mov hom wm nw wf wt nb fr bw bl no od ow ol ork olf oco at_ aw mp mpl msh msl mwa mse (xs (5 * kq + 1)) hb8 hw ht) hN hK hP hD hS hA 0 rfl rfl rfl hl rfl (Nat.le_of_ble_eq_true rfl) ⟨Nat.le_of_ble_eq_true rfl, Nat.le_of_ble_eq_true rfl⟩ ⟨by show cells + 2 + 0 ≤ 3144; omega, by show slots + 12 + 0 ≤ 125590; omega⟩ dL_law_868 (fun v w' H locs hq hP hD hS => ?_)
    rcases hq with ⟨hm, rfl, rfl⟩ | ⟨hm, r9, rfl, rfl⟩
    · have hP := z_nil hP
      have hD := z_nilD hD
      obtain ⟨bv, hbv⟩ : ∃ z : Int32, z = nI (t + nfK tb tf ts clr wf wt nw od (nN (xs (5 * kq + 1))) t) := ⟨_, rfl⟩
      refine zr_top (y := bv) hbv.symm ?_
      refine lv_istore (lv' := [(7, Value.int bv), (6, Value.int 0), (0, Value.ref b), (1, Value.ref (a 0)), (2, Value.ref (a' 0)), (3, Value.ref o1), (4, Value.ref o2), (5, Value.int (nI (5 * kq)))]) hx hb dL_law_871 hl (by decide) rfl (fun ls hl => ?_)
      refine z_tail (P := 873) C0 (c_X6_thrown l D y a' (0 : Int32) t tb tf ts cap clr mov hom wm nw wf wt nb fr bw bl no od ow ol ork olf oco at_ aw mp mpl msh msl mwa mse) rfl hP hD hS hl (lv_at hl 4 rfl) (lv_at hl 1 rfl) (lv_at hl 5 rfl) (lv_at hl 0 rfl) (rfl) (fun _ => hv1.trans (congrArg Int32.toInt64 (hbv.symm))) ⟨by show cells + 2 + 0 ≤ 3144; omega, by show slots + 12 + 0 ≤ 125590; omega⟩ dL_law_873 dL_law_874 dL_law_877 dL_law_879 dL_law_884 dL_law_886 dL_law_889 dL_law_890 dL_law_891 dL_law_892 dL_law_894 dL_law_895 dL_law_896 dL_law_901 (by decide) (fun H locs hP hD hS => ?_)
      refine W.widen (k := cells + 3) (n := slots + 18) (by omega) (by omega) ?_
      exact kk cap clr t hom mov wm tb tf ts nw wf wt nb bw bl bi bb no od ow ol ork ob olf oco pn pb pm pcd pw pli (0 : Int32) fr at_ aw mp mpl msh msl mwa mse _ _ _ _ _ (hR) hP hD hS (lv_sub hl [2, 3, 4, 5, 6, 7] rfl)
    · exact absurd (hc1) hm
  · refine lv_istore (lv' := [(6, Value.int (nI (nfC tb tf ts clr wf wt nw od no t (xs (5 * kq + 1))))), (0, Value.ref b), (1, Value.ref (a 0)), (2, Value.ref (a' 0)), (3, Value.ref o1), (4, Value.ref o2), (5, Value.int (nI (5 * kq)))]) hx hb dL_law_859 hl (by decide) rfl (fun ls hl => ?_)
    refine lv_aload_n hx hb dL_law_861 rfl (lv_at hl 3 rfl) ?_
    refine z_arg (i := 1) C0 (by omega) hL hS (lv_at hl 1 rfl) (lv_at hl 6 rfl) (by decide) dL_law_862 dL_law_863 dL_law_865 dL_law_866 dL_law_867 ?_
    refine z_callVF (wa := []) (w1 := wM a' y mth (nI t) tb tf ts cap clr mov hom wm (nI nw) wf wt (nI nb) fr bw bl (nI no) od ow ol ork olf oco at_ aw mp mpl msh msl mwa mse) (wb := (wB a y cap clr (nI t) hom mov wm tb tf ts (nI nw) wf wt (nI nb) bw bl bi bb (nI no) od ow ol ork ob olf oco pn pb pm pcd pw pli ++ oL y o1 v0) ++ oD y o2 d0) (As := [Value.int (xs (5 * kq + 1))]) (rest := []) hx hb hml hown hta zm_X6_nextFlood wd_15_15 (c_X6_nextFlood l D y a' mth t tb tf ts cap clr mov hom wm nw wf wt nb fr bw bl no od ow ol ork olf oco at_ aw mp mpl msh msl mwa mse (xs (5 * kq + 1)) hb8 hw ht) hN hK hP hD hS hA 0 rfl rfl rfl hl rfl (Nat.le_of_ble_eq_true rfl) ⟨Nat.le_of_ble_eq_true rfl, Nat.le_of_ble_eq_true rfl⟩ ⟨by show cells + 2 + 0 ≤ 3144; omega, by show slots + 12 + 0 ≤ 125590; omega⟩ dL_law_868 (fun v w' H locs hq hP hD hS => ?_)
    rcases hq with ⟨hm, rfl, rfl⟩ | ⟨hm, r9, rfl, rfl⟩
    · exact absurd (hm) hc1
    · have hP := z_nil hP
      have hD := z_nilD hD
      refine lv_istore (lv' := [(7, Value.int r9), (6, Value.int (nI (nfC tb tf ts clr wf wt nw od no t (xs (5 * kq + 1))))), (0, Value.ref b), (1, Value.ref (a 0)), (2, Value.ref (a' 0)), (3, Value.ref o1), (4, Value.ref o2), (5, Value.int (nI (5 * kq)))]) hx hb dL_law_871 hl (by decide) rfl (fun ls hl => ?_)
      refine z_tail (P := 873) C0 (c_X6_thrown l D y a' (nI (nfC tb tf ts clr wf wt nw od no t (xs (5 * kq + 1)))) t tb tf ts cap clr mov hom wm nw wf wt nb fr bw bl no od ow ol ork olf oco at_ aw mp mpl msh msl mwa mse) rfl hP hD hS hl (lv_at hl 4 rfl) (lv_at hl 1 rfl) (lv_at hl 5 rfl) (lv_at hl 0 rfl) (rfl) (fun z => absurd z (nI_n0 hc1 c4_nfC)) ⟨by show cells + 2 + 0 ≤ 3144; omega, by show slots + 12 + 0 ≤ 125590; omega⟩ dL_law_873 dL_law_874 dL_law_877 dL_law_879 dL_law_884 dL_law_886 dL_law_889 dL_law_890 dL_law_891 dL_law_892 dL_law_894 dL_law_895 dL_law_896 dL_law_901 (by decide) (fun H locs hP hD hS => ?_)
      refine W.widen (k := cells + 3) (n := slots + 18) (by omega) (by omega) ?_
      exact kk cap clr t hom mov wm tb tf ts nw wf wt nb bw bl bi bb no od ow ol ork ob olf oco pn pb pm pcd pw pli (nI (nfC tb tf ts clr wf wt nw od no t (xs (5 * kq + 1)))) fr at_ aw mp mpl msh msl mwa mse _ _ _ _ _ (hR) hP hD hS (lv_sub hl [2, 3, 4, 5, 6, 7] rfl)
set_option maxHeartbeats 1600000 in
set_option maxRecDepth 100000 in
theorem lc_11 {p : Program} {l : Launch} {e : Env} {s : State} {m : MethodId} {below : List Frame} {meth : Method} {c : Code} {D : va_G} {y : Nat → ClassId} {b L : Nat} {xs : Nat → Int32} {a a' : Nat → Nat} {o1 o2 kq cells slots : Nat} {G : State → Prop} (hlt : l.stackTraces = false) (C0 : LC p s m meth c b L xs D y) (hk : 5 * kq + 5 ≤ L) (hL : L ≤ 2560) (hc : cells + 3 ≤ 3144 ∧ slots + 18 ≤ 125590) (kk : LawK p l e s m below meth c D y b a a' o1 o2 kq (cells + 3) (slots + 18) 2118 G) : LawK p l e s m below meth c D y b a a' o1 o2 kq cells slots 904 G := by
  intro cap clr t hom mov wm tb tf ts nw wf wt nb bw bl bi bb no od ow ol ork ob olf oco pn pb pm pcd pw pli mth fr at_ aw mp mpl msh msl mwa mse v0 d0 H locs ls hR hP hD hS hl
  have C1 := C0
  obtain ⟨hx, hb, hr, hml, hown, hta, hX, hbl, hlocks, hN, hH, hK⟩ := C1
  have hA : ∀ q, s.heap.size ≤ q → lwA s q := fun _ h => h
  have hb8 := hR.1.2.2.2
  have hb6 := hR.1.2.2.1
  have hw := hR.1.2.1
  have ht := hR.1.1
  have hsp := hR.2.1
  have hol := hR.2.2.1
  have hfr := fr_hfr (rel_fr hR)
  have hat := (rel_va hR).1
  refine lv_aload_n hx hb dL_law_904 rfl (lv_at hl 1 rfl) ?_
  refine z_arg (i := 1) C0 (by omega) hL hS (lv_at hl 0 rfl) (lv_at hl 5 rfl) (by decide) dL_law_905 dL_law_906 dL_law_908 dL_law_909 dL_law_910 ?_
  refine z_arg (i := 2) C0 (by omega) hL hS (lv_at hl 0 rfl) (lv_at hl 5 rfl) (by decide) dL_law_911 dL_law_912 dL_law_914 dL_law_915 dL_law_916 ?_
  refine lv_aload_n hx hb dL_law_917 rfl (lv_at hl 3 rfl) ?_
  refine z_callWr (wa := wM a' y mth (nI t) tb tf ts cap clr mov hom wm (nI nw) wf wt (nI nb) fr bw bl (nI no) od ow ol ork olf oco at_ aw mp mpl msh msl mwa mse) (w1 := wB a y cap clr (nI t) hom mov wm tb tf ts (nI nw) wf wt (nI nb) bw bl bi bb (nI no) od ow ol ork ob olf oco pn pb pm pcd pw pli ++ oL y o1 v0) (wb := oD y o2 d0) (As := [Value.ref (a 0), Value.int (xs (5 * kq + 1)), Value.int (xs (5 * kq + 2)), Value.ref o1]) (rest := []) hx hb hml hown hta zw_lift wd_15_19 (c_L_lift l hlt D y a cap clr t hom mov wm tb tf ts nw wf wt nb bw bl bi bb no od ow ol ork ob olf oco pn pb pm pcd pw pli (xs (5 * kq + 1)) (xs (5 * kq + 2)) hb8 hb6 hw o1 v0) hH hN hK hP hD hS hA rfl hl rfl (Nat.le_of_ble_eq_true rfl) ⟨Nat.le_of_ble_eq_true rfl, Nat.le_of_ble_eq_true rfl⟩ ⟨by show cells + 3 ≤ 3144; omega, by show slots + 18 ≤ 125590; omega⟩ dL_law_918 (fun v w' H locs hq hP hD hS => ?_)
  rcases hq with ⟨hc1, v1, hv1, rfl, rfl⟩ | ⟨hc1, rfl, rfl⟩
  · refine lv_istore (lv' := [(6, Value.int 0), (0, Value.ref b), (1, Value.ref (a 0)), (2, Value.ref (a' 0)), (3, Value.ref o1), (4, Value.ref o2), (5, Value.int (nI (5 * kq)))]) hx hb dL_law_921 hl (by decide) rfl (fun ls hl => ?_)
    refine lv_aload_n hx hb dL_law_923 rfl (lv_at hl 3 rfl) ?_
    refine z_arg (i := 1) C0 (by omega) hL hS (lv_at hl 1 rfl) (lv_at hl 6 rfl) (by decide) dL_law_924 dL_law_925 dL_law_927 dL_law_928 dL_law_929 ?_
    refine z_arg (i := 2) C0 (by omega) hL hS (lv_at hl 1 rfl) (lv_at hl 6 rfl) (by decide) dL_law_930 dL_law_931 dL_law_933 dL_law_934 dL_law_935 ?_
    refine z_callVF (wa := []) (w1 := wM a' y mth (nI t) tb tf ts cap clr mov hom wm (nI nw) wf wt (nI nb) fr bw bl (nI no) od ow ol ork olf oco at_ aw mp mpl msh msl mwa mse) (wb := (wB a y cap clr (nI t) (nI t) (mov + (1 : Int32)) (wm + Int32.toInt64 (ow (nN (xs (5 * kq + 1))))) tb tf ts (nI nw) wf wt (nI nb) bw bl bi (upd bb (nN (xs (5 * kq + 2))) (xs (5 * kq + 1))) (nI no) od ow ol ork (upd ob (nN (xs (5 * kq + 1))) (xs (5 * kq + 2))) olf oco pn pb pm pcd pw pli ++ oL y o1 v1) ++ oD y o2 d0) (As := [Value.int (xs (5 * kq + 1)), Value.int (xs (5 * kq + 2))]) (rest := []) hx hb hml hown hta zm_X6_lift wd_17_16 (c_X6_lift l D y a' mth t tb tf ts cap clr mov hom wm nw wf wt nb fr bw bl no od ow ol ork olf oco at_ aw mp mpl msh msl mwa mse (xs (5 * kq + 1)) (xs (5 * kq + 2)) hb8 hb6 hw hfr) hN hK hP hD hS hA 0 rfl rfl rfl hl rfl (Nat.le_of_ble_eq_true rfl) ⟨Nat.le_of_ble_eq_true rfl, Nat.le_of_ble_eq_true rfl⟩ ⟨by show cells + 3 + 0 ≤ 3144; omega, by show slots + 18 + 0 ≤ 125590; omega⟩ dL_law_936 (fun v w' H locs hq hP hD hS => ?_)
    rcases hq with ⟨hm, rfl, rfl⟩ | ⟨hm, r9, rfl, rfl⟩
    · have hP := z_nil hP
      have hD := z_nilD hD
      obtain ⟨bv, hbv⟩ : ∃ z : Int32, z = mov + (1 : Int32) := ⟨_, rfl⟩
      refine zr_top (y := bv) hbv.symm ?_
      refine lv_istore (lv' := [(7, Value.int bv), (6, Value.int 0), (0, Value.ref b), (1, Value.ref (a 0)), (2, Value.ref (a' 0)), (3, Value.ref o1), (4, Value.ref o2), (5, Value.int (nI (5 * kq)))]) hx hb dL_law_939 hl (by decide) rfl (fun ls hl => ?_)
      refine z_tail (P := 941) C0 (c_X6_thrown l D y a' (0 : Int32) t tb tf ts cap clr (mov + (1 : Int32)) (nI t) (wm + Int32.toInt64 (ow (nN (xs (5 * kq + 1))))) nw wf wt nb fr bw bl no od ow ol ork olf oco (upd at_ (nN (xs (5 * kq + 1))) (xs (5 * kq + 2))) (upd aw (nN (xs (5 * kq + 1))) (if (xs (5 * kq + 2)) = -1 then 1 else 0)) mp mpl msh msl mwa mse) rfl hP hD hS hl (lv_at hl 4 rfl) (lv_at hl 1 rfl) (lv_at hl 5 rfl) (lv_at hl 0 rfl) (rfl) (fun _ => hv1.trans (congrArg Int32.toInt64 (hbv.symm))) ⟨by show cells + 3 + 0 ≤ 3144; omega, by show slots + 18 + 0 ≤ 125590; omega⟩ dL_law_941 dL_law_942 dL_law_945 dL_law_947 dL_law_952 dL_law_954 dL_law_957 dL_law_958 dL_law_959 dL_law_960 dL_law_962 dL_law_963 dL_law_964 dL_law_969 (by decide) (fun H locs hP hD hS => ?_)
      refine W.widen (k := cells + 3) (n := slots + 18) (by omega) (by omega) ?_
      exact kk cap clr t (nI t) (mov + (1 : Int32)) (wm + Int32.toInt64 (ow (nN (xs (5 * kq + 1))))) tb tf ts nw wf wt nb bw bl bi (upd bb (nN (xs (5 * kq + 2))) (xs (5 * kq + 1))) no od ow ol ork (upd ob (nN (xs (5 * kq + 1))) (xs (5 * kq + 2))) olf oco pn pb pm pcd pw pli (0 : Int32) fr (upd at_ (nN (xs (5 * kq + 1))) (xs (5 * kq + 2))) (upd aw (nN (xs (5 * kq + 1))) (if (xs (5 * kq + 2)) = -1 then 1 else 0)) mp mpl msh msl mwa mse _ _ _ _ _ (rel_lift hR hm) hP hD hS (lv_sub hl [2, 3, 4, 5, 6, 7] rfl)
    · exact absurd ((mv_li hR _ _ _ _ _ _ _ _ _ _ _ _ _ _).symm.trans hc1) hm
  · refine lv_istore (lv' := [(6, Value.int (nI (mvC no nb (xs (5 * kq + 1)) (xs (5 * kq + 2)) (liF cap clr tb tf ts hom (nI t) (badF wf wt nw (nI t)) ob bb od ow ol bw bl bi nb (nN (xs (5 * kq + 1))) (nN (xs (5 * kq + 2))))))), (0, Value.ref b), (1, Value.ref (a 0)), (2, Value.ref (a' 0)), (3, Value.ref o1), (4, Value.ref o2), (5, Value.int (nI (5 * kq)))]) hx hb dL_law_921 hl (by decide) rfl (fun ls hl => ?_)
    refine lv_aload_n hx hb dL_law_923 rfl (lv_at hl 3 rfl) ?_
    refine z_arg (i := 1) C0 (by omega) hL hS (lv_at hl 1 rfl) (lv_at hl 6 rfl) (by decide) dL_law_924 dL_law_925 dL_law_927 dL_law_928 dL_law_929 ?_
    refine z_arg (i := 2) C0 (by omega) hL hS (lv_at hl 1 rfl) (lv_at hl 6 rfl) (by decide) dL_law_930 dL_law_931 dL_law_933 dL_law_934 dL_law_935 ?_
    refine z_callVF (wa := []) (w1 := wM a' y mth (nI t) tb tf ts cap clr mov hom wm (nI nw) wf wt (nI nb) fr bw bl (nI no) od ow ol ork olf oco at_ aw mp mpl msh msl mwa mse) (wb := (wB a y cap clr (nI t) hom mov wm tb tf ts (nI nw) wf wt (nI nb) bw bl bi bb (nI no) od ow ol ork ob olf oco pn pb pm pcd pw pli ++ oL y o1 v0) ++ oD y o2 d0) (As := [Value.int (xs (5 * kq + 1)), Value.int (xs (5 * kq + 2))]) (rest := []) hx hb hml hown hta zm_X6_lift wd_17_16 (c_X6_lift l D y a' mth t tb tf ts cap clr mov hom wm nw wf wt nb fr bw bl no od ow ol ork olf oco at_ aw mp mpl msh msl mwa mse (xs (5 * kq + 1)) (xs (5 * kq + 2)) hb8 hb6 hw hfr) hN hK hP hD hS hA 0 rfl rfl rfl hl rfl (Nat.le_of_ble_eq_true rfl) ⟨Nat.le_of_ble_eq_true rfl, Nat.le_of_ble_eq_true rfl⟩ ⟨by show cells + 3 + 0 ≤ 3144; omega, by show slots + 18 + 0 ≤ 125590; omega⟩ dL_law_936 (fun v w' H locs hq hP hD hS => ?_)
    rcases hq with ⟨hm, rfl, rfl⟩ | ⟨hm, r9, rfl, rfl⟩
    · exact absurd ((mv_li hR _ _ _ _ _ _ _ _ _ _ _ _ _ _).trans hm) hc1
    · have hP := z_nil hP
      have hD := z_nilD hD
      refine lv_istore (lv' := [(7, Value.int r9), (6, Value.int (nI (mvC no nb (xs (5 * kq + 1)) (xs (5 * kq + 2)) (liF cap clr tb tf ts hom (nI t) (badF wf wt nw (nI t)) ob bb od ow ol bw bl bi nb (nN (xs (5 * kq + 1))) (nN (xs (5 * kq + 2))))))), (0, Value.ref b), (1, Value.ref (a 0)), (2, Value.ref (a' 0)), (3, Value.ref o1), (4, Value.ref o2), (5, Value.int (nI (5 * kq)))]) hx hb dL_law_939 hl (by decide) rfl (fun ls hl => ?_)
      refine z_tail (P := 941) C0 (c_X6_thrown l D y a' (nI (mvC no nb (xs (5 * kq + 1)) (xs (5 * kq + 2)) (liM cap clr tb tf ts hom (nI t) (badF wf wt nw (nI t)) aw at_ fr od ow ol bw bl no (nN (xs (5 * kq + 1))) (nN (xs (5 * kq + 2)))))) t tb tf ts cap clr mov hom wm nw wf wt nb fr bw bl no od ow ol ork olf oco at_ aw mp mpl msh msl mwa mse) rfl hP hD hS hl (lv_at hl 4 rfl) (lv_at hl 1 rfl) (lv_at hl 5 rfl) (lv_at hl 0 rfl) (congrArg nI (mv_li hR _ _ _ _ _ _ _ _ _ _ _ _ _ _).symm) (fun z => absurd z (nI_n0 hc1 c4_mvC)) ⟨by show cells + 3 + 0 ≤ 3144; omega, by show slots + 18 + 0 ≤ 125590; omega⟩ dL_law_941 dL_law_942 dL_law_945 dL_law_947 dL_law_952 dL_law_954 dL_law_957 dL_law_958 dL_law_959 dL_law_960 dL_law_962 dL_law_963 dL_law_964 dL_law_969 (by decide) (fun H locs hP hD hS => ?_)
      refine W.widen (k := cells + 3) (n := slots + 18) (by omega) (by omega) ?_
      exact kk cap clr t hom mov wm tb tf ts nw wf wt nb bw bl bi bb no od ow ol ork ob olf oco pn pb pm pcd pw pli (nI (mvC no nb (xs (5 * kq + 1)) (xs (5 * kq + 2)) (liM cap clr tb tf ts hom (nI t) (badF wf wt nw (nI t)) aw at_ fr od ow ol bw bl no (nN (xs (5 * kq + 1))) (nN (xs (5 * kq + 2)))))) fr at_ aw mp mpl msh msl mwa mse _ _ _ _ _ (hR) hP hD hS (lv_sub hl [2, 3, 4, 5, 6, 7] rfl)
set_option maxHeartbeats 1600000 in
set_option maxRecDepth 100000 in
theorem lc_12 {p : Program} {l : Launch} {e : Env} {s : State} {m : MethodId} {below : List Frame} {meth : Method} {c : Code} {D : va_G} {y : Nat → ClassId} {b L : Nat} {xs : Nat → Int32} {a a' : Nat → Nat} {o1 o2 kq cells slots : Nat} {G : State → Prop} (hlt : l.stackTraces = false) (C0 : LC p s m meth c b L xs D y) (hk : 5 * kq + 5 ≤ L) (hL : L ≤ 2560) (hc : cells + 3 ≤ 3144 ∧ slots + 18 ≤ 125590) (kk : LawK p l e s m below meth c D y b a a' o1 o2 kq (cells + 3) (slots + 18) 2118 G) : LawK p l e s m below meth c D y b a a' o1 o2 kq cells slots 972 G := by
  intro cap clr t hom mov wm tb tf ts nw wf wt nb bw bl bi bb no od ow ol ork ob olf oco pn pb pm pcd pw pli mth fr at_ aw mp mpl msh msl mwa mse v0 d0 H locs ls hR hP hD hS hl
  have C1 := C0
  obtain ⟨hx, hb, hr, hml, hown, hta, hX, hbl, hlocks, hN, hH, hK⟩ := C1
  have hA : ∀ q, s.heap.size ≤ q → lwA s q := fun _ h => h
  have hb8 := hR.1.2.2.2
  have hb6 := hR.1.2.2.1
  have hw := hR.1.2.1
  have ht := hR.1.1
  have hsp := hR.2.1
  have hol := hR.2.2.1
  have hfr := fr_hfr (rel_fr hR)
  have hat := (rel_va hR).1
  refine lv_aload_n hx hb dL_law_972 rfl (lv_at hl 1 rfl) ?_
  refine z_arg (i := 1) C0 (by omega) hL hS (lv_at hl 0 rfl) (lv_at hl 5 rfl) (by decide) dL_law_973 dL_law_974 dL_law_976 dL_law_977 dL_law_978 ?_
  refine z_arg (i := 2) C0 (by omega) hL hS (lv_at hl 0 rfl) (lv_at hl 5 rfl) (by decide) dL_law_979 dL_law_980 dL_law_982 dL_law_983 dL_law_984 ?_
  refine lv_aload_n hx hb dL_law_985 rfl (lv_at hl 3 rfl) ?_
  refine z_callWr (wa := wM a' y mth (nI t) tb tf ts cap clr mov hom wm (nI nw) wf wt (nI nb) fr bw bl (nI no) od ow ol ork olf oco at_ aw mp mpl msh msl mwa mse) (w1 := wB a y cap clr (nI t) hom mov wm tb tf ts (nI nw) wf wt (nI nb) bw bl bi bb (nI no) od ow ol ork ob olf oco pn pb pm pcd pw pli ++ oL y o1 v0) (wb := oD y o2 d0) (As := [Value.ref (a 0), Value.int (xs (5 * kq + 1)), Value.int (xs (5 * kq + 2)), Value.ref o1]) (rest := []) hx hb hml hown hta zw_liftReason wd_18_18 (c_L_liftReason l hlt D y a cap clr t hom mov wm tb tf ts nw wf wt nb bw bl bi bb no od ow ol ork ob olf oco pn pb pm pcd pw pli (xs (5 * kq + 1)) (xs (5 * kq + 2)) hb8 hb6 hw o1 v0) hH hN hK hP hD hS hA rfl hl rfl (Nat.le_of_ble_eq_true rfl) ⟨Nat.le_of_ble_eq_true rfl, Nat.le_of_ble_eq_true rfl⟩ ⟨by show cells + 2 ≤ 3144; omega, by show slots + 12 ≤ 125590; omega⟩ dL_law_986 (fun v w' H locs hq hP hD hS => ?_)
  rcases hq with ⟨hc1, v1, hv1, rfl, rfl⟩ | ⟨hc1, rfl, rfl⟩
  · refine lv_istore (lv' := [(6, Value.int 0), (0, Value.ref b), (1, Value.ref (a 0)), (2, Value.ref (a' 0)), (3, Value.ref o1), (4, Value.ref o2), (5, Value.int (nI (5 * kq)))]) hx hb dL_law_989 hl (by decide) rfl (fun ls hl => ?_)
    refine lv_aload_n hx hb dL_law_991 rfl (lv_at hl 3 rfl) ?_
    refine z_arg (i := 1) C0 (by omega) hL hS (lv_at hl 1 rfl) (lv_at hl 6 rfl) (by decide) dL_law_992 dL_law_993 dL_law_995 dL_law_996 dL_law_997 ?_
    refine z_arg (i := 2) C0 (by omega) hL hS (lv_at hl 1 rfl) (lv_at hl 6 rfl) (by decide) dL_law_998 dL_law_999 dL_law_1001 dL_law_1002 dL_law_1003 ?_
    refine z_callVF (wa := []) (w1 := wM a' y mth (nI t) tb tf ts cap clr mov hom wm (nI nw) wf wt (nI nb) fr bw bl (nI no) od ow ol ork olf oco at_ aw mp mpl msh msl mwa mse) (wb := (wB a y cap clr (nI t) hom mov wm tb tf ts (nI nw) wf wt (nI nb) bw bl bi bb (nI no) od ow ol ork ob olf oco pn pb pm pcd pw pli ++ oL y o1 v1) ++ oD y o2 d0) (As := [Value.int (xs (5 * kq + 1)), Value.int (xs (5 * kq + 2))]) (rest := []) hx hb hml hown hta zm_X6_liftReason wd_19_1 (c_X6_liftReason l D y a' mth t tb tf ts cap clr mov hom wm nw wf wt nb fr bw bl no od ow ol ork olf oco at_ aw mp mpl msh msl mwa mse (xs (5 * kq + 1)) (xs (5 * kq + 2)) hb8 hb6 hw hfr) hN hK hP hD hS hA 0 rfl rfl rfl hl rfl (Nat.le_of_ble_eq_true rfl) ⟨Nat.le_of_ble_eq_true rfl, Nat.le_of_ble_eq_true rfl⟩ ⟨by show cells + 2 + 0 ≤ 3144; omega, by show slots + 12 + 0 ≤ 125590; omega⟩ dL_law_1004 (fun v w' H locs hq hP hD hS => ?_)
    rcases hq with ⟨hm, rfl, rfl⟩ | ⟨hm, r9, rfl, rfl⟩
    · have hP := z_nil hP
      have hD := z_nilD hD
      obtain ⟨bv, hbv⟩ : ∃ z : Int32, z = liM cap clr tb tf ts hom (nI t) (badF wf wt nw (nI t)) aw at_ fr od ow ol bw bl no (nN (xs (5 * kq + 1))) (nN (xs (5 * kq + 2))) := ⟨_, rfl⟩
      refine zr_top (y := bv) hbv.symm ?_
      refine lv_istore (lv' := [(7, Value.int bv), (6, Value.int 0), (0, Value.ref b), (1, Value.ref (a 0)), (2, Value.ref (a' 0)), (3, Value.ref o1), (4, Value.ref o2), (5, Value.int (nI (5 * kq)))]) hx hb dL_law_1007 hl (by decide) rfl (fun ls hl => ?_)
      refine z_tail (P := 1009) C0 (c_X6_thrown l D y a' (0 : Int32) t tb tf ts cap clr mov hom wm nw wf wt nb fr bw bl no od ow ol ork olf oco at_ aw mp mpl msh msl mwa mse) rfl hP hD hS hl (lv_at hl 4 rfl) (lv_at hl 1 rfl) (lv_at hl 5 rfl) (lv_at hl 0 rfl) (rfl) (fun _ => hv1.trans (congrArg Int32.toInt64 ((bb_li hR _ _ _ _ _ _ _ _ _ _ _ _ hc1).trans hbv.symm))) ⟨by show cells + 2 + 0 ≤ 3144; omega, by show slots + 12 + 0 ≤ 125590; omega⟩ dL_law_1009 dL_law_1010 dL_law_1013 dL_law_1015 dL_law_1020 dL_law_1022 dL_law_1025 dL_law_1026 dL_law_1027 dL_law_1028 dL_law_1030 dL_law_1031 dL_law_1032 dL_law_1037 (by decide) (fun H locs hP hD hS => ?_)
      refine W.widen (k := cells + 3) (n := slots + 18) (by omega) (by omega) ?_
      exact kk cap clr t hom mov wm tb tf ts nw wf wt nb bw bl bi bb no od ow ol ork ob olf oco pn pb pm pcd pw pli (0 : Int32) fr at_ aw mp mpl msh msl mwa mse _ _ _ _ _ (hR) hP hD hS (lv_sub hl [2, 3, 4, 5, 6, 7] rfl)
    · exact absurd (hc1) hm
  · refine lv_istore (lv' := [(6, Value.int (nI (bbC no nb (xs (5 * kq + 1)) (xs (5 * kq + 2))))), (0, Value.ref b), (1, Value.ref (a 0)), (2, Value.ref (a' 0)), (3, Value.ref o1), (4, Value.ref o2), (5, Value.int (nI (5 * kq)))]) hx hb dL_law_989 hl (by decide) rfl (fun ls hl => ?_)
    refine lv_aload_n hx hb dL_law_991 rfl (lv_at hl 3 rfl) ?_
    refine z_arg (i := 1) C0 (by omega) hL hS (lv_at hl 1 rfl) (lv_at hl 6 rfl) (by decide) dL_law_992 dL_law_993 dL_law_995 dL_law_996 dL_law_997 ?_
    refine z_arg (i := 2) C0 (by omega) hL hS (lv_at hl 1 rfl) (lv_at hl 6 rfl) (by decide) dL_law_998 dL_law_999 dL_law_1001 dL_law_1002 dL_law_1003 ?_
    refine z_callVF (wa := []) (w1 := wM a' y mth (nI t) tb tf ts cap clr mov hom wm (nI nw) wf wt (nI nb) fr bw bl (nI no) od ow ol ork olf oco at_ aw mp mpl msh msl mwa mse) (wb := (wB a y cap clr (nI t) hom mov wm tb tf ts (nI nw) wf wt (nI nb) bw bl bi bb (nI no) od ow ol ork ob olf oco pn pb pm pcd pw pli ++ oL y o1 v0) ++ oD y o2 d0) (As := [Value.int (xs (5 * kq + 1)), Value.int (xs (5 * kq + 2))]) (rest := []) hx hb hml hown hta zm_X6_liftReason wd_19_1 (c_X6_liftReason l D y a' mth t tb tf ts cap clr mov hom wm nw wf wt nb fr bw bl no od ow ol ork olf oco at_ aw mp mpl msh msl mwa mse (xs (5 * kq + 1)) (xs (5 * kq + 2)) hb8 hb6 hw hfr) hN hK hP hD hS hA 0 rfl rfl rfl hl rfl (Nat.le_of_ble_eq_true rfl) ⟨Nat.le_of_ble_eq_true rfl, Nat.le_of_ble_eq_true rfl⟩ ⟨by show cells + 2 + 0 ≤ 3144; omega, by show slots + 12 + 0 ≤ 125590; omega⟩ dL_law_1004 (fun v w' H locs hq hP hD hS => ?_)
    rcases hq with ⟨hm, rfl, rfl⟩ | ⟨hm, r9, rfl, rfl⟩
    · exact absurd (hm) hc1
    · have hP := z_nil hP
      have hD := z_nilD hD
      refine lv_istore (lv' := [(7, Value.int r9), (6, Value.int (nI (bbC no nb (xs (5 * kq + 1)) (xs (5 * kq + 2))))), (0, Value.ref b), (1, Value.ref (a 0)), (2, Value.ref (a' 0)), (3, Value.ref o1), (4, Value.ref o2), (5, Value.int (nI (5 * kq)))]) hx hb dL_law_1007 hl (by decide) rfl (fun ls hl => ?_)
      refine z_tail (P := 1009) C0 (c_X6_thrown l D y a' (nI (bbC no nb (xs (5 * kq + 1)) (xs (5 * kq + 2)))) t tb tf ts cap clr mov hom wm nw wf wt nb fr bw bl no od ow ol ork olf oco at_ aw mp mpl msh msl mwa mse) rfl hP hD hS hl (lv_at hl 4 rfl) (lv_at hl 1 rfl) (lv_at hl 5 rfl) (lv_at hl 0 rfl) (rfl) (fun z => absurd z (nI_n0 hc1 c4_bbC)) ⟨by show cells + 2 + 0 ≤ 3144; omega, by show slots + 12 + 0 ≤ 125590; omega⟩ dL_law_1009 dL_law_1010 dL_law_1013 dL_law_1015 dL_law_1020 dL_law_1022 dL_law_1025 dL_law_1026 dL_law_1027 dL_law_1028 dL_law_1030 dL_law_1031 dL_law_1032 dL_law_1037 (by decide) (fun H locs hP hD hS => ?_)
      refine W.widen (k := cells + 3) (n := slots + 18) (by omega) (by omega) ?_
      exact kk cap clr t hom mov wm tb tf ts nw wf wt nb bw bl bi bb no od ow ol ork ob olf oco pn pb pm pcd pw pli (nI (bbC no nb (xs (5 * kq + 1)) (xs (5 * kq + 2)))) fr at_ aw mp mpl msh msl mwa mse _ _ _ _ _ (hR) hP hD hS (lv_sub hl [2, 3, 4, 5, 6, 7] rfl)
set_option maxHeartbeats 1600000 in
set_option maxRecDepth 100000 in
theorem lc_13 {p : Program} {l : Launch} {e : Env} {s : State} {m : MethodId} {below : List Frame} {meth : Method} {c : Code} {D : va_G} {y : Nat → ClassId} {b L : Nat} {xs : Nat → Int32} {a a' : Nat → Nat} {o1 o2 kq cells slots : Nat} {G : State → Prop} (hlt : l.stackTraces = false) (C0 : LC p s m meth c b L xs D y) (hk : 5 * kq + 5 ≤ L) (hL : L ≤ 2560) (hc : cells + 3 ≤ 3144 ∧ slots + 18 ≤ 125590) (kk : LawK p l e s m below meth c D y b a a' o1 o2 kq (cells + 3) (slots + 18) 2118 G) : LawK p l e s m below meth c D y b a a' o1 o2 kq cells slots 1040 G := by
  intro cap clr t hom mov wm tb tf ts nw wf wt nb bw bl bi bb no od ow ol ork ob olf oco pn pb pm pcd pw pli mth fr at_ aw mp mpl msh msl mwa mse v0 d0 H locs ls hR hP hD hS hl
  have C1 := C0
  obtain ⟨hx, hb, hr, hml, hown, hta, hX, hbl, hlocks, hN, hH, hK⟩ := C1
  have hA : ∀ q, s.heap.size ≤ q → lwA s q := fun _ h => h
  have hb8 := hR.1.2.2.2
  have hb6 := hR.1.2.2.1
  have hw := hR.1.2.1
  have ht := hR.1.1
  have hsp := hR.2.1
  have hol := hR.2.2.1
  have hfr := fr_hfr (rel_fr hR)
  have hat := (rel_va hR).1
  refine lv_aload_n hx hb dL_law_1040 rfl (lv_at hl 1 rfl) ?_
  refine z_arg (i := 1) C0 (by omega) hL hS (lv_at hl 0 rfl) (lv_at hl 5 rfl) (by decide) dL_law_1041 dL_law_1042 dL_law_1044 dL_law_1045 dL_law_1046 ?_
  refine lv_aload_n hx hb dL_law_1047 rfl (lv_at hl 3 rfl) ?_
  refine z_callWr (wa := wM a' y mth (nI t) tb tf ts cap clr mov hom wm (nI nw) wf wt (nI nb) fr bw bl (nI no) od ow ol ork olf oco at_ aw mp mpl msh msl mwa mse) (w1 := wB a y cap clr (nI t) hom mov wm tb tf ts (nI nw) wf wt (nI nb) bw bl bi bb (nI no) od ow ol ork ob olf oco pn pb pm pcd pw pli ++ oL y o1 v0) (wb := oD y o2 d0) (As := [Value.ref (a 0), Value.int (xs (5 * kq + 1)), Value.ref o1]) (rest := []) hx hb hml hown hta zw_launch wd_19_5 (c_L_launch l hlt D y a cap clr t hom mov wm tb tf ts nw wf wt nb bw bl bi bb no od ow ol ork ob olf oco pn pb pm pcd pw pli (xs (5 * kq + 1)) hb8 hb6 hw o1 v0) hH hN hK hP hD hS hA rfl hl rfl (Nat.le_of_ble_eq_true rfl) ⟨Nat.le_of_ble_eq_true rfl, Nat.le_of_ble_eq_true rfl⟩ ⟨by show cells + 3 ≤ 3144; omega, by show slots + 18 ≤ 125590; omega⟩ dL_law_1048 (fun v w' H locs hq hP hD hS => ?_)
  rcases hq with ⟨hc1, v1, hv1, rfl, rfl⟩ | ⟨hc1, rfl, rfl⟩
  · refine lv_istore (lv' := [(6, Value.int 0), (0, Value.ref b), (1, Value.ref (a 0)), (2, Value.ref (a' 0)), (3, Value.ref o1), (4, Value.ref o2), (5, Value.int (nI (5 * kq)))]) hx hb dL_law_1051 hl (by decide) rfl (fun ls hl => ?_)
    refine lv_aload_n hx hb dL_law_1053 rfl (lv_at hl 3 rfl) ?_
    refine z_arg (i := 1) C0 (by omega) hL hS (lv_at hl 1 rfl) (lv_at hl 6 rfl) (by decide) dL_law_1054 dL_law_1055 dL_law_1057 dL_law_1058 dL_law_1059 ?_
    refine z_callVF (wa := []) (w1 := wM a' y mth (nI t) tb tf ts cap clr mov hom wm (nI nw) wf wt (nI nb) fr bw bl (nI no) od ow ol ork olf oco at_ aw mp mpl msh msl mwa mse) (wb := (wB a y cap clr (nI t) (nI t) (mov + (1 : Int32)) (wm + Int32.toInt64 (ow (nN (xs (5 * kq + 1))))) tb tf ts (nI nw) wf wt (nI nb) bw bl bi (upd bb (nN (ob (nN (xs (5 * kq + 1))))) (-1 : Int32)) (nI no) od ow ol ork (upd ob (nN (xs (5 * kq + 1))) (-2 : Int32)) olf oco pn pb pm pcd pw pli ++ oL y o1 v1) ++ oD y o2 d0) (As := [Value.int (xs (5 * kq + 1))]) (rest := []) hx hb hml hown hta zm_X6_launch wd_19_17 (c_X6_launch l D y a' mth t tb tf ts cap clr mov hom wm nw wf wt nb fr bw bl no od ow ol ork olf oco at_ aw mp mpl msh msl mwa mse (xs (5 * kq + 1)) hb8 hb6 hw hfr hat) hN hK hP hD hS hA 0 rfl rfl rfl hl rfl (Nat.le_of_ble_eq_true rfl) ⟨Nat.le_of_ble_eq_true rfl, Nat.le_of_ble_eq_true rfl⟩ ⟨by show cells + 3 + 0 ≤ 3144; omega, by show slots + 18 + 0 ≤ 125590; omega⟩ dL_law_1060 (fun v w' H locs hq hP hD hS => ?_)
    rcases hq with ⟨hm, rfl, rfl⟩ | ⟨hm, r9, rfl, rfl⟩
    · have hP := z_nil hP
      have hD := z_nilD hD
      obtain ⟨bv, hbv⟩ : ∃ z : Int32, z = mov + (1 : Int32) := ⟨_, rfl⟩
      refine zr_top (y := bv) hbv.symm ?_
      refine lv_istore (lv' := [(7, Value.int bv), (6, Value.int 0), (0, Value.ref b), (1, Value.ref (a 0)), (2, Value.ref (a' 0)), (3, Value.ref o1), (4, Value.ref o2), (5, Value.int (nI (5 * kq)))]) hx hb dL_law_1063 hl (by decide) rfl (fun ls hl => ?_)
      refine z_tail (P := 1065) C0 (c_X6_thrown l D y a' (0 : Int32) t tb tf ts cap clr (mov + (1 : Int32)) (nI t) (wm + Int32.toInt64 (ow (nN (xs (5 * kq + 1))))) nw wf wt nb fr bw bl no od ow ol ork olf oco (upd at_ (nN (xs (5 * kq + 1))) (-1 : Int32)) (upd aw (nN (xs (5 * kq + 1))) (if (-1 : Int32) = -1 then 1 else 0)) mp mpl msh msl mwa mse) rfl hP hD hS hl (lv_at hl 4 rfl) (lv_at hl 1 rfl) (lv_at hl 5 rfl) (lv_at hl 0 rfl) (rfl) (fun _ => hv1.trans (congrArg Int32.toInt64 (hbv.symm))) ⟨by show cells + 3 + 0 ≤ 3144; omega, by show slots + 18 + 0 ≤ 125590; omega⟩ dL_law_1065 dL_law_1066 dL_law_1069 dL_law_1071 dL_law_1076 dL_law_1078 dL_law_1081 dL_law_1082 dL_law_1083 dL_law_1084 dL_law_1086 dL_law_1087 dL_law_1088 dL_law_1093 (by decide) (fun H locs hP hD hS => ?_)
      refine W.widen (k := cells + 3) (n := slots + 18) (by omega) (by omega) ?_
      exact kk cap clr t (nI t) (mov + (1 : Int32)) (wm + Int32.toInt64 (ow (nN (xs (5 * kq + 1))))) tb tf ts nw wf wt nb bw bl bi (upd bb (nN (ob (nN (xs (5 * kq + 1))))) (-1 : Int32)) no od ow ol ork (upd ob (nN (xs (5 * kq + 1))) (-2 : Int32)) olf oco pn pb pm pcd pw pli (0 : Int32) fr (upd at_ (nN (xs (5 * kq + 1))) (-1 : Int32)) (upd aw (nN (xs (5 * kq + 1))) (if (-1 : Int32) = -1 then 1 else 0)) mp mpl msh msl mwa mse _ _ _ _ _ (rel_launch hR hm) hP hD hS (lv_sub hl [2, 3, 4, 5, 6, 7] rfl)
    · exact absurd ((ml_la hR _ _ _ _ _ _ _ _ _ _).symm.trans hc1) hm
  · refine lv_istore (lv' := [(6, Value.int (nI (mlC no (xs (5 * kq + 1)) (laR cap clr tb tf ts hom (nI t) (badF wf wt nw (nI t)) ob olf bb od ow bi nb (nN (xs (5 * kq + 1))))))), (0, Value.ref b), (1, Value.ref (a 0)), (2, Value.ref (a' 0)), (3, Value.ref o1), (4, Value.ref o2), (5, Value.int (nI (5 * kq)))]) hx hb dL_law_1051 hl (by decide) rfl (fun ls hl => ?_)
    refine lv_aload_n hx hb dL_law_1053 rfl (lv_at hl 3 rfl) ?_
    refine z_arg (i := 1) C0 (by omega) hL hS (lv_at hl 1 rfl) (lv_at hl 6 rfl) (by decide) dL_law_1054 dL_law_1055 dL_law_1057 dL_law_1058 dL_law_1059 ?_
    refine z_callVF (wa := []) (w1 := wM a' y mth (nI t) tb tf ts cap clr mov hom wm (nI nw) wf wt (nI nb) fr bw bl (nI no) od ow ol ork olf oco at_ aw mp mpl msh msl mwa mse) (wb := (wB a y cap clr (nI t) hom mov wm tb tf ts (nI nw) wf wt (nI nb) bw bl bi bb (nI no) od ow ol ork ob olf oco pn pb pm pcd pw pli ++ oL y o1 v0) ++ oD y o2 d0) (As := [Value.int (xs (5 * kq + 1))]) (rest := []) hx hb hml hown hta zm_X6_launch wd_19_17 (c_X6_launch l D y a' mth t tb tf ts cap clr mov hom wm nw wf wt nb fr bw bl no od ow ol ork olf oco at_ aw mp mpl msh msl mwa mse (xs (5 * kq + 1)) hb8 hb6 hw hfr hat) hN hK hP hD hS hA 0 rfl rfl rfl hl rfl (Nat.le_of_ble_eq_true rfl) ⟨Nat.le_of_ble_eq_true rfl, Nat.le_of_ble_eq_true rfl⟩ ⟨by show cells + 3 + 0 ≤ 3144; omega, by show slots + 18 + 0 ≤ 125590; omega⟩ dL_law_1060 (fun v w' H locs hq hP hD hS => ?_)
    rcases hq with ⟨hm, rfl, rfl⟩ | ⟨hm, r9, rfl, rfl⟩
    · exact absurd ((ml_la hR _ _ _ _ _ _ _ _ _ _).trans hm) hc1
    · have hP := z_nil hP
      have hD := z_nilD hD
      refine lv_istore (lv' := [(7, Value.int r9), (6, Value.int (nI (mlC no (xs (5 * kq + 1)) (laR cap clr tb tf ts hom (nI t) (badF wf wt nw (nI t)) ob olf bb od ow bi nb (nN (xs (5 * kq + 1))))))), (0, Value.ref b), (1, Value.ref (a 0)), (2, Value.ref (a' 0)), (3, Value.ref o1), (4, Value.ref o2), (5, Value.int (nI (5 * kq)))]) hx hb dL_law_1063 hl (by decide) rfl (fun ls hl => ?_)
      refine z_tail (P := 1065) C0 (c_X6_thrown l D y a' (nI (mlC no (xs (5 * kq + 1)) (lnM cap clr tb tf ts hom (nI t) (badF wf wt nw (nI t)) at_ olf fr od ow no (nN (xs (5 * kq + 1)))))) t tb tf ts cap clr mov hom wm nw wf wt nb fr bw bl no od ow ol ork olf oco at_ aw mp mpl msh msl mwa mse) rfl hP hD hS hl (lv_at hl 4 rfl) (lv_at hl 1 rfl) (lv_at hl 5 rfl) (lv_at hl 0 rfl) (congrArg nI (ml_la hR _ _ _ _ _ _ _ _ _ _).symm) (fun z => absurd z (nI_n0 hc1 c4_mlC)) ⟨by show cells + 3 + 0 ≤ 3144; omega, by show slots + 18 + 0 ≤ 125590; omega⟩ dL_law_1065 dL_law_1066 dL_law_1069 dL_law_1071 dL_law_1076 dL_law_1078 dL_law_1081 dL_law_1082 dL_law_1083 dL_law_1084 dL_law_1086 dL_law_1087 dL_law_1088 dL_law_1093 (by decide) (fun H locs hP hD hS => ?_)
      refine W.widen (k := cells + 3) (n := slots + 18) (by omega) (by omega) ?_
      exact kk cap clr t hom mov wm tb tf ts nw wf wt nb bw bl bi bb no od ow ol ork ob olf oco pn pb pm pcd pw pli (nI (mlC no (xs (5 * kq + 1)) (lnM cap clr tb tf ts hom (nI t) (badF wf wt nw (nI t)) at_ olf fr od ow no (nN (xs (5 * kq + 1)))))) fr at_ aw mp mpl msh msl mwa mse _ _ _ _ _ (hR) hP hD hS (lv_sub hl [2, 3, 4, 5, 6, 7] rfl)
set_option maxHeartbeats 1600000 in
set_option maxRecDepth 100000 in
theorem lc_14 {p : Program} {l : Launch} {e : Env} {s : State} {m : MethodId} {below : List Frame} {meth : Method} {c : Code} {D : va_G} {y : Nat → ClassId} {b L : Nat} {xs : Nat → Int32} {a a' : Nat → Nat} {o1 o2 kq cells slots : Nat} {G : State → Prop} (hlt : l.stackTraces = false) (C0 : LC p s m meth c b L xs D y) (hk : 5 * kq + 5 ≤ L) (hL : L ≤ 2560) (hc : cells + 3 ≤ 3144 ∧ slots + 18 ≤ 125590) (kk : LawK p l e s m below meth c D y b a a' o1 o2 kq (cells + 3) (slots + 18) 2118 G) : LawK p l e s m below meth c D y b a a' o1 o2 kq cells slots 1096 G := by
  intro cap clr t hom mov wm tb tf ts nw wf wt nb bw bl bi bb no od ow ol ork ob olf oco pn pb pm pcd pw pli mth fr at_ aw mp mpl msh msl mwa mse v0 d0 H locs ls hR hP hD hS hl
  have C1 := C0
  obtain ⟨hx, hb, hr, hml, hown, hta, hX, hbl, hlocks, hN, hH, hK⟩ := C1
  have hA : ∀ q, s.heap.size ≤ q → lwA s q := fun _ h => h
  have hb8 := hR.1.2.2.2
  have hb6 := hR.1.2.2.1
  have hw := hR.1.2.1
  have ht := hR.1.1
  have hsp := hR.2.1
  have hol := hR.2.2.1
  have hfr := fr_hfr (rel_fr hR)
  have hat := (rel_va hR).1
  refine lv_aload_n hx hb dL_law_1096 rfl (lv_at hl 1 rfl) ?_
  refine z_arg (i := 1) C0 (by omega) hL hS (lv_at hl 0 rfl) (lv_at hl 5 rfl) (by decide) dL_law_1097 dL_law_1098 dL_law_1100 dL_law_1101 dL_law_1102 ?_
  refine lv_aload_n hx hb dL_law_1103 rfl (lv_at hl 3 rfl) ?_
  refine z_callWr (wa := wM a' y mth (nI t) tb tf ts cap clr mov hom wm (nI nw) wf wt (nI nb) fr bw bl (nI no) od ow ol ork olf oco at_ aw mp mpl msh msl mwa mse) (w1 := wB a y cap clr (nI t) hom mov wm tb tf ts (nI nw) wf wt (nI nb) bw bl bi bb (nI no) od ow ol ork ob olf oco pn pb pm pcd pw pli ++ oL y o1 v0) (wb := oD y o2 d0) (As := [Value.ref (a 0), Value.int (xs (5 * kq + 1)), Value.ref o1]) (rest := []) hx hb hml hown hta zw_launchReason wd_20_1 (c_L_launchReason l hlt D y a cap clr t hom mov wm tb tf ts nw wf wt nb bw bl bi bb no od ow ol ork ob olf oco pn pb pm pcd pw pli (xs (5 * kq + 1)) hb8 hb6 hw o1 v0) hH hN hK hP hD hS hA rfl hl rfl (Nat.le_of_ble_eq_true rfl) ⟨Nat.le_of_ble_eq_true rfl, Nat.le_of_ble_eq_true rfl⟩ ⟨by show cells + 1 ≤ 3144; omega, by show slots + 6 ≤ 125590; omega⟩ dL_law_1104 (fun v w' H locs hq hP hD hS => ?_)
  rcases hq with ⟨hc1, v1, hv1, rfl, rfl⟩ | ⟨hc1, rfl, rfl⟩
  · refine lv_istore (lv' := [(6, Value.int 0), (0, Value.ref b), (1, Value.ref (a 0)), (2, Value.ref (a' 0)), (3, Value.ref o1), (4, Value.ref o2), (5, Value.int (nI (5 * kq)))]) hx hb dL_law_1107 hl (by decide) rfl (fun ls hl => ?_)
    refine lv_aload_n hx hb dL_law_1109 rfl (lv_at hl 3 rfl) ?_
    refine z_arg (i := 1) C0 (by omega) hL hS (lv_at hl 1 rfl) (lv_at hl 6 rfl) (by decide) dL_law_1110 dL_law_1111 dL_law_1113 dL_law_1114 dL_law_1115 ?_
    refine z_callVF (wa := []) (w1 := wM a' y mth (nI t) tb tf ts cap clr mov hom wm (nI nw) wf wt (nI nb) fr bw bl (nI no) od ow ol ork olf oco at_ aw mp mpl msh msl mwa mse) (wb := (wB a y cap clr (nI t) hom mov wm tb tf ts (nI nw) wf wt (nI nb) bw bl bi bb (nI no) od ow ol ork ob olf oco pn pb pm pcd pw pli ++ oL y o1 v1) ++ oD y o2 d0) (As := [Value.int (xs (5 * kq + 1))]) (rest := []) hx hb hml hown hta zm_X6_launchReason wd_20_8 (c_X6_launchReason l D y a' mth t tb tf ts cap clr mov hom wm nw wf wt nb fr bw bl no od ow ol ork olf oco at_ aw mp mpl msh msl mwa mse (xs (5 * kq + 1)) hb8 hb6 hw hfr hat) hN hK hP hD hS hA 0 rfl rfl rfl hl rfl (Nat.le_of_ble_eq_true rfl) ⟨Nat.le_of_ble_eq_true rfl, Nat.le_of_ble_eq_true rfl⟩ ⟨by show cells + 1 + 0 ≤ 3144; omega, by show slots + 6 + 0 ≤ 125590; omega⟩ dL_law_1116 (fun v w' H locs hq hP hD hS => ?_)
    rcases hq with ⟨hm, rfl, rfl⟩ | ⟨hm, r9, rfl, rfl⟩
    · have hP := z_nil hP
      have hD := z_nilD hD
      obtain ⟨bv, hbv⟩ : ∃ z : Int32, z = lnM cap clr tb tf ts hom (nI t) (badF wf wt nw (nI t)) at_ olf fr od ow no (nN (xs (5 * kq + 1))) := ⟨_, rfl⟩
      refine zr_top (y := bv) hbv.symm ?_
      refine lv_istore (lv' := [(7, Value.int bv), (6, Value.int 0), (0, Value.ref b), (1, Value.ref (a 0)), (2, Value.ref (a' 0)), (3, Value.ref o1), (4, Value.ref o2), (5, Value.int (nI (5 * kq)))]) hx hb dL_law_1119 hl (by decide) rfl (fun ls hl => ?_)
      refine z_tail (P := 1121) C0 (c_X6_thrown l D y a' (0 : Int32) t tb tf ts cap clr mov hom wm nw wf wt nb fr bw bl no od ow ol ork olf oco at_ aw mp mpl msh msl mwa mse) rfl hP hD hS hl (lv_at hl 4 rfl) (lv_at hl 1 rfl) (lv_at hl 5 rfl) (lv_at hl 0 rfl) (rfl) (fun _ => hv1.trans (congrArg Int32.toInt64 ((bo_la hR _ _ _ _ _ _ _ _ _ hc1).trans hbv.symm))) ⟨by show cells + 1 + 0 ≤ 3144; omega, by show slots + 6 + 0 ≤ 125590; omega⟩ dL_law_1121 dL_law_1122 dL_law_1125 dL_law_1127 dL_law_1132 dL_law_1134 dL_law_1137 dL_law_1138 dL_law_1139 dL_law_1140 dL_law_1142 dL_law_1143 dL_law_1144 dL_law_1149 (by decide) (fun H locs hP hD hS => ?_)
      refine W.widen (k := cells + 3) (n := slots + 18) (by omega) (by omega) ?_
      exact kk cap clr t hom mov wm tb tf ts nw wf wt nb bw bl bi bb no od ow ol ork ob olf oco pn pb pm pcd pw pli (0 : Int32) fr at_ aw mp mpl msh msl mwa mse _ _ _ _ _ (hR) hP hD hS (lv_sub hl [2, 3, 4, 5, 6, 7] rfl)
    · exact absurd (hc1) hm
  · refine lv_istore (lv' := [(6, Value.int (nI (boC no (xs (5 * kq + 1))))), (0, Value.ref b), (1, Value.ref (a 0)), (2, Value.ref (a' 0)), (3, Value.ref o1), (4, Value.ref o2), (5, Value.int (nI (5 * kq)))]) hx hb dL_law_1107 hl (by decide) rfl (fun ls hl => ?_)
    refine lv_aload_n hx hb dL_law_1109 rfl (lv_at hl 3 rfl) ?_
    refine z_arg (i := 1) C0 (by omega) hL hS (lv_at hl 1 rfl) (lv_at hl 6 rfl) (by decide) dL_law_1110 dL_law_1111 dL_law_1113 dL_law_1114 dL_law_1115 ?_
    refine z_callVF (wa := []) (w1 := wM a' y mth (nI t) tb tf ts cap clr mov hom wm (nI nw) wf wt (nI nb) fr bw bl (nI no) od ow ol ork olf oco at_ aw mp mpl msh msl mwa mse) (wb := (wB a y cap clr (nI t) hom mov wm tb tf ts (nI nw) wf wt (nI nb) bw bl bi bb (nI no) od ow ol ork ob olf oco pn pb pm pcd pw pli ++ oL y o1 v0) ++ oD y o2 d0) (As := [Value.int (xs (5 * kq + 1))]) (rest := []) hx hb hml hown hta zm_X6_launchReason wd_20_8 (c_X6_launchReason l D y a' mth t tb tf ts cap clr mov hom wm nw wf wt nb fr bw bl no od ow ol ork olf oco at_ aw mp mpl msh msl mwa mse (xs (5 * kq + 1)) hb8 hb6 hw hfr hat) hN hK hP hD hS hA 0 rfl rfl rfl hl rfl (Nat.le_of_ble_eq_true rfl) ⟨Nat.le_of_ble_eq_true rfl, Nat.le_of_ble_eq_true rfl⟩ ⟨by show cells + 1 + 0 ≤ 3144; omega, by show slots + 6 + 0 ≤ 125590; omega⟩ dL_law_1116 (fun v w' H locs hq hP hD hS => ?_)
    rcases hq with ⟨hm, rfl, rfl⟩ | ⟨hm, r9, rfl, rfl⟩
    · exact absurd (hm) hc1
    · have hP := z_nil hP
      have hD := z_nilD hD
      refine lv_istore (lv' := [(7, Value.int r9), (6, Value.int (nI (boC no (xs (5 * kq + 1))))), (0, Value.ref b), (1, Value.ref (a 0)), (2, Value.ref (a' 0)), (3, Value.ref o1), (4, Value.ref o2), (5, Value.int (nI (5 * kq)))]) hx hb dL_law_1119 hl (by decide) rfl (fun ls hl => ?_)
      refine z_tail (P := 1121) C0 (c_X6_thrown l D y a' (nI (boC no (xs (5 * kq + 1)))) t tb tf ts cap clr mov hom wm nw wf wt nb fr bw bl no od ow ol ork olf oco at_ aw mp mpl msh msl mwa mse) rfl hP hD hS hl (lv_at hl 4 rfl) (lv_at hl 1 rfl) (lv_at hl 5 rfl) (lv_at hl 0 rfl) (rfl) (fun z => absurd z (nI_n0 hc1 c4_boC)) ⟨by show cells + 1 + 0 ≤ 3144; omega, by show slots + 6 + 0 ≤ 125590; omega⟩ dL_law_1121 dL_law_1122 dL_law_1125 dL_law_1127 dL_law_1132 dL_law_1134 dL_law_1137 dL_law_1138 dL_law_1139 dL_law_1140 dL_law_1142 dL_law_1143 dL_law_1144 dL_law_1149 (by decide) (fun H locs hP hD hS => ?_)
      refine W.widen (k := cells + 3) (n := slots + 18) (by omega) (by omega) ?_
      exact kk cap clr t hom mov wm tb tf ts nw wf wt nb bw bl bi bb no od ow ol ork ob olf oco pn pb pm pcd pw pli (nI (boC no (xs (5 * kq + 1)))) fr at_ aw mp mpl msh msl mwa mse _ _ _ _ _ (hR) hP hD hS (lv_sub hl [2, 3, 4, 5, 6, 7] rfl)
set_option maxHeartbeats 1600000 in
set_option maxRecDepth 100000 in
theorem lc_15 {p : Program} {l : Launch} {e : Env} {s : State} {m : MethodId} {below : List Frame} {meth : Method} {c : Code} {D : va_G} {y : Nat → ClassId} {b L : Nat} {xs : Nat → Int32} {a a' : Nat → Nat} {o1 o2 kq cells slots : Nat} {G : State → Prop} (hlt : l.stackTraces = false) (C0 : LC p s m meth c b L xs D y) (hk : 5 * kq + 5 ≤ L) (hL : L ≤ 2560) (hc : cells + 3 ≤ 3144 ∧ slots + 18 ≤ 125590) (kk : LawK p l e s m below meth c D y b a a' o1 o2 kq (cells + 3) (slots + 18) 2118 G) : LawK p l e s m below meth c D y b a a' o1 o2 kq cells slots 1152 G := by
  intro cap clr t hom mov wm tb tf ts nw wf wt nb bw bl bi bb no od ow ol ork ob olf oco pn pb pm pcd pw pli mth fr at_ aw mp mpl msh msl mwa mse v0 d0 H locs ls hR hP hD hS hl
  have C1 := C0
  obtain ⟨hx, hb, hr, hml, hown, hta, hX, hbl, hlocks, hN, hH, hK⟩ := C1
  have hA : ∀ q, s.heap.size ≤ q → lwA s q := fun _ h => h
  have hb8 := hR.1.2.2.2
  have hb6 := hR.1.2.2.1
  have hw := hR.1.2.1
  have ht := hR.1.1
  have hsp := hR.2.1
  have hol := hR.2.2.1
  have hfr := fr_hfr (rel_fr hR)
  have hat := (rel_va hR).1
  refine lv_aload_n hx hb dL_law_1152 rfl (lv_at hl 1 rfl) ?_
  refine z_arg (i := 1) C0 (by omega) hL hS (lv_at hl 0 rfl) (lv_at hl 5 rfl) (by decide) dL_law_1153 dL_law_1154 dL_law_1156 dL_law_1157 dL_law_1158 ?_
  refine z_arg (i := 2) C0 (by omega) hL hS (lv_at hl 0 rfl) (lv_at hl 5 rfl) (by decide) dL_law_1159 dL_law_1160 dL_law_1162 dL_law_1163 dL_law_1164 ?_
  refine lv_aload_n hx hb dL_law_1165 rfl (lv_at hl 3 rfl) ?_
  refine z_callWr (wa := wM a' y mth (nI t) tb tf ts cap clr mov hom wm (nI nw) wf wt (nI nb) fr bw bl (nI no) od ow ol ork olf oco at_ aw mp mpl msh msl mwa mse) (w1 := wB a y cap clr (nI t) hom mov wm tb tf ts (nI nw) wf wt (nI nb) bw bl bi bb (nI no) od ow ol ork ob olf oco pn pb pm pcd pw pli ++ oL y o1 v0) (wb := oD y o2 d0) (As := [Value.ref (a 0), Value.int (xs (5 * kq + 1)), Value.int (xs (5 * kq + 2)), Value.ref o1]) (rest := []) hx hb hml hown hta zw_shift wd_20_12 (c_L_shift l hlt D y a cap clr t hom mov wm tb tf ts nw wf wt nb bw bl bi bb no od ow ol ork ob olf oco pn pb pm pcd pw pli (xs (5 * kq + 1)) (xs (5 * kq + 2)) hb8 hb6 hw o1 v0) hH hN hK hP hD hS hA rfl hl rfl (Nat.le_of_ble_eq_true rfl) ⟨Nat.le_of_ble_eq_true rfl, Nat.le_of_ble_eq_true rfl⟩ ⟨by show cells + 3 ≤ 3144; omega, by show slots + 18 ≤ 125590; omega⟩ dL_law_1166 (fun v w' H locs hq hP hD hS => ?_)
  rcases hq with ⟨hc1, v1, hv1, rfl, rfl⟩ | ⟨hc1, rfl, rfl⟩
  · refine lv_istore (lv' := [(6, Value.int 0), (0, Value.ref b), (1, Value.ref (a 0)), (2, Value.ref (a' 0)), (3, Value.ref o1), (4, Value.ref o2), (5, Value.int (nI (5 * kq)))]) hx hb dL_law_1169 hl (by decide) rfl (fun ls hl => ?_)
    refine lv_aload_n hx hb dL_law_1171 rfl (lv_at hl 3 rfl) ?_
    refine z_arg (i := 1) C0 (by omega) hL hS (lv_at hl 1 rfl) (lv_at hl 6 rfl) (by decide) dL_law_1172 dL_law_1173 dL_law_1175 dL_law_1176 dL_law_1177 ?_
    refine z_arg (i := 2) C0 (by omega) hL hS (lv_at hl 1 rfl) (lv_at hl 6 rfl) (by decide) dL_law_1178 dL_law_1179 dL_law_1181 dL_law_1182 dL_law_1183 ?_
    refine z_callVF (wa := []) (w1 := wM a' y mth (nI t) tb tf ts cap clr mov hom wm (nI nw) wf wt (nI nb) fr bw bl (nI no) od ow ol ork olf oco at_ aw mp mpl msh msl mwa mse) (wb := (wB a y cap clr (nI t) (nI t) (mov + (1 : Int32)) (wm + Int32.toInt64 (ow (nN (xs (5 * kq + 1))))) tb tf ts (nI nw) wf wt (nI nb) bw bl bi (upd (upd bb (nN (ob (nN (xs (5 * kq + 1))))) (-1 : Int32)) (nN (xs (5 * kq + 2))) (xs (5 * kq + 1))) (nI no) od ow ol ork (upd ob (nN (xs (5 * kq + 1))) (xs (5 * kq + 2))) olf oco pn pb pm pcd pw pli ++ oL y o1 v1) ++ oD y o2 d0) (As := [Value.int (xs (5 * kq + 1)), Value.int (xs (5 * kq + 2))]) (rest := []) hx hb hml hown hta zm_X6_shift wd_21_3 (c_X6_shift l D y a' mth t tb tf ts cap clr mov hom wm nw wf wt nb fr bw bl no od ow ol ork olf oco at_ aw mp mpl msh msl mwa mse (xs (5 * kq + 1)) (xs (5 * kq + 2)) hb8 hb6 hw hfr hat) hN hK hP hD hS hA 0 rfl rfl rfl hl rfl (Nat.le_of_ble_eq_true rfl) ⟨Nat.le_of_ble_eq_true rfl, Nat.le_of_ble_eq_true rfl⟩ ⟨by show cells + 3 + 0 ≤ 3144; omega, by show slots + 18 + 0 ≤ 125590; omega⟩ dL_law_1184 (fun v w' H locs hq hP hD hS => ?_)
    rcases hq with ⟨hm, rfl, rfl⟩ | ⟨hm, r9, rfl, rfl⟩
    · have hP := z_nil hP
      have hD := z_nilD hD
      obtain ⟨bv, hbv⟩ : ∃ z : Int32, z = mov + (1 : Int32) := ⟨_, rfl⟩
      refine zr_top (y := bv) hbv.symm ?_
      refine lv_istore (lv' := [(7, Value.int bv), (6, Value.int 0), (0, Value.ref b), (1, Value.ref (a 0)), (2, Value.ref (a' 0)), (3, Value.ref o1), (4, Value.ref o2), (5, Value.int (nI (5 * kq)))]) hx hb dL_law_1187 hl (by decide) rfl (fun ls hl => ?_)
      refine z_tail (P := 1189) C0 (c_X6_thrown l D y a' (0 : Int32) t tb tf ts cap clr (mov + (1 : Int32)) (nI t) (wm + Int32.toInt64 (ow (nN (xs (5 * kq + 1))))) nw wf wt nb fr bw bl no od ow ol ork olf oco (upd at_ (nN (xs (5 * kq + 1))) (xs (5 * kq + 2))) (upd aw (nN (xs (5 * kq + 1))) (if (xs (5 * kq + 2)) = -1 then 1 else 0)) mp mpl msh msl mwa mse) rfl hP hD hS hl (lv_at hl 4 rfl) (lv_at hl 1 rfl) (lv_at hl 5 rfl) (lv_at hl 0 rfl) (rfl) (fun _ => hv1.trans (congrArg Int32.toInt64 (hbv.symm))) ⟨by show cells + 3 + 0 ≤ 3144; omega, by show slots + 18 + 0 ≤ 125590; omega⟩ dL_law_1189 dL_law_1190 dL_law_1193 dL_law_1195 dL_law_1200 dL_law_1202 dL_law_1205 dL_law_1206 dL_law_1207 dL_law_1208 dL_law_1210 dL_law_1211 dL_law_1212 dL_law_1217 (by decide) (fun H locs hP hD hS => ?_)
      refine W.widen (k := cells + 3) (n := slots + 18) (by omega) (by omega) ?_
      exact kk cap clr t (nI t) (mov + (1 : Int32)) (wm + Int32.toInt64 (ow (nN (xs (5 * kq + 1))))) tb tf ts nw wf wt nb bw bl bi (upd (upd bb (nN (ob (nN (xs (5 * kq + 1))))) (-1 : Int32)) (nN (xs (5 * kq + 2))) (xs (5 * kq + 1))) no od ow ol ork (upd ob (nN (xs (5 * kq + 1))) (xs (5 * kq + 2))) olf oco pn pb pm pcd pw pli (0 : Int32) fr (upd at_ (nN (xs (5 * kq + 1))) (xs (5 * kq + 2))) (upd aw (nN (xs (5 * kq + 1))) (if (xs (5 * kq + 2)) = -1 then 1 else 0)) mp mpl msh msl mwa mse _ _ _ _ _ (rel_shift hR hm) hP hD hS (lv_sub hl [2, 3, 4, 5, 6, 7] rfl)
    · exact absurd ((mv_sh hR _ _ _ _ _ _ _ _ _).symm.trans hc1) hm
  · refine lv_istore (lv' := [(6, Value.int (nI (mvC no nb (xs (5 * kq + 1)) (xs (5 * kq + 2)) (shR cap hom (nI t) (badF wf wt nw (nI t)) ob olf ow ol bw bl bi bb nb (nN (xs (5 * kq + 1))) (nN (xs (5 * kq + 2))))))), (0, Value.ref b), (1, Value.ref (a 0)), (2, Value.ref (a' 0)), (3, Value.ref o1), (4, Value.ref o2), (5, Value.int (nI (5 * kq)))]) hx hb dL_law_1169 hl (by decide) rfl (fun ls hl => ?_)
    refine lv_aload_n hx hb dL_law_1171 rfl (lv_at hl 3 rfl) ?_
    refine z_arg (i := 1) C0 (by omega) hL hS (lv_at hl 1 rfl) (lv_at hl 6 rfl) (by decide) dL_law_1172 dL_law_1173 dL_law_1175 dL_law_1176 dL_law_1177 ?_
    refine z_arg (i := 2) C0 (by omega) hL hS (lv_at hl 1 rfl) (lv_at hl 6 rfl) (by decide) dL_law_1178 dL_law_1179 dL_law_1181 dL_law_1182 dL_law_1183 ?_
    refine z_callVF (wa := []) (w1 := wM a' y mth (nI t) tb tf ts cap clr mov hom wm (nI nw) wf wt (nI nb) fr bw bl (nI no) od ow ol ork olf oco at_ aw mp mpl msh msl mwa mse) (wb := (wB a y cap clr (nI t) hom mov wm tb tf ts (nI nw) wf wt (nI nb) bw bl bi bb (nI no) od ow ol ork ob olf oco pn pb pm pcd pw pli ++ oL y o1 v0) ++ oD y o2 d0) (As := [Value.int (xs (5 * kq + 1)), Value.int (xs (5 * kq + 2))]) (rest := []) hx hb hml hown hta zm_X6_shift wd_21_3 (c_X6_shift l D y a' mth t tb tf ts cap clr mov hom wm nw wf wt nb fr bw bl no od ow ol ork olf oco at_ aw mp mpl msh msl mwa mse (xs (5 * kq + 1)) (xs (5 * kq + 2)) hb8 hb6 hw hfr hat) hN hK hP hD hS hA 0 rfl rfl rfl hl rfl (Nat.le_of_ble_eq_true rfl) ⟨Nat.le_of_ble_eq_true rfl, Nat.le_of_ble_eq_true rfl⟩ ⟨by show cells + 3 + 0 ≤ 3144; omega, by show slots + 18 + 0 ≤ 125590; omega⟩ dL_law_1184 (fun v w' H locs hq hP hD hS => ?_)
    rcases hq with ⟨hm, rfl, rfl⟩ | ⟨hm, r9, rfl, rfl⟩
    · exact absurd ((mv_sh hR _ _ _ _ _ _ _ _ _).trans hm) hc1
    · have hP := z_nil hP
      have hD := z_nilD hD
      refine lv_istore (lv' := [(7, Value.int r9), (6, Value.int (nI (mvC no nb (xs (5 * kq + 1)) (xs (5 * kq + 2)) (shR cap hom (nI t) (badF wf wt nw (nI t)) ob olf ow ol bw bl bi bb nb (nN (xs (5 * kq + 1))) (nN (xs (5 * kq + 2))))))), (0, Value.ref b), (1, Value.ref (a 0)), (2, Value.ref (a' 0)), (3, Value.ref o1), (4, Value.ref o2), (5, Value.int (nI (5 * kq)))]) hx hb dL_law_1187 hl (by decide) rfl (fun ls hl => ?_)
      refine z_tail (P := 1189) C0 (c_X6_thrown l D y a' (nI (mvC no nb (xs (5 * kq + 1)) (xs (5 * kq + 2)) (snM cap hom (nI t) (badF wf wt nw (nI t)) at_ olf fr ow ol bw bl no (nN (xs (5 * kq + 1))) (nN (xs (5 * kq + 2)))))) t tb tf ts cap clr mov hom wm nw wf wt nb fr bw bl no od ow ol ork olf oco at_ aw mp mpl msh msl mwa mse) rfl hP hD hS hl (lv_at hl 4 rfl) (lv_at hl 1 rfl) (lv_at hl 5 rfl) (lv_at hl 0 rfl) (congrArg nI (mv_sh hR _ _ _ _ _ _ _ _ _).symm) (fun z => absurd z (nI_n0 hc1 c4_mvC)) ⟨by show cells + 3 + 0 ≤ 3144; omega, by show slots + 18 + 0 ≤ 125590; omega⟩ dL_law_1189 dL_law_1190 dL_law_1193 dL_law_1195 dL_law_1200 dL_law_1202 dL_law_1205 dL_law_1206 dL_law_1207 dL_law_1208 dL_law_1210 dL_law_1211 dL_law_1212 dL_law_1217 (by decide) (fun H locs hP hD hS => ?_)
      refine W.widen (k := cells + 3) (n := slots + 18) (by omega) (by omega) ?_
      exact kk cap clr t hom mov wm tb tf ts nw wf wt nb bw bl bi bb no od ow ol ork ob olf oco pn pb pm pcd pw pli (nI (mvC no nb (xs (5 * kq + 1)) (xs (5 * kq + 2)) (snM cap hom (nI t) (badF wf wt nw (nI t)) at_ olf fr ow ol bw bl no (nN (xs (5 * kq + 1))) (nN (xs (5 * kq + 2)))))) fr at_ aw mp mpl msh msl mwa mse _ _ _ _ _ (hR) hP hD hS (lv_sub hl [2, 3, 4, 5, 6, 7] rfl)
set_option maxHeartbeats 1600000 in
set_option maxRecDepth 100000 in
theorem lc_16 {p : Program} {l : Launch} {e : Env} {s : State} {m : MethodId} {below : List Frame} {meth : Method} {c : Code} {D : va_G} {y : Nat → ClassId} {b L : Nat} {xs : Nat → Int32} {a a' : Nat → Nat} {o1 o2 kq cells slots : Nat} {G : State → Prop} (hlt : l.stackTraces = false) (C0 : LC p s m meth c b L xs D y) (hk : 5 * kq + 5 ≤ L) (hL : L ≤ 2560) (hc : cells + 3 ≤ 3144 ∧ slots + 18 ≤ 125590) (kk : LawK p l e s m below meth c D y b a a' o1 o2 kq (cells + 3) (slots + 18) 2118 G) : LawK p l e s m below meth c D y b a a' o1 o2 kq cells slots 1220 G := by
  intro cap clr t hom mov wm tb tf ts nw wf wt nb bw bl bi bb no od ow ol ork ob olf oco pn pb pm pcd pw pli mth fr at_ aw mp mpl msh msl mwa mse v0 d0 H locs ls hR hP hD hS hl
  have C1 := C0
  obtain ⟨hx, hb, hr, hml, hown, hta, hX, hbl, hlocks, hN, hH, hK⟩ := C1
  have hA : ∀ q, s.heap.size ≤ q → lwA s q := fun _ h => h
  have hb8 := hR.1.2.2.2
  have hb6 := hR.1.2.2.1
  have hw := hR.1.2.1
  have ht := hR.1.1
  have hsp := hR.2.1
  have hol := hR.2.2.1
  have hfr := fr_hfr (rel_fr hR)
  have hat := (rel_va hR).1
  refine lv_aload_n hx hb dL_law_1220 rfl (lv_at hl 1 rfl) ?_
  refine z_arg (i := 1) C0 (by omega) hL hS (lv_at hl 0 rfl) (lv_at hl 5 rfl) (by decide) dL_law_1221 dL_law_1222 dL_law_1224 dL_law_1225 dL_law_1226 ?_
  refine z_arg (i := 2) C0 (by omega) hL hS (lv_at hl 0 rfl) (lv_at hl 5 rfl) (by decide) dL_law_1227 dL_law_1228 dL_law_1230 dL_law_1231 dL_law_1232 ?_
  refine lv_aload_n hx hb dL_law_1233 rfl (lv_at hl 3 rfl) ?_
  refine z_callWr (wa := wM a' y mth (nI t) tb tf ts cap clr mov hom wm (nI nw) wf wt (nI nb) fr bw bl (nI no) od ow ol ork olf oco at_ aw mp mpl msh msl mwa mse) (w1 := wB a y cap clr (nI t) hom mov wm tb tf ts (nI nw) wf wt (nI nb) bw bl bi bb (nI no) od ow ol ork ob olf oco pn pb pm pcd pw pli ++ oL y o1 v0) (wb := oD y o2 d0) (As := [Value.ref (a 0), Value.int (xs (5 * kq + 1)), Value.int (xs (5 * kq + 2)), Value.ref o1]) (rest := []) hx hb hml hown hta zw_shiftReason wd_21_15 (c_L_shiftReason l hlt D y a cap clr t hom mov wm tb tf ts nw wf wt nb bw bl bi bb no od ow ol ork ob olf oco pn pb pm pcd pw pli (xs (5 * kq + 1)) (xs (5 * kq + 2)) hb8 hb6 hw o1 v0) hH hN hK hP hD hS hA rfl hl rfl (Nat.le_of_ble_eq_true rfl) ⟨Nat.le_of_ble_eq_true rfl, Nat.le_of_ble_eq_true rfl⟩ ⟨by show cells + 2 ≤ 3144; omega, by show slots + 12 ≤ 125590; omega⟩ dL_law_1234 (fun v w' H locs hq hP hD hS => ?_)
  rcases hq with ⟨hc1, v1, hv1, rfl, rfl⟩ | ⟨hc1, rfl, rfl⟩
  · refine lv_istore (lv' := [(6, Value.int 0), (0, Value.ref b), (1, Value.ref (a 0)), (2, Value.ref (a' 0)), (3, Value.ref o1), (4, Value.ref o2), (5, Value.int (nI (5 * kq)))]) hx hb dL_law_1237 hl (by decide) rfl (fun ls hl => ?_)
    refine lv_aload_n hx hb dL_law_1239 rfl (lv_at hl 3 rfl) ?_
    refine z_arg (i := 1) C0 (by omega) hL hS (lv_at hl 1 rfl) (lv_at hl 6 rfl) (by decide) dL_law_1240 dL_law_1241 dL_law_1243 dL_law_1244 dL_law_1245 ?_
    refine z_arg (i := 2) C0 (by omega) hL hS (lv_at hl 1 rfl) (lv_at hl 6 rfl) (by decide) dL_law_1246 dL_law_1247 dL_law_1249 dL_law_1250 dL_law_1251 ?_
    refine z_callVF (wa := []) (w1 := wM a' y mth (nI t) tb tf ts cap clr mov hom wm (nI nw) wf wt (nI nb) fr bw bl (nI no) od ow ol ork olf oco at_ aw mp mpl msh msl mwa mse) (wb := (wB a y cap clr (nI t) hom mov wm tb tf ts (nI nw) wf wt (nI nb) bw bl bi bb (nI no) od ow ol ork ob olf oco pn pb pm pcd pw pli ++ oL y o1 v1) ++ oD y o2 d0) (As := [Value.int (xs (5 * kq + 1)), Value.int (xs (5 * kq + 2))]) (rest := []) hx hb hml hown hta zm_X6_shiftReason wd_21_22 (c_X6_shiftReason l D y a' mth t tb tf ts cap clr mov hom wm nw wf wt nb fr bw bl no od ow ol ork olf oco at_ aw mp mpl msh msl mwa mse (xs (5 * kq + 1)) (xs (5 * kq + 2)) hb8 hb6 hw hfr hat) hN hK hP hD hS hA 0 rfl rfl rfl hl rfl (Nat.le_of_ble_eq_true rfl) ⟨Nat.le_of_ble_eq_true rfl, Nat.le_of_ble_eq_true rfl⟩ ⟨by show cells + 2 + 0 ≤ 3144; omega, by show slots + 12 + 0 ≤ 125590; omega⟩ dL_law_1252 (fun v w' H locs hq hP hD hS => ?_)
    rcases hq with ⟨hm, rfl, rfl⟩ | ⟨hm, r9, rfl, rfl⟩
    · have hP := z_nil hP
      have hD := z_nilD hD
      obtain ⟨bv, hbv⟩ : ∃ z : Int32, z = snM cap hom (nI t) (badF wf wt nw (nI t)) at_ olf fr ow ol bw bl no (nN (xs (5 * kq + 1))) (nN (xs (5 * kq + 2))) := ⟨_, rfl⟩
      refine zr_top (y := bv) hbv.symm ?_
      refine lv_istore (lv' := [(7, Value.int bv), (6, Value.int 0), (0, Value.ref b), (1, Value.ref (a 0)), (2, Value.ref (a' 0)), (3, Value.ref o1), (4, Value.ref o2), (5, Value.int (nI (5 * kq)))]) hx hb dL_law_1255 hl (by decide) rfl (fun ls hl => ?_)
      refine z_tail (P := 1257) C0 (c_X6_thrown l D y a' (0 : Int32) t tb tf ts cap clr mov hom wm nw wf wt nb fr bw bl no od ow ol ork olf oco at_ aw mp mpl msh msl mwa mse) rfl hP hD hS hl (lv_at hl 4 rfl) (lv_at hl 1 rfl) (lv_at hl 5 rfl) (lv_at hl 0 rfl) (rfl) (fun _ => hv1.trans (congrArg Int32.toInt64 ((bb_sh hR _ _ _ _ _ _ _ hc1).trans hbv.symm))) ⟨by show cells + 2 + 0 ≤ 3144; omega, by show slots + 12 + 0 ≤ 125590; omega⟩ dL_law_1257 dL_law_1258 dL_law_1261 dL_law_1263 dL_law_1268 dL_law_1270 dL_law_1273 dL_law_1274 dL_law_1275 dL_law_1276 dL_law_1278 dL_law_1279 dL_law_1280 dL_law_1285 (by decide) (fun H locs hP hD hS => ?_)
      refine W.widen (k := cells + 3) (n := slots + 18) (by omega) (by omega) ?_
      exact kk cap clr t hom mov wm tb tf ts nw wf wt nb bw bl bi bb no od ow ol ork ob olf oco pn pb pm pcd pw pli (0 : Int32) fr at_ aw mp mpl msh msl mwa mse _ _ _ _ _ (hR) hP hD hS (lv_sub hl [2, 3, 4, 5, 6, 7] rfl)
    · exact absurd (hc1) hm
  · refine lv_istore (lv' := [(6, Value.int (nI (bbC no nb (xs (5 * kq + 1)) (xs (5 * kq + 2))))), (0, Value.ref b), (1, Value.ref (a 0)), (2, Value.ref (a' 0)), (3, Value.ref o1), (4, Value.ref o2), (5, Value.int (nI (5 * kq)))]) hx hb dL_law_1237 hl (by decide) rfl (fun ls hl => ?_)
    refine lv_aload_n hx hb dL_law_1239 rfl (lv_at hl 3 rfl) ?_
    refine z_arg (i := 1) C0 (by omega) hL hS (lv_at hl 1 rfl) (lv_at hl 6 rfl) (by decide) dL_law_1240 dL_law_1241 dL_law_1243 dL_law_1244 dL_law_1245 ?_
    refine z_arg (i := 2) C0 (by omega) hL hS (lv_at hl 1 rfl) (lv_at hl 6 rfl) (by decide) dL_law_1246 dL_law_1247 dL_law_1249 dL_law_1250 dL_law_1251 ?_
    refine z_callVF (wa := []) (w1 := wM a' y mth (nI t) tb tf ts cap clr mov hom wm (nI nw) wf wt (nI nb) fr bw bl (nI no) od ow ol ork olf oco at_ aw mp mpl msh msl mwa mse) (wb := (wB a y cap clr (nI t) hom mov wm tb tf ts (nI nw) wf wt (nI nb) bw bl bi bb (nI no) od ow ol ork ob olf oco pn pb pm pcd pw pli ++ oL y o1 v0) ++ oD y o2 d0) (As := [Value.int (xs (5 * kq + 1)), Value.int (xs (5 * kq + 2))]) (rest := []) hx hb hml hown hta zm_X6_shiftReason wd_21_22 (c_X6_shiftReason l D y a' mth t tb tf ts cap clr mov hom wm nw wf wt nb fr bw bl no od ow ol ork olf oco at_ aw mp mpl msh msl mwa mse (xs (5 * kq + 1)) (xs (5 * kq + 2)) hb8 hb6 hw hfr hat) hN hK hP hD hS hA 0 rfl rfl rfl hl rfl (Nat.le_of_ble_eq_true rfl) ⟨Nat.le_of_ble_eq_true rfl, Nat.le_of_ble_eq_true rfl⟩ ⟨by show cells + 2 + 0 ≤ 3144; omega, by show slots + 12 + 0 ≤ 125590; omega⟩ dL_law_1252 (fun v w' H locs hq hP hD hS => ?_)
    rcases hq with ⟨hm, rfl, rfl⟩ | ⟨hm, r9, rfl, rfl⟩
    · exact absurd (hm) hc1
    · have hP := z_nil hP
      have hD := z_nilD hD
      refine lv_istore (lv' := [(7, Value.int r9), (6, Value.int (nI (bbC no nb (xs (5 * kq + 1)) (xs (5 * kq + 2))))), (0, Value.ref b), (1, Value.ref (a 0)), (2, Value.ref (a' 0)), (3, Value.ref o1), (4, Value.ref o2), (5, Value.int (nI (5 * kq)))]) hx hb dL_law_1255 hl (by decide) rfl (fun ls hl => ?_)
      refine z_tail (P := 1257) C0 (c_X6_thrown l D y a' (nI (bbC no nb (xs (5 * kq + 1)) (xs (5 * kq + 2)))) t tb tf ts cap clr mov hom wm nw wf wt nb fr bw bl no od ow ol ork olf oco at_ aw mp mpl msh msl mwa mse) rfl hP hD hS hl (lv_at hl 4 rfl) (lv_at hl 1 rfl) (lv_at hl 5 rfl) (lv_at hl 0 rfl) (rfl) (fun z => absurd z (nI_n0 hc1 c4_bbC)) ⟨by show cells + 2 + 0 ≤ 3144; omega, by show slots + 12 + 0 ≤ 125590; omega⟩ dL_law_1257 dL_law_1258 dL_law_1261 dL_law_1263 dL_law_1268 dL_law_1270 dL_law_1273 dL_law_1274 dL_law_1275 dL_law_1276 dL_law_1278 dL_law_1279 dL_law_1280 dL_law_1285 (by decide) (fun H locs hP hD hS => ?_)
      refine W.widen (k := cells + 3) (n := slots + 18) (by omega) (by omega) ?_
      exact kk cap clr t hom mov wm tb tf ts nw wf wt nb bw bl bi bb no od ow ol ork ob olf oco pn pb pm pcd pw pli (nI (bbC no nb (xs (5 * kq + 1)) (xs (5 * kq + 2)))) fr at_ aw mp mpl msh msl mwa mse _ _ _ _ _ (hR) hP hD hS (lv_sub hl [2, 3, 4, 5, 6, 7] rfl)
