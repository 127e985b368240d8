set_option maxHeartbeats 1600000 in
set_option maxRecDepth 100000 in
theorem lc_27 {p : Program} {l : Launch} {e : Env} {s : State} {m : MethodId} {below : List Frame} {meth : Method} {c : Code} {D : va_G} {y : Nat → ClassId} {b L : Nat} {xs : Nat → Int32} {a a' : Nat → Nat} {o1 o2 kq cells slots : Nat} {G : State → Prop} (hlt : l.stackTraces = false) (C0 : LC p s m meth c b L xs D y) (hk : 5 * kq + 5 ≤ L) (hL : L ≤ 2560) (hc : cells + 3 ≤ 3144 ∧ slots + 18 ≤ 125590) (kk : LawK p l e s m below meth c D y b a a' o1 o2 kq (cells + 3) (slots + 18) 2118 G) : LawK p l e s m below meth c D y b a a' o1 o2 kq cells slots 1848 G := by
  intro cap clr t hom mov wm tb tf ts nw wf wt nb bw bl bi bb no od ow ol ork ob olf oco pn pb pm pcd pw pli mth fr at_ aw mp mpl msh msl mwa mse v0 d0 H locs ls hR hP hD hS hl
  have C1 := C0
  obtain ⟨hx, hb, hr, hml, hown, hta, hX, hbl, hlocks, hN, hH, hK⟩ := C1
  have hA : ∀ q, s.heap.size ≤ q → lwA s q := fun _ h => h
  have hb8 := hR.1.2.2.2
  have hb6 := hR.1.2.2.1
  have hw := hR.1.2.1
  have ht := hR.1.1
  have hsp := hR.2.1
  have hol := hR.2.2.1
  have hfr := fr_hfr (rel_fr hR)
  have hat := (rel_va hR).1
  refine lv_aload_n hx hb dL_law_1848 rfl (lv_at hl 1 rfl) ?_
  refine z_callVF (wa := wM a' y mth (nI t) tb tf ts cap clr mov hom wm (nI nw) wf wt (nI nb) fr bw bl (nI no) od ow ol ork olf oco at_ aw mp mpl msh msl mwa mse) (w1 := wB a y cap clr (nI t) hom mov wm tb tf ts (nI nw) wf wt (nI nb) bw bl bi bb (nI no) od ow ol ork ob olf oco pn pb pm pcd pw pli) (wb := oL y o1 v0 ++ oD y o2 d0) (As := []) (rest := []) hx hb hml hown hta zm_X5_time wd_28_19 (c_X5_time l D y a cap clr t hom mov wm tb tf ts nw wf wt nb bw bl bi bb no od ow ol ork ob olf oco pn pb pm pcd pw pli) hN hK (z_as hP) (z_asD hD) hS hA 0 rfl rfl rfl hl rfl (Nat.le_of_ble_eq_true rfl) ⟨Nat.le_of_ble_eq_true rfl, Nat.le_of_ble_eq_true rfl⟩ ⟨by show cells + 0 ≤ 3144; omega, by show slots + 0 ≤ 125590; omega⟩ dL_law_1849 (fun v w' H locs hq hP hD hS => ?_)
  obtain ⟨rfl, rfl⟩ := hq
  refine lv_aload_n hx hb dL_law_1852 rfl (lv_at hl 2 rfl) ?_
  refine z_callVF (wa := []) (w1 := wM a' y mth (nI t) tb tf ts cap clr mov hom wm (nI nw) wf wt (nI nb) fr bw bl (nI no) od ow ol ork olf oco at_ aw mp mpl msh msl mwa mse) (wb := wB a y cap clr (nI t) hom mov wm tb tf ts (nI nw) wf wt (nI nb) bw bl bi bb (nI no) od ow ol ork ob olf oco pn pb pm pcd pw pli ++ (oL y o1 v0 ++ oD y o2 d0)) (As := []) (rest := [Value.int (nI t)]) hx hb hml hown hta zm_X6_time wd_28_23 (c_X6_time l D y a' mth t tb tf ts cap clr mov hom wm nw wf wt nb fr bw bl no od ow ol ork olf oco at_ aw mp mpl msh msl mwa mse) hN hK hP hD hS hA 0 rfl rfl rfl hl rfl (Nat.le_of_ble_eq_true rfl) ⟨Nat.le_of_ble_eq_true rfl, Nat.le_of_ble_eq_true rfl⟩ ⟨by show cells + 0 + 0 ≤ 3144; omega, by show slots + 0 + 0 ≤ 125590; omega⟩ dL_law_1853 (fun v w' H locs hq hP hD hS => ?_)
  obtain ⟨rfl, rfl⟩ := hq
  have hP := z_sa (z_nil hP)
  have hD := z_saD (z_nilD hD)
  refine lv_icmp_eq (tgt := 2118) hx hb dL_law_1856 (by decide) (fun _ => ?_) (fun z => absurd rfl z)
  refine W.widen (k := cells + 3) (n := slots + 18) (by omega) (by omega) ?_
  exact kk cap clr t hom mov wm tb tf ts nw wf wt nb bw bl bi bb no od ow ol ork ob olf oco pn pb pm pcd pw pli (0 : Int32) fr at_ aw mp mpl msh msl mwa mse _ _ _ _ _ (hR) hP hD hS hl
set_option maxHeartbeats 1600000 in
set_option maxRecDepth 100000 in
theorem lc_28 {p : Program} {l : Launch} {e : Env} {s : State} {m : MethodId} {below : List Frame} {meth : Method} {c : Code} {D : va_G} {y : Nat → ClassId} {b L : Nat} {xs : Nat → Int32} {a a' : Nat → Nat} {o1 o2 kq cells slots : Nat} {G : State → Prop} (hlt : l.stackTraces = false) (C0 : LC p s m meth c b L xs D y) (hk : 5 * kq + 5 ≤ L) (hL : L ≤ 2560) (hc : cells + 3 ≤ 3144 ∧ slots + 18 ≤ 125590) (kk : LawK p l e s m below meth c D y b a a' o1 o2 kq (cells + 3) (slots + 18) 2118 G) : LawK p l e s m below meth c D y b a a' o1 o2 kq cells slots 1861 G := by
  intro cap clr t hom mov wm tb tf ts nw wf wt nb bw bl bi bb no od ow ol ork ob olf oco pn pb pm pcd pw pli mth fr at_ aw mp mpl msh msl mwa mse v0 d0 H locs ls hR hP hD hS hl
  have C1 := C0
  obtain ⟨hx, hb, hr, hml, hown, hta, hX, hbl, hlocks, hN, hH, hK⟩ := C1
  have hA : ∀ q, s.heap.size ≤ q → lwA s q := fun _ h => h
  have hb8 := hR.1.2.2.2
  have hb6 := hR.1.2.2.1
  have hw := hR.1.2.1
  have ht := hR.1.1
  have hsp := hR.2.1
  have hol := hR.2.2.1
  have hfr := fr_hfr (rel_fr hR)
  have hat := (rel_va hR).1
  obtain ⟨v9, hv9⟩ := lst_ex (no := no) (W := Wf0 ow) (E := Ed0 nb no cap olf fr ow ol bw bl) (g0 := gB ob nb) (Cl0 no fr (nN (xs (5 * kq + 1))))
  have hw9 := lst_g0 (gb_at hR) hv9
  refine lv_aload_n hx hb dL_law_1861 rfl (lv_at hl 1 rfl) ?_
  refine z_arg (i := 1) C0 (by omega) hL hS (lv_at hl 0 rfl) (lv_at hl 5 rfl) (by decide) dL_law_1862 dL_law_1863 dL_law_1865 dL_law_1866 dL_law_1867 ?_
  refine lv_aload_n hx hb dL_law_1868 rfl (lv_at hl 3 rfl) ?_
  refine z_callWr (wa := wM a' y mth (nI t) tb tf ts cap clr mov hom wm (nI nw) wf wt (nI nb) fr bw bl (nI no) od ow ol ork olf oco at_ aw mp mpl msh msl mwa mse) (w1 := wB a y cap clr (nI t) hom mov wm tb tf ts (nI nw) wf wt (nI nb) bw bl bi bb (nI no) od ow ol ork ob olf oco pn pb pm pcd pw pli ++ oL y o1 v0) (wb := oD y o2 d0) (As := [Value.ref (a 0), Value.int (xs (5 * kq + 1)), Value.ref o1]) (rest := []) hx hb hml hown hta zw_leastShifted wd_29_3 (c_L_leastShifted l hlt D y a cap clr t hom mov wm tb tf ts nw wf wt nb bw bl bi bb no od ow ol ork ob olf oco pn pb pm pcd pw pli (xs (5 * kq + 1)) (Wf0 ow) (Ed0 nb no cap olf fr ow ol bw bl) (Cl0 no fr (nN (xs (5 * kq + 1)))) v9 hb8 hb6 (ok_Ed hR cap ol bw bl) (va_gB hR) (ok_W hR) (ok_EC hR cap _ ol bw bl) (fun z z2 => ok_ClC hR (in_lt hR z) z2) hv9 (fun z z2 => ok_cw hR (in_lt hR z) z2) o1 v0) hH hN hK hP hD hS hA rfl hl rfl (Nat.le_of_ble_eq_true rfl) ⟨Nat.le_of_ble_eq_true rfl, Nat.le_of_ble_eq_true rfl⟩ ⟨by show cells + 3 ≤ 3144; omega, by show slots + 18 ≤ 125590; omega⟩ dL_law_1869 (fun v w' H locs hq hP hD hS => ?_)
  obtain ⟨pn9, pb9, pm9, pcd9, pw9, pli9, hq⟩ := hq
  rcases hq with ⟨hc1, v1, hv1, rfl, rfl⟩ | ⟨hc1, rfl, rfl⟩
  · refine lv_istore (lv' := [(6, Value.int 0), (0, Value.ref b), (1, Value.ref (a 0)), (2, Value.ref (a' 0)), (3, Value.ref o1), (4, Value.ref o2), (5, Value.int (nI (5 * kq)))]) hx hb dL_law_1872 hl (by decide) rfl (fun ls hl => ?_)
    refine lv_aload_n hx hb dL_law_1874 rfl (lv_at hl 3 rfl) ?_
    refine z_arg (i := 1) C0 (by omega) hL hS (lv_at hl 1 rfl) (lv_at hl 6 rfl) (by decide) dL_law_1875 dL_law_1876 dL_law_1878 dL_law_1879 dL_law_1880 ?_
    refine z_callVF (wa := []) (w1 := wM a' y mth (nI t) tb tf ts cap clr mov hom wm (nI nw) wf wt (nI nb) fr bw bl (nI no) od ow ol ork olf oco at_ aw mp mpl msh msl mwa mse) (wb := (wB a y cap clr (nI t) hom mov wm tb tf ts (nI nw) wf wt (nI nb) bw bl bi bb (nI no) od ow ol ork ob olf oco pn9 pb9 pm9 pcd9 pw9 pli9 ++ oL y o1 v1) ++ oD y o2 d0) (As := [Value.int (xs (5 * kq + 1))]) (rest := []) hx hb hml hown hta zm_X6_leastShifted wd_32_9 (c_X6_leastShifted l D y a' mth t tb tf ts cap clr mov hom wm nw wf wt nb fr bw bl no od ow ol ork olf oco at_ aw mp mpl msh msl mwa mse (xs (5 * kq + 1)) (Wf0 ow) (Ed0 nb no cap olf fr ow ol bw bl) (Cl0 no fr (nN (xs (5 * kq + 1)))) v9 hb8 hb6 hfr (ok_Ed hR cap ol bw bl) (rel_va hR) (ok_W hR) (ok_EdM nb no cap olf fr ow ol bw bl) (fun z => ok_ClM (in_lt hR z)) hw9) hN hK hP hD hS hA 0 rfl rfl rfl hl rfl (Nat.le_of_ble_eq_true rfl) ⟨Nat.le_of_ble_eq_true rfl, Nat.le_of_ble_eq_true rfl⟩ ⟨by show cells + 3 + 0 ≤ 3144; omega, by show slots + 18 + 0 ≤ 125590; omega⟩ dL_law_1881 (fun v w' H locs hq hP hD hS => ?_)
    obtain ⟨mp9, mpl9, msh9, msl9, mse9, mwa9, r9, mth9, hq, rfl, rfl⟩ := hq
    have hP := z_nil hP
    have hD := z_nilD hD
    rcases hq with ⟨hm, hr9, rfl⟩ | ⟨hm, rfl⟩
    · obtain rfl : v9 = r9 := hr9.symm
      obtain ⟨bv, hbv⟩ : ∃ z : Int32, z = v9 := ⟨_, rfl⟩
      refine zr_top (y := bv) hbv.symm ?_
      refine lv_istore (lv' := [(7, Value.int bv), (6, Value.int 0), (0, Value.ref b), (1, Value.ref (a 0)), (2, Value.ref (a' 0)), (3, Value.ref o1), (4, Value.ref o2), (5, Value.int (nI (5 * kq)))]) hx hb dL_law_1884 hl (by decide) rfl (fun ls hl => ?_)
      refine z_tail (P := 1886) C0 (c_X6_thrown l D y a' (0 : Int32) t tb tf ts cap clr mov hom wm nw wf wt nb fr bw bl no od ow ol ork olf oco at_ aw mp9 mpl9 msh9 msl9 mwa9 mse9) rfl hP hD hS hl (lv_at hl 4 rfl) (lv_at hl 1 rfl) (lv_at hl 5 rfl) (lv_at hl 0 rfl) (rfl) (fun _ => hv1.trans (congrArg Int32.toInt64 (hbv.symm))) ⟨by show cells + 3 + 0 ≤ 3144; omega, by show slots + 18 + 0 ≤ 125590; omega⟩ dL_law_1886 dL_law_1887 dL_law_1890 dL_law_1892 dL_law_1897 dL_law_1899 dL_law_1902 dL_law_1903 dL_law_1904 dL_law_1905 dL_law_1907 dL_law_1908 dL_law_1909 dL_law_1914 (by decide) (fun H locs hP hD hS => ?_)
      refine W.widen (k := cells + 3) (n := slots + 18) (by omega) (by omega) ?_
      exact kk cap clr t hom mov wm tb tf ts nw wf wt nb bw bl bi bb no od ow ol ork ob olf oco pn9 pb9 pm9 pcd9 pw9 pli9 (0 : Int32) fr at_ aw mp9 mpl9 msh9 msl9 mwa9 mse9 _ _ _ _ _ (hR) hP hD hS (lv_sub hl [2, 3, 4, 5, 6, 7] rfl)
    · exact absurd ((ls_M hR _ _).symm.trans hc1) hm
  · refine lv_istore (lv' := [(6, Value.int (nI (lsC no nb ob (xs (5 * kq + 1)) v9))), (0, Value.ref b), (1, Value.ref (a 0)), (2, Value.ref (a' 0)), (3, Value.ref o1), (4, Value.ref o2), (5, Value.int (nI (5 * kq)))]) hx hb dL_law_1872 hl (by decide) rfl (fun ls hl => ?_)
    refine lv_aload_n hx hb dL_law_1874 rfl (lv_at hl 3 rfl) ?_
    refine z_arg (i := 1) C0 (by omega) hL hS (lv_at hl 1 rfl) (lv_at hl 6 rfl) (by decide) dL_law_1875 dL_law_1876 dL_law_1878 dL_law_1879 dL_law_1880 ?_
    refine z_callVF (wa := []) (w1 := wM a' y mth (nI t) tb tf ts cap clr mov hom wm (nI nw) wf wt (nI nb) fr bw bl (nI no) od ow ol ork olf oco at_ aw mp mpl msh msl mwa mse) (wb := (wB a y cap clr (nI t) hom mov wm tb tf ts (nI nw) wf wt (nI nb) bw bl bi bb (nI no) od ow ol ork ob olf oco pn9 pb9 pm9 pcd9 pw9 pli9 ++ oL y o1 v0) ++ oD y o2 d0) (As := [Value.int (xs (5 * kq + 1))]) (rest := []) hx hb hml hown hta zm_X6_leastShifted wd_32_9 (c_X6_leastShifted l D y a' mth t tb tf ts cap clr mov hom wm nw wf wt nb fr bw bl no od ow ol ork olf oco at_ aw mp mpl msh msl mwa mse (xs (5 * kq + 1)) (Wf0 ow) (Ed0 nb no cap olf fr ow ol bw bl) (Cl0 no fr (nN (xs (5 * kq + 1)))) v9 hb8 hb6 hfr (ok_Ed hR cap ol bw bl) (rel_va hR) (ok_W hR) (ok_EdM nb no cap olf fr ow ol bw bl) (fun z => ok_ClM (in_lt hR z)) hw9) hN hK hP hD hS hA 0 rfl rfl rfl hl rfl (Nat.le_of_ble_eq_true rfl) ⟨Nat.le_of_ble_eq_true rfl, Nat.le_of_ble_eq_true rfl⟩ ⟨by show cells + 3 + 0 ≤ 3144; omega, by show slots + 18 + 0 ≤ 125590; omega⟩ dL_law_1881 (fun v w' H locs hq hP hD hS => ?_)
    obtain ⟨mp9, mpl9, msh9, msl9, mse9, mwa9, r9, mth9, hq, rfl, rfl⟩ := hq
    have hP := z_nil hP
    have hD := z_nilD hD
    rcases hq with ⟨hm, hr9, rfl⟩ | ⟨hm, rfl⟩
    · exact absurd ((ls_M hR _ _).trans hm) hc1
    · skip
      refine lv_istore (lv' := [(7, Value.int r9), (6, Value.int (nI (lsC no nb ob (xs (5 * kq + 1)) v9))), (0, Value.ref b), (1, Value.ref (a 0)), (2, Value.ref (a' 0)), (3, Value.ref o1), (4, Value.ref o2), (5, Value.int (nI (5 * kq)))]) hx hb dL_law_1884 hl (by decide) rfl (fun ls hl => ?_)
      refine z_tail (P := 1886) C0 (c_X6_thrown l D y a' (nI (lmC no at_ (xs (5 * kq + 1)) v9)) t tb tf ts cap clr mov hom wm nw wf wt nb fr bw bl no od ow ol ork olf oco at_ aw mp9 mpl9 msh9 msl9 mwa9 mse9) rfl hP hD hS hl (lv_at hl 4 rfl) (lv_at hl 1 rfl) (lv_at hl 5 rfl) (lv_at hl 0 rfl) (congrArg nI (ls_M hR _ _).symm) (fun z => absurd z (nI_n0 hc1 c4_lsC)) ⟨by show cells + 3 + 0 ≤ 3144; omega, by show slots + 18 + 0 ≤ 125590; omega⟩ dL_law_1886 dL_law_1887 dL_law_1890 dL_law_1892 dL_law_1897 dL_law_1899 dL_law_1902 dL_law_1903 dL_law_1904 dL_law_1905 dL_law_1907 dL_law_1908 dL_law_1909 dL_law_1914 (by decide) (fun H locs hP hD hS => ?_)
      refine W.widen (k := cells + 3) (n := slots + 18) (by omega) (by omega) ?_
      exact kk cap clr t hom mov wm tb tf ts nw wf wt nb bw bl bi bb no od ow ol ork ob olf oco pn9 pb9 pm9 pcd9 pw9 pli9 (nI (lmC no at_ (xs (5 * kq + 1)) v9)) fr at_ aw mp9 mpl9 msh9 msl9 mwa9 mse9 _ _ _ _ _ (hR) hP hD hS (lv_sub hl [2, 3, 4, 5, 6, 7] rfl)
set_option maxHeartbeats 1600000 in
set_option maxRecDepth 100000 in
theorem lc_29 {p : Program} {l : Launch} {e : Env} {s : State} {m : MethodId} {below : List Frame} {meth : Method} {c : Code} {D : va_G} {y : Nat → ClassId} {b L : Nat} {xs : Nat → Int32} {a a' : Nat → Nat} {o1 o2 kq cells slots : Nat} {G : State → Prop} (hlt : l.stackTraces = false) (C0 : LC p s m meth c b L xs D y) (hk : 5 * kq + 5 ≤ L) (hL : L ≤ 2560) (hc : cells + 3 ≤ 3144 ∧ slots + 18 ≤ 125590) (kk : LawK p l e s m below meth c D y b a a' o1 o2 kq (cells + 3) (slots + 18) 2118 G) : LawK p l e s m below meth c D y b a a' o1 o2 kq cells slots 1917 G := by
  intro cap clr t hom mov wm tb tf ts nw wf wt nb bw bl bi bb no od ow ol ork ob olf oco pn pb pm pcd pw pli mth fr at_ aw mp mpl msh msl mwa mse v0 d0 H locs ls hR hP hD hS hl
  have C1 := C0
  obtain ⟨hx, hb, hr, hml, hown, hta, hX, hbl, hlocks, hN, hH, hK⟩ := C1
  have hA : ∀ q, s.heap.size ≤ q → lwA s q := fun _ h => h
  have hb8 := hR.1.2.2.2
  have hb6 := hR.1.2.2.1
  have hw := hR.1.2.1
  have ht := hR.1.1
  have hsp := hR.2.1
  have hol := hR.2.2.1
  have hfr := fr_hfr (rel_fr hR)
  have hat := (rel_va hR).1
  obtain ⟨v9, hv9⟩ := lst_ex (no := no) (W := Wf0 ow) (E := Ed0 nb no cap olf fr ow ol bw bl) (g0 := gB ob nb) (Cl0 no fr (nN (xs (5 * kq + 1))))
  have hw9 := lst_g0 (gb_at hR) hv9
  refine lv_aload_n hx hb dL_law_1917 rfl (lv_at hl 1 rfl) ?_
  refine z_arg (i := 1) C0 (by omega) hL hS (lv_at hl 0 rfl) (lv_at hl 5 rfl) (by decide) dL_law_1918 dL_law_1919 dL_law_1921 dL_law_1922 dL_law_1923 ?_
  refine lv_aload_n hx hb dL_law_1924 rfl (lv_at hl 3 rfl) ?_
  refine z_callWr (wa := wM a' y mth (nI t) tb tf ts cap clr mov hom wm (nI nw) wf wt (nI nb) fr bw bl (nI no) od ow ol ork olf oco at_ aw mp mpl msh msl mwa mse) (w1 := wB a y cap clr (nI t) hom mov wm tb tf ts (nI nw) wf wt (nI nb) bw bl bi bb (nI no) od ow ol ork ob olf oco pn pb pm pcd pw pli ++ oL y o1 v0) (wb := oD y o2 d0) (As := [Value.ref (a 0), Value.int (xs (5 * kq + 1)), Value.ref o1]) (rest := []) hx hb hml hown hta zw_leastByRounds wd_33_18 (c_L_leastByRounds l hlt D y a cap clr t hom mov wm tb tf ts nw wf wt nb bw bl bi bb no od ow ol ork ob olf oco pn pb pm pcd pw pli (xs (5 * kq + 1)) (Wf0 ow) (Ed0 nb no cap olf fr ow ol bw bl) (Cl0 no fr (nN (xs (5 * kq + 1)))) v9 hb8 hb6 (ok_Ed hR cap ol bw bl) (va_gB hR) (ok_W hR) (ok_EC hR cap _ ol bw bl) (fun z z2 => ok_ClC hR (in_lt hR z) z2) hv9 (fun z z2 => ok_cw hR (in_lt hR z) z2) o1 v0) hH hN hK hP hD hS hA rfl hl rfl (Nat.le_of_ble_eq_true rfl) ⟨Nat.le_of_ble_eq_true rfl, Nat.le_of_ble_eq_true rfl⟩ ⟨by show cells + 3 ≤ 3144; omega, by show slots + 18 ≤ 125590; omega⟩ dL_law_1925 (fun v w' H locs hq hP hD hS => ?_)
  obtain ⟨pn9, pb9, pm9, pcd9, pw9, pli9, hq⟩ := hq
  rcases hq with ⟨hc1, v1, hv1, rfl, rfl⟩ | ⟨hc1, rfl, rfl⟩
  · refine lv_istore (lv' := [(6, Value.int 0), (0, Value.ref b), (1, Value.ref (a 0)), (2, Value.ref (a' 0)), (3, Value.ref o1), (4, Value.ref o2), (5, Value.int (nI (5 * kq)))]) hx hb dL_law_1928 hl (by decide) rfl (fun ls hl => ?_)
    refine lv_aload_n hx hb dL_law_1930 rfl (lv_at hl 3 rfl) ?_
    refine z_arg (i := 1) C0 (by omega) hL hS (lv_at hl 1 rfl) (lv_at hl 6 rfl) (by decide) dL_law_1931 dL_law_1932 dL_law_1934 dL_law_1935 dL_law_1936 ?_
    refine z_callVF (wa := []) (w1 := wM a' y mth (nI t) tb tf ts cap clr mov hom wm (nI nw) wf wt (nI nb) fr bw bl (nI no) od ow ol ork olf oco at_ aw mp mpl msh msl mwa mse) (wb := (wB a y cap clr (nI t) hom mov wm tb tf ts (nI nw) wf wt (nI nb) bw bl bi bb (nI no) od ow ol ork ob olf oco pn9 pb9 pm9 pcd9 pw9 pli9 ++ oL y o1 v1) ++ oD y o2 d0) (As := [Value.int (xs (5 * kq + 1))]) (rest := []) hx hb hml hown hta zm_X6_leastByRounds wd_34_10 (c_X6_leastByRounds l D y a' mth t tb tf ts cap clr mov hom wm nw wf wt nb fr bw bl no od ow ol ork olf oco at_ aw mp mpl msh msl mwa mse (xs (5 * kq + 1)) (Wf0 ow) (Ed0 nb no cap olf fr ow ol bw bl) (Cl0 no fr (nN (xs (5 * kq + 1)))) v9 hb8 hb6 hfr (ok_Ed hR cap ol bw bl) (rel_va hR) (ok_W hR) (ok_EdM nb no cap olf fr ow ol bw bl) (fun z => ok_ClM (in_lt hR z)) hw9) hN hK hP hD hS hA 0 rfl rfl rfl hl rfl (Nat.le_of_ble_eq_true rfl) ⟨Nat.le_of_ble_eq_true rfl, Nat.le_of_ble_eq_true rfl⟩ ⟨by show cells + 3 + 0 ≤ 3144; omega, by show slots + 18 + 0 ≤ 125590; omega⟩ dL_law_1937 (fun v w' H locs hq hP hD hS => ?_)
    obtain ⟨mp9, mpl9, msh9, msl9, mse9, mwa9, r9, mth9, hq, rfl, rfl⟩ := hq
    have hP := z_nil hP
    have hD := z_nilD hD
    rcases hq with ⟨hm, hr9, rfl⟩ | ⟨hm, rfl⟩
    · obtain rfl : v9 = r9 := hr9.symm
      obtain ⟨bv, hbv⟩ : ∃ z : Int32, z = v9 := ⟨_, rfl⟩
      refine zr_top (y := bv) hbv.symm ?_
      refine lv_istore (lv' := [(7, Value.int bv), (6, Value.int 0), (0, Value.ref b), (1, Value.ref (a 0)), (2, Value.ref (a' 0)), (3, Value.ref o1), (4, Value.ref o2), (5, Value.int (nI (5 * kq)))]) hx hb dL_law_1940 hl (by decide) rfl (fun ls hl => ?_)
      refine z_tail (P := 1942) C0 (c_X6_thrown l D y a' (0 : Int32) t tb tf ts cap clr mov hom wm nw wf wt nb fr bw bl no od ow ol ork olf oco at_ aw mp9 mpl9 msh9 msl9 mwa9 mse9) rfl hP hD hS hl (lv_at hl 4 rfl) (lv_at hl 1 rfl) (lv_at hl 5 rfl) (lv_at hl 0 rfl) (rfl) (fun _ => hv1.trans (congrArg Int32.toInt64 (hbv.symm))) ⟨by show cells + 3 + 0 ≤ 3144; omega, by show slots + 18 + 0 ≤ 125590; omega⟩ dL_law_1942 dL_law_1943 dL_law_1946 dL_law_1948 dL_law_1953 dL_law_1955 dL_law_1958 dL_law_1959 dL_law_1960 dL_law_1961 dL_law_1963 dL_law_1964 dL_law_1965 dL_law_1970 (by decide) (fun H locs hP hD hS => ?_)
      refine W.widen (k := cells + 3) (n := slots + 18) (by omega) (by omega) ?_
      exact kk cap clr t hom mov wm tb tf ts nw wf wt nb bw bl bi bb no od ow ol ork ob olf oco pn9 pb9 pm9 pcd9 pw9 pli9 (0 : Int32) fr at_ aw mp9 mpl9 msh9 msl9 mwa9 mse9 _ _ _ _ _ (hR) hP hD hS (lv_sub hl [2, 3, 4, 5, 6, 7] rfl)
    · exact absurd ((ls_M hR _ _).symm.trans hc1) hm
  · refine lv_istore (lv' := [(6, Value.int (nI (lsC no nb ob (xs (5 * kq + 1)) v9))), (0, Value.ref b), (1, Value.ref (a 0)), (2, Value.ref (a' 0)), (3, Value.ref o1), (4, Value.ref o2), (5, Value.int (nI (5 * kq)))]) hx hb dL_law_1928 hl (by decide) rfl (fun ls hl => ?_)
    refine lv_aload_n hx hb dL_law_1930 rfl (lv_at hl 3 rfl) ?_
    refine z_arg (i := 1) C0 (by omega) hL hS (lv_at hl 1 rfl) (lv_at hl 6 rfl) (by decide) dL_law_1931 dL_law_1932 dL_law_1934 dL_law_1935 dL_law_1936 ?_
    refine z_callVF (wa := []) (w1 := wM a' y mth (nI t) tb tf ts cap clr mov hom wm (nI nw) wf wt (nI nb) fr bw bl (nI no) od ow ol ork olf oco at_ aw mp mpl msh msl mwa mse) (wb := (wB a y cap clr (nI t) hom mov wm tb tf ts (nI nw) wf wt (nI nb) bw bl bi bb (nI no) od ow ol ork ob olf oco pn9 pb9 pm9 pcd9 pw9 pli9 ++ oL y o1 v0) ++ oD y o2 d0) (As := [Value.int (xs (5 * kq + 1))]) (rest := []) hx hb hml hown hta zm_X6_leastByRounds wd_34_10 (c_X6_leastByRounds l D y a' mth t tb tf ts cap clr mov hom wm nw wf wt nb fr bw bl no od ow ol ork olf oco at_ aw mp mpl msh msl mwa mse (xs (5 * kq + 1)) (Wf0 ow) (Ed0 nb no cap olf fr ow ol bw bl) (Cl0 no fr (nN (xs (5 * kq + 1)))) v9 hb8 hb6 hfr (ok_Ed hR cap ol bw bl) (rel_va hR) (ok_W hR) (ok_EdM nb no cap olf fr ow ol bw bl) (fun z => ok_ClM (in_lt hR z)) hw9) hN hK hP hD hS hA 0 rfl rfl rfl hl rfl (Nat.le_of_ble_eq_true rfl) ⟨Nat.le_of_ble_eq_true rfl, Nat.le_of_ble_eq_true rfl⟩ ⟨by show cells + 3 + 0 ≤ 3144; omega, by show slots + 18 + 0 ≤ 125590; omega⟩ dL_law_1937 (fun v w' H locs hq hP hD hS => ?_)
    obtain ⟨mp9, mpl9, msh9, msl9, mse9, mwa9, r9, mth9, hq, rfl, rfl⟩ := hq
    have hP := z_nil hP
    have hD := z_nilD hD
    rcases hq with ⟨hm, hr9, rfl⟩ | ⟨hm, rfl⟩
    · exact absurd ((ls_M hR _ _).trans hm) hc1
    · skip
      refine lv_istore (lv' := [(7, Value.int r9), (6, Value.int (nI (lsC no nb ob (xs (5 * kq + 1)) v9))), (0, Value.ref b), (1, Value.ref (a 0)), (2, Value.ref (a' 0)), (3, Value.ref o1), (4, Value.ref o2), (5, Value.int (nI (5 * kq)))]) hx hb dL_law_1940 hl (by decide) rfl (fun ls hl => ?_)
      refine z_tail (P := 1942) C0 (c_X6_thrown l D y a' (nI (lmC no at_ (xs (5 * kq + 1)) v9)) t tb tf ts cap clr mov hom wm nw wf wt nb fr bw bl no od ow ol ork olf oco at_ aw mp9 mpl9 msh9 msl9 mwa9 mse9) rfl hP hD hS hl (lv_at hl 4 rfl) (lv_at hl 1 rfl) (lv_at hl 5 rfl) (lv_at hl 0 rfl) (congrArg nI (ls_M hR _ _).symm) (fun z => absurd z (nI_n0 hc1 c4_lsC)) ⟨by show cells + 3 + 0 ≤ 3144; omega, by show slots + 18 + 0 ≤ 125590; omega⟩ dL_law_1942 dL_law_1943 dL_law_1946 dL_law_1948 dL_law_1953 dL_law_1955 dL_law_1958 dL_law_1959 dL_law_1960 dL_law_1961 dL_law_1963 dL_law_1964 dL_law_1965 dL_law_1970 (by decide) (fun H locs hP hD hS => ?_)
      refine W.widen (k := cells + 3) (n := slots + 18) (by omega) (by omega) ?_
      exact kk cap clr t hom mov wm tb tf ts nw wf wt nb bw bl bi bb no od ow ol ork ob olf oco pn9 pb9 pm9 pcd9 pw9 pli9 (nI (lmC no at_ (xs (5 * kq + 1)) v9)) fr at_ aw mp9 mpl9 msh9 msl9 mwa9 mse9 _ _ _ _ _ (hR) hP hD hS (lv_sub hl [2, 3, 4, 5, 6, 7] rfl)
set_option maxHeartbeats 1600000 in
set_option maxRecDepth 100000 in
theorem lc_30 {p : Program} {l : Launch} {e : Env} {s : State} {m : MethodId} {below : List Frame} {meth : Method} {c : Code} {D : va_G} {y : Nat → ClassId} {b L : Nat} {xs : Nat → Int32} {a a' : Nat → Nat} {o1 o2 kq cells slots : Nat} {G : State → Prop} (hlt : l.stackTraces = false) (C0 : LC p s m meth c b L xs D y) (hk : 5 * kq + 5 ≤ L) (hL : L ≤ 2560) (hc : cells + 3 ≤ 3144 ∧ slots + 18 ≤ 125590) (kk : LawK p l e s m below meth c D y b a a' o1 o2 kq (cells + 3) (slots + 18) 2118 G) : LawK p l e s m below meth c D y b a a' o1 o2 kq cells slots 1973 G := by
  intro cap clr t hom mov wm tb tf ts nw wf wt nb bw bl bi bb no od ow ol ork ob olf oco pn pb pm pcd pw pli mth fr at_ aw mp mpl msh msl mwa mse v0 d0 H locs ls hR hP hD hS hl
  have C1 := C0
  obtain ⟨hx, hb, hr, hml, hown, hta, hX, hbl, hlocks, hN, hH, hK⟩ := C1
  have hA : ∀ q, s.heap.size ≤ q → lwA s q := fun _ h => h
  have hb8 := hR.1.2.2.2
  have hb6 := hR.1.2.2.1
  have hw := hR.1.2.1
  have ht := hR.1.1
  have hsp := hR.2.1
  have hol := hR.2.2.1
  have hfr := fr_hfr (rel_fr hR)
  have hat := (rel_va hR).1
  refine lv_aload_n hx hb dL_law_1973 rfl (lv_at hl 1 rfl) ?_
  refine z_callVF (wa := wM a' y mth (nI t) tb tf ts cap clr mov hom wm (nI nw) wf wt (nI nb) fr bw bl (nI no) od ow ol ork olf oco at_ aw mp mpl msh msl mwa mse) (w1 := wB a y cap clr (nI t) hom mov wm tb tf ts (nI nw) wf wt (nI nb) bw bl bi bb (nI no) od ow ol ork ob olf oco pn pb pm pcd pw pli) (wb := oL y o1 v0 ++ oD y o2 d0) (As := []) (rest := []) hx hb hml hown hta zm_X5_movedWeight wd_34_14 (c_X5_movedWeight l D y a cap clr t hom mov wm tb tf ts nw wf wt nb bw bl bi bb no od ow ol ork ob olf oco pn pb pm pcd pw pli) hN hK (z_as hP) (z_asD hD) hS hA 0 rfl rfl rfl hl rfl (Nat.le_of_ble_eq_true rfl) ⟨Nat.le_of_ble_eq_true rfl, Nat.le_of_ble_eq_true rfl⟩ ⟨by show cells + 0 ≤ 3144; omega, by show slots + 0 ≤ 125590; omega⟩ dL_law_1974 (fun v w' H locs hq hP hD hS => ?_)
  obtain ⟨rfl, rfl⟩ := hq
  refine lv_aload_n hx hb dL_law_1977 rfl (lv_at hl 2 rfl) ?_
  refine z_callVF (wa := []) (w1 := wM a' y mth (nI t) tb tf ts cap clr mov hom wm (nI nw) wf wt (nI nb) fr bw bl (nI no) od ow ol ork olf oco at_ aw mp mpl msh msl mwa mse) (wb := wB a y cap clr (nI t) hom mov wm tb tf ts (nI nw) wf wt (nI nb) bw bl bi bb (nI no) od ow ol ork ob olf oco pn pb pm pcd pw pli ++ (oL y o1 v0 ++ oD y o2 d0)) (As := []) (rest := [Value.long wm]) hx hb hml hown hta zm_X6_movedWeight wd_34_18 (c_X6_movedWeight l D y a' mth t tb tf ts cap clr mov hom wm nw wf wt nb fr bw bl no od ow ol ork olf oco at_ aw mp mpl msh msl mwa mse) hN hK hP hD hS hA 0 rfl rfl rfl hl rfl (Nat.le_of_ble_eq_true rfl) ⟨Nat.le_of_ble_eq_true rfl, Nat.le_of_ble_eq_true rfl⟩ ⟨by show cells + 0 + 0 ≤ 3144; omega, by show slots + 0 + 0 ≤ 125590; omega⟩ dL_law_1978 (fun v w' H locs hq hP hD hS => ?_)
  obtain ⟨rfl, rfl⟩ := hq
  have hP := z_sa (z_nil hP)
  have hD := z_saD (z_nilD hD)
  refine W.lcmp hx hb dL_law_1981 ?_
  refine zr_top (y := 0) (lg_self _) ?_
  refine lv_if_eq (tgt := 2118) hx hb dL_law_1982 (by decide) (fun _ => ?_) (fun z => absurd rfl z)
  refine W.widen (k := cells + 3) (n := slots + 18) (by omega) (by omega) ?_
  exact kk cap clr t hom mov wm tb tf ts nw wf wt nb bw bl bi bb no od ow ol ork ob olf oco pn pb pm pcd pw pli (0 : Int32) fr at_ aw mp mpl msh msl mwa mse _ _ _ _ _ (hR) hP hD hS hl
set_option maxHeartbeats 1600000 in
set_option maxRecDepth 100000 in
theorem lc_31 {p : Program} {l : Launch} {e : Env} {s : State} {m : MethodId} {below : List Frame} {meth : Method} {c : Code} {D : va_G} {y : Nat → ClassId} {b L : Nat} {xs : Nat → Int32} {a a' : Nat → Nat} {o1 o2 kq cells slots : Nat} {G : State → Prop} (hlt : l.stackTraces = false) (C0 : LC p s m meth c b L xs D y) (hk : 5 * kq + 5 ≤ L) (hL : L ≤ 2560) (hc : cells + 3 ≤ 3144 ∧ slots + 18 ≤ 125590) (kk : LawK p l e s m below meth c D y b a a' o1 o2 kq (cells + 3) (slots + 18) 2118 G) : LawK p l e s m below meth c D y b a a' o1 o2 kq cells slots 1987 G := by
  intro cap clr t hom mov wm tb tf ts nw wf wt nb bw bl bi bb no od ow ol ork ob olf oco pn pb pm pcd pw pli mth fr at_ aw mp mpl msh msl mwa mse v0 d0 H locs ls hR hP hD hS hl
  have C1 := C0
  obtain ⟨hx, hb, hr, hml, hown, hta, hX, hbl, hlocks, hN, hH, hK⟩ := C1
  have hA : ∀ q, s.heap.size ≤ q → lwA s q := fun _ h => h
  have hb8 := hR.1.2.2.2
  have hb6 := hR.1.2.2.1
  have hw := hR.1.2.1
  have ht := hR.1.1
  have hsp := hR.2.1
  have hol := hR.2.2.1
  have hfr := fr_hfr (rel_fr hR)
  have hat := (rel_va hR).1
  refine lv_aload_n hx hb dL_law_1987 rfl (lv_at hl 1 rfl) ?_
  refine lv_aload hx hb dL_law_1988 (lv_at hl 4 rfl) ?_
  refine z_callWr (wa := wM a' y mth (nI t) tb tf ts cap clr mov hom wm (nI nw) wf wt (nI nb) fr bw bl (nI no) od ow ol ork olf oco at_ aw mp mpl msh msl mwa mse ++ oL y o1 v0) (w1 := wB a y cap clr (nI t) hom mov wm tb tf ts (nI nw) wf wt (nI nb) bw bl bi bb (nI no) od ow ol ork ob olf oco pn pb pm pcd pw pli ++ oD y o2 d0) (wb := []) (As := [Value.ref (a 0), Value.ref o2]) (rest := []) hx hb hml hown hta zw_usedShare wd_34_22 (c_L_usedShare l hlt D y a cap clr t hom mov wm tb tf ts nw wf wt nb bw bl bi bb no od ow ol ork ob olf oco pn pb pm pcd pw pli hb6 o2 d0) hH hN hK (z_pm z_p1 hP) (z_pmD z_p1 hD) hS hA rfl hl rfl (Nat.le_of_ble_eq_true rfl) ⟨Nat.le_of_ble_eq_true rfl, Nat.le_of_ble_eq_true rfl⟩ ⟨by show cells + 1 ≤ 3144; omega, by show slots + 6 ≤ 125590; omega⟩ dL_law_1990 (fun v w' H locs hq hP hD hS => ?_)
  rcases hq with ⟨hc1, v1, hv1, rfl, rfl⟩ | ⟨hc1, rfl, rfl⟩
  · have hP := z_pm z_p1.symm hP
    have hD := z_pmD z_p1.symm hD
    refine lv_istore (lv' := [(6, Value.int 0), (0, Value.ref b), (1, Value.ref (a 0)), (2, Value.ref (a' 0)), (3, Value.ref o1), (4, Value.ref o2), (5, Value.int (nI (5 * kq)))]) hx hb dL_law_1993 hl (by decide) rfl (fun ls hl => ?_)
    refine lv_aload_n hx hb dL_law_1995 rfl (lv_at hl 3 rfl) ?_
    refine z_callVF (wa := []) (w1 := wM a' y mth (nI t) tb tf ts cap clr mov hom wm (nI nw) wf wt (nI nb) fr bw bl (nI no) od ow ol ork olf oco at_ aw mp mpl msh msl mwa mse) (wb := (wB a y cap clr (nI t) hom mov wm tb tf ts (nI nw) wf wt (nI nb) bw bl bi bb (nI no) od ow ol ork ob olf oco pn pb pm pcd pw pli ++ oL y o1 v0) ++ oD y o2 v1) (As := []) (rest := []) hx hb hml hown hta zm_X6_usedShare wd_35_9 (c_X6_usedShare l D y a' mth t tb tf ts cap clr mov hom wm nw wf wt nb fr bw bl no od ow ol ork olf oco at_ aw mp mpl msh msl mwa mse hb6 hb8) hN hK hP hD hS hA 0 rfl rfl rfl hl rfl (Nat.le_of_ble_eq_true rfl) ⟨Nat.le_of_ble_eq_true rfl, Nat.le_of_ble_eq_true rfl⟩ ⟨by show cells + 1 + 0 ≤ 3144; omega, by show slots + 6 + 0 ≤ 125590; omega⟩ dL_law_1996 (fun v w' H locs hq hP hD hS => ?_)
    rcases hq with ⟨hm, rfl, rfl⟩ | ⟨hm, r9, rfl, rfl⟩
    · have hP := z_nil hP
      have hD := z_nilD hD
      obtain ⟨bv, hbv⟩ : ∃ z : UInt32, z = usF (ocC (fun k => fI (baM at_ (nI k) no)) nb) nb := ⟨_, rfl⟩
      rw [← hbv]
      refine lv_fstore (lv' := [(7, Value.float bv), (6, Value.int 0), (0, Value.ref b), (1, Value.ref (a 0)), (2, Value.ref (a' 0)), (3, Value.ref o1), (4, Value.ref o2), (5, Value.int (nI (5 * kq)))]) hx hb dL_law_1999 hl (by decide) rfl (fun ls hl => ?_)
      refine z_thr (P := 2001) (tg := 2050) C0 (c_X6_thrown l D y a' (0 : Int32) t tb tf ts cap clr mov hom wm nw wf wt nb fr bw bl no od ow ol ork olf oco at_ aw mp mpl msh msl mwa mse) rfl hP hD hS hl (lv_at hl 4 rfl) (lv_at hl 1 rfl) (rfl) dL_law_2001 dL_law_2002 dL_law_2005 dL_law_2007 dL_law_2012 dL_law_2014 (by decide) ⟨by show cells + 1 + 0 ≤ 3144; omega, by show slots + 6 + 0 ≤ 125590; omega⟩ (fun hz H locs hP hD hS => ?_) (fun hz H locs hP hD hS => ?_)
      · refine lv_goto (tgt := 2118) hx hb dL_law_2050 (by decide) ?_
        refine W.widen (k := cells + 3) (n := slots + 18) (by omega) (by omega) ?_
        exact kk cap clr t hom mov wm tb tf ts nw wf wt nb bw bl bi bb no od ow ol ork ob olf oco pn pb pm pcd pw pli (0 : Int32) fr at_ aw mp mpl msh msl mwa mse _ _ _ _ _ (hR) hP hD hS (lv_sub hl [2, 3, 4, 5, 6, 7] rfl)
      · refine lv_aload hx hb dL_law_2017 (lv_at hl 6 rfl) ?_
        refine lv_iconst (v := 0) hx hb dL_law_2019 (by decide) ?_
        refine z_dld2 hx hb hK hP dL_law_2020 ?_
        refine lv_fload hx hb dL_law_2021 (lv_at hl 0 rfl) ?_
        rw [hbv]
        refine lv_f2d hx hb dL_law_2023 (us_nn hb6 hm) ?_
        refine lv_dcmp hx hb dL_law_2024 ?_
        refine zr_top (y := 0) (by rw [hv1, oc_M hR nb (Nat.le_refl _), dc_self (us_nn hb6 hm)]; rfl) ?_
        refine lv_if_eq (tgt := 2050) hx hb dL_law_2025 (by decide) (fun _ => ?_) (fun z => absurd rfl z)
        refine lv_goto (tgt := 2118) hx hb dL_law_2050 (by decide) ?_
        refine W.widen (k := cells + 3) (n := slots + 18) (by omega) (by omega) ?_
        exact kk cap clr t hom mov wm tb tf ts nw wf wt nb bw bl bi bb no od ow ol ork ob olf oco pn pb pm pcd pw pli (0 : Int32) fr at_ aw mp mpl msh msl mwa mse _ _ _ _ _ (hR) hP hD hS (lv_sub hl [2, 3, 4, 5, 6, 7] rfl)
    · exact absurd (hc1) hm
  · have hP := z_pm z_p1.symm hP
    have hD := z_pmD z_p1.symm hD
    refine lv_istore (lv' := [(6, Value.int (nI (usC nb))), (0, Value.ref b), (1, Value.ref (a 0)), (2, Value.ref (a' 0)), (3, Value.ref o1), (4, Value.ref o2), (5, Value.int (nI (5 * kq)))]) hx hb dL_law_1993 hl (by decide) rfl (fun ls hl => ?_)
    refine lv_aload_n hx hb dL_law_1995 rfl (lv_at hl 3 rfl) ?_
    refine z_callVF (wa := []) (w1 := wM a' y mth (nI t) tb tf ts cap clr mov hom wm (nI nw) wf wt (nI nb) fr bw bl (nI no) od ow ol ork olf oco at_ aw mp mpl msh msl mwa mse) (wb := (wB a y cap clr (nI t) hom mov wm tb tf ts (nI nw) wf wt (nI nb) bw bl bi bb (nI no) od ow ol ork ob olf oco pn pb pm pcd pw pli ++ oL y o1 v0) ++ oD y o2 d0) (As := []) (rest := []) hx hb hml hown hta zm_X6_usedShare wd_35_9 (c_X6_usedShare l D y a' mth t tb tf ts cap clr mov hom wm nw wf wt nb fr bw bl no od ow ol ork olf oco at_ aw mp mpl msh msl mwa mse hb6 hb8) hN hK hP hD hS hA 0 rfl rfl rfl hl rfl (Nat.le_of_ble_eq_true rfl) ⟨Nat.le_of_ble_eq_true rfl, Nat.le_of_ble_eq_true rfl⟩ ⟨by show cells + 1 + 0 ≤ 3144; omega, by show slots + 6 + 0 ≤ 125590; omega⟩ dL_law_1996 (fun v w' H locs hq hP hD hS => ?_)
    rcases hq with ⟨hm, rfl, rfl⟩ | ⟨hm, r9, rfl, rfl⟩
    · exact absurd (hm) hc1
    · have hP := z_nil hP
      have hD := z_nilD hD
      refine lv_fstore (lv' := [(7, Value.float r9), (6, Value.int (nI (usC nb))), (0, Value.ref b), (1, Value.ref (a 0)), (2, Value.ref (a' 0)), (3, Value.ref o1), (4, Value.ref o2), (5, Value.int (nI (5 * kq)))]) hx hb dL_law_1999 hl (by decide) rfl (fun ls hl => ?_)
      refine z_thr (P := 2001) (tg := 2050) C0 (c_X6_thrown l D y a' (nI (usC nb)) t tb tf ts cap clr mov hom wm nw wf wt nb fr bw bl no od ow ol ork olf oco at_ aw mp mpl msh msl mwa mse) rfl hP hD hS hl (lv_at hl 4 rfl) (lv_at hl 1 rfl) (rfl) dL_law_2001 dL_law_2002 dL_law_2005 dL_law_2007 dL_law_2012 dL_law_2014 (by decide) ⟨by show cells + 1 + 0 ≤ 3144; omega, by show slots + 6 + 0 ≤ 125590; omega⟩ (fun hz H locs hP hD hS => ?_) (fun hz H locs hP hD hS => ?_)
      · refine lv_goto (tgt := 2118) hx hb dL_law_2050 (by decide) ?_
        refine W.widen (k := cells + 3) (n := slots + 18) (by omega) (by omega) ?_
        exact kk cap clr t hom mov wm tb tf ts nw wf wt nb bw bl bi bb no od ow ol ork ob olf oco pn pb pm pcd pw pli (nI (usC nb)) fr at_ aw mp mpl msh msl mwa mse _ _ _ _ _ (hR) hP hD hS (lv_sub hl [2, 3, 4, 5, 6, 7] rfl)
      · exact absurd hz (nI_n0 hc1 c4_usC)
set_option maxHeartbeats 1600000 in
set_option maxRecDepth 100000 in
theorem lc_32 {p : Program} {l : Launch} {e : Env} {s : State} {m : MethodId} {below : List Frame} {meth : Method} {c : Code} {D : va_G} {y : Nat → ClassId} {b L : Nat} {xs : Nat → Int32} {a a' : Nat → Nat} {o1 o2 kq cells slots : Nat} {G : State → Prop} (hlt : l.stackTraces = false) (C0 : LC p s m meth c b L xs D y) (hk : 5 * kq + 5 ≤ L) (hL : L ≤ 2560) (hc : cells + 3 ≤ 3144 ∧ slots + 18 ≤ 125590) (kk : LawK p l e s m below meth c D y b a a' o1 o2 kq (cells + 3) (slots + 18) 2118 G) : LawK p l e s m below meth c D y b a a' o1 o2 kq cells slots 2053 G := by
  intro cap clr t hom mov wm tb tf ts nw wf wt nb bw bl bi bb no od ow ol ork ob olf oco pn pb pm pcd pw pli mth fr at_ aw mp mpl msh msl mwa mse v0 d0 H locs ls hR hP hD hS hl
  have C1 := C0
  obtain ⟨hx, hb, hr, hml, hown, hta, hX, hbl, hlocks, hN, hH, hK⟩ := C1
  have hA : ∀ q, s.heap.size ≤ q → lwA s q := fun _ h => h
  have hb8 := hR.1.2.2.2
  have hb6 := hR.1.2.2.1
  have hw := hR.1.2.1
  have ht := hR.1.1
  have hsp := hR.2.1
  have hol := hR.2.2.1
  have hfr := fr_hfr (rel_fr hR)
  have hat := (rel_va hR).1
  refine lv_aload_n hx hb dL_law_2053 rfl (lv_at hl 1 rfl) ?_
  refine lv_aload hx hb dL_law_2054 (lv_at hl 4 rfl) ?_
  refine z_callWr (wa := wM a' y mth (nI t) tb tf ts cap clr mov hom wm (nI nw) wf wt (nI nb) fr bw bl (nI no) od ow ol ork olf oco at_ aw mp mpl msh msl mwa mse ++ oL y o1 v0) (w1 := wB a y cap clr (nI t) hom mov wm tb tf ts (nI nw) wf wt (nI nb) bw bl bi bb (nI no) od ow ol ork ob olf oco pn pb pm pcd pw pli ++ oD y o2 d0) (wb := []) (As := [Value.ref (a 0), Value.ref o2]) (rest := []) hx hb hml hown hta zw_meanDraught wd_35_13 (c_L_meanDraught l hlt D y a cap clr t hom mov wm tb tf ts nw wf wt nb bw bl bi bb no od ow ol ork ob olf oco pn pb pm pcd pw pli hb8 o2 d0) hH hN hK (z_pm z_p1 hP) (z_pmD z_p1 hD) hS hA rfl hl rfl (Nat.le_of_ble_eq_true rfl) ⟨Nat.le_of_ble_eq_true rfl, Nat.le_of_ble_eq_true rfl⟩ ⟨by show cells + 1 ≤ 3144; omega, by show slots + 6 ≤ 125590; omega⟩ dL_law_2056 (fun v w' H locs hq hP hD hS => ?_)
  rcases hq with ⟨hc1, v1, hv1, rfl, rfl⟩ | ⟨hc1, rfl, rfl⟩
  · have hP := z_pm z_p1.symm hP
    have hD := z_pmD z_p1.symm hD
    refine lv_istore (lv' := [(6, Value.int 0), (0, Value.ref b), (1, Value.ref (a 0)), (2, Value.ref (a' 0)), (3, Value.ref o1), (4, Value.ref o2), (5, Value.int (nI (5 * kq)))]) hx hb dL_law_2059 hl (by decide) rfl (fun ls hl => ?_)
    refine lv_aload_n hx hb dL_law_2061 rfl (lv_at hl 3 rfl) ?_
    refine z_callVF (wa := []) (w1 := wM a' y mth (nI t) tb tf ts cap clr mov hom wm (nI nw) wf wt (nI nb) fr bw bl (nI no) od ow ol ork olf oco at_ aw mp mpl msh msl mwa mse) (wb := (wB a y cap clr (nI t) hom mov wm tb tf ts (nI nw) wf wt (nI nb) bw bl bi bb (nI no) od ow ol ork ob olf oco pn pb pm pcd pw pli ++ oL y o1 v0) ++ oD y o2 v1) (As := []) (rest := []) hx hb hml hown hta zm_X6_meanDraught wd_36_0 (c_X6_meanDraught l D y a' mth t tb tf ts cap clr mov hom wm nw wf wt nb fr bw bl no od ow ol ork olf oco at_ aw mp mpl msh msl mwa mse hb8) hN hK hP hD hS hA 0 rfl rfl rfl hl rfl (Nat.le_of_ble_eq_true rfl) ⟨Nat.le_of_ble_eq_true rfl, Nat.le_of_ble_eq_true rfl⟩ ⟨by show cells + 1 + 0 ≤ 3144; omega, by show slots + 6 + 0 ≤ 125590; omega⟩ dL_law_2062 (fun v w' H locs hq hP hD hS => ?_)
    rcases hq with ⟨hm, rfl, rfl⟩ | ⟨hm, r9, rfl, rfl⟩
    · have hP := z_nil hP
      have hD := z_nilD hD
      obtain ⟨bv, hbv⟩ : ∃ z : UInt64, z = mdF (smP (wtM aw at_) od no) (fb_ct (wtM aw at_) no) := ⟨_, rfl⟩
      rw [← hbv]
      refine lv_dstore (lv' := [(7, Value.double bv), (6, Value.int 0), (0, Value.ref b), (1, Value.ref (a 0)), (2, Value.ref (a' 0)), (3, Value.ref o1), (4, Value.ref o2), (5, Value.int (nI (5 * kq)))]) hx hb dL_law_2065 hl (by decide) rfl (fun ls hl => ?_)
      refine z_thr (P := 2067) (tg := 2115) C0 (c_X6_thrown l D y a' (0 : Int32) t tb tf ts cap clr mov hom wm nw wf wt nb fr bw bl no od ow ol ork olf oco at_ aw mp mpl msh msl mwa mse) rfl hP hD hS hl (lv_at hl 4 rfl) (lv_at hl 1 rfl) (rfl) dL_law_2067 dL_law_2068 dL_law_2071 dL_law_2073 dL_law_2078 dL_law_2080 (by decide) ⟨by show cells + 1 + 0 ≤ 3144; omega, by show slots + 6 + 0 ≤ 125590; omega⟩ (fun hz H locs hP hD hS => ?_) (fun hz H locs hP hD hS => ?_)
      · refine lv_goto (tgt := 2118) hx hb dL_law_2115 (by decide) ?_
        refine W.widen (k := cells + 3) (n := slots + 18) (by omega) (by omega) ?_
        exact kk cap clr t hom mov wm tb tf ts nw wf wt nb bw bl bi bb no od ow ol ork ob olf oco pn pb pm pcd pw pli (0 : Int32) fr at_ aw mp mpl msh msl mwa mse _ _ _ _ _ (hR) hP hD hS (lv_sub hl [2, 3, 4, 5, 6, 7] rfl)
      · refine lv_aload hx hb dL_law_2083 (lv_at hl 6 rfl) ?_
        refine lv_iconst (v := 0) hx hb dL_law_2085 (by decide) ?_
        refine z_dld2 hx hb hK hP dL_law_2086 ?_
        refine lv_dload hx hb dL_law_2087 (lv_at hl 0 rfl) ?_
        rw [hbv]
        refine lv_dcmp hx hb dL_law_2089 ?_
        refine zr_top (y := 0) (by rw [hv1, sw_M hR od no (Nat.le_refl _), cw_M hR no (Nat.le_refl _), dc_self (md_nn (Nat.le_trans (fb_ct_le _ no) hb8) hm)]; rfl) ?_
        refine lv_if_eq (tgt := 2115) hx hb dL_law_2090 (by decide) (fun _ => ?_) (fun z => absurd rfl z)
        refine lv_goto (tgt := 2118) hx hb dL_law_2115 (by decide) ?_
        refine W.widen (k := cells + 3) (n := slots + 18) (by omega) (by omega) ?_
        exact kk cap clr t hom mov wm tb tf ts nw wf wt nb bw bl bi bb no od ow ol ork ob olf oco pn pb pm pcd pw pli (0 : Int32) fr at_ aw mp mpl msh msl mwa mse _ _ _ _ _ (hR) hP hD hS (lv_sub hl [2, 3, 4, 5, 6, 7] rfl)
    · exact absurd ((congrArg usC (cw_M hR no (Nat.le_refl _))).symm.trans hc1) hm
  · have hP := z_pm z_p1.symm hP
    have hD := z_pmD z_p1.symm hD
    refine lv_istore (lv' := [(6, Value.int (nI (usC (cntW ob no)))), (0, Value.ref b), (1, Value.ref (a 0)), (2, Value.ref (a' 0)), (3, Value.ref o1), (4, Value.ref o2), (5, Value.int (nI (5 * kq)))]) hx hb dL_law_2059 hl (by decide) rfl (fun ls hl => ?_)
    refine lv_aload_n hx hb dL_law_2061 rfl (lv_at hl 3 rfl) ?_
    refine z_callVF (wa := []) (w1 := wM a' y mth (nI t) tb tf ts cap clr mov hom wm (nI nw) wf wt (nI nb) fr bw bl (nI no) od ow ol ork olf oco at_ aw mp mpl msh msl mwa mse) (wb := (wB a y cap clr (nI t) hom mov wm tb tf ts (nI nw) wf wt (nI nb) bw bl bi bb (nI no) od ow ol ork ob olf oco pn pb pm pcd pw pli ++ oL y o1 v0) ++ oD y o2 d0) (As := []) (rest := []) hx hb hml hown hta zm_X6_meanDraught wd_36_0 (c_X6_meanDraught l D y a' mth t tb tf ts cap clr mov hom wm nw wf wt nb fr bw bl no od ow ol ork olf oco at_ aw mp mpl msh msl mwa mse hb8) hN hK hP hD hS hA 0 rfl rfl rfl hl rfl (Nat.le_of_ble_eq_true rfl) ⟨Nat.le_of_ble_eq_true rfl, Nat.le_of_ble_eq_true rfl⟩ ⟨by show cells + 1 + 0 ≤ 3144; omega, by show slots + 6 + 0 ≤ 125590; omega⟩ dL_law_2062 (fun v w' H locs hq hP hD hS => ?_)
    rcases hq with ⟨hm, rfl, rfl⟩ | ⟨hm, r9, rfl, rfl⟩
    · exact absurd ((congrArg usC (cw_M hR no (Nat.le_refl _))).trans hm) hc1
    · have hP := z_nil hP
      have hD := z_nilD hD
      refine lv_dstore (lv' := [(7, Value.double r9), (6, Value.int (nI (usC (cntW ob no)))), (0, Value.ref b), (1, Value.ref (a 0)), (2, Value.ref (a' 0)), (3, Value.ref o1), (4, Value.ref o2), (5, Value.int (nI (5 * kq)))]) hx hb dL_law_2065 hl (by decide) rfl (fun ls hl => ?_)
      refine z_thr (P := 2067) (tg := 2115) C0 (c_X6_thrown l D y a' (nI (usC (fb_ct (wtM aw at_) no))) t tb tf ts cap clr mov hom wm nw wf wt nb fr bw bl no od ow ol ork olf oco at_ aw mp mpl msh msl mwa mse) rfl hP hD hS hl (lv_at hl 4 rfl) (lv_at hl 1 rfl) (congrArg nI (congrArg usC (cw_M hR no (Nat.le_refl _))).symm) dL_law_2067 dL_law_2068 dL_law_2071 dL_law_2073 dL_law_2078 dL_law_2080 (by decide) ⟨by show cells + 1 + 0 ≤ 3144; omega, by show slots + 6 + 0 ≤ 125590; omega⟩ (fun hz H locs hP hD hS => ?_) (fun hz H locs hP hD hS => ?_)
      · refine lv_goto (tgt := 2118) hx hb dL_law_2115 (by decide) ?_
        refine W.widen (k := cells + 3) (n := slots + 18) (by omega) (by omega) ?_
        exact kk cap clr t hom mov wm tb tf ts nw wf wt nb bw bl bi bb no od ow ol ork ob olf oco pn pb pm pcd pw pli (nI (usC (fb_ct (wtM aw at_) no))) fr at_ aw mp mpl msh msl mwa mse _ _ _ _ _ (hR) hP hD hS (lv_sub hl [2, 3, 4, 5, 6, 7] rfl)
      · exact absurd hz (nI_n0 hc1 c4_usC)
