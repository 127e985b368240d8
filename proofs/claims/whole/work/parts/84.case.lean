set_option maxHeartbeats 1600000 in
set_option maxRecDepth 100000 in
theorem lc_17 {p : Program} {l : Launch} {e : Env} {s : State} {m : MethodId} {below : List Frame} {meth : Method} {c : Code} {D : va_G} {y : Nat → ClassId} {b L : Nat} {xs : Nat → Int32} {a a' : Nat → Nat} {o1 o2 kq cells slots : Nat} {G : State → Prop} (hlt : l.stackTraces = false) (C0 : LC p s m meth c b L xs D y) (hk : 5 * kq + 5 ≤ L) (hL : L ≤ 2560) (hc : cells + 3 ≤ 3144 ∧ slots + 18 ≤ 125590) (kk : LawK p l e s m below meth c D y b a a' o1 o2 kq (cells + 3) (slots + 18) 2118 G) : LawK p l e s m below meth c D y b a a' o1 o2 kq cells slots 1288 G := by
  intro cap clr t hom mov wm tb tf ts nw wf wt nb bw bl bi bb no od ow ol ork ob olf oco pn pb pm pcd pw pli mth fr at_ aw mp mpl msh msl mwa mse v0 d0 H locs ls hR hP hD hS hl
  have C1 := C0
  obtain ⟨hx, hb, hr, hml, hown, hta, hX, hbl, hlocks, hN, hH, hK⟩ := C1
  have hA : ∀ q, s.heap.size ≤ q → lwA s q := fun _ h => h
  have hb8 := hR.1.2.2.2
  have hb6 := hR.1.2.2.1
  have hw := hR.1.2.1
  have ht := hR.1.1
  have hsp := hR.2.1
  have hol := hR.2.2.1
  have hfr := fr_hfr (rel_fr hR)
  have hat := (rel_va hR).1
  refine lv_aload_n hx hb dL_law_1288 rfl (lv_at hl 1 rfl) ?_
  refine z_arg (i := 1) C0 (by omega) hL hS (lv_at hl 0 rfl) (lv_at hl 5 rfl) (by decide) dL_law_1289 dL_law_1290 dL_law_1292 dL_law_1293 dL_law_1294 ?_
  refine lv_aload_n hx hb dL_law_1295 rfl (lv_at hl 3 rfl) ?_
  refine z_callWr (wa := wM a' y mth (nI t) tb tf ts cap clr mov hom wm (nI nw) wf wt (nI nb) fr bw bl (nI no) od ow ol ork olf oco at_ aw mp mpl msh msl mwa mse) (w1 := wB a y cap clr (nI t) hom mov wm tb tf ts (nI nw) wf wt (nI nb) bw bl bi bb (nI no) od ow ol ork ob olf oco pn pb pm pcd pw pli ++ oL y o1 v0) (wb := oD y o2 d0) (As := [Value.ref (a 0), Value.int (xs (5 * kq + 1)), Value.ref o1]) (rest := []) hx hb hml hown hta zw_comeBack wd_22_2 (c_L_comeBack l hlt D y a cap clr t hom mov wm tb tf ts nw wf wt nb bw bl bi bb no od ow ol ork ob olf oco pn pb pm pcd pw pli (xs (5 * kq + 1)) hb8 o1 v0) hH hN hK hP hD hS hA rfl hl rfl (Nat.le_of_ble_eq_true rfl) ⟨Nat.le_of_ble_eq_true rfl, Nat.le_of_ble_eq_true rfl⟩ ⟨by show cells + 2 ≤ 3144; omega, by show slots + 12 ≤ 125590; omega⟩ dL_law_1296 (fun v w' H locs hq hP hD hS => ?_)
  rcases hq with ⟨hc1, v1, hv1, rfl, rfl⟩ | ⟨hc1, rfl, rfl⟩
  · refine lv_istore (lv' := [(6, Value.int 0), (0, Value.ref b), (1, Value.ref (a 0)), (2, Value.ref (a' 0)), (3, Value.ref o1), (4, Value.ref o2), (5, Value.int (nI (5 * kq)))]) hx hb dL_law_1299 hl (by decide) rfl (fun ls hl => ?_)
    refine lv_aload_n hx hb dL_law_1301 rfl (lv_at hl 3 rfl) ?_
    refine z_arg (i := 1) C0 (by omega) hL hS (lv_at hl 1 rfl) (lv_at hl 6 rfl) (by decide) dL_law_1302 dL_law_1303 dL_law_1305 dL_law_1306 dL_law_1307 ?_
    refine z_callVF (wa := []) (w1 := wM a' y mth (nI t) tb tf ts cap clr mov hom wm (nI nw) wf wt (nI nb) fr bw bl (nI no) od ow ol ork olf oco at_ aw mp mpl msh msl mwa mse) (wb := (wB a y cap clr (nI t) hom mov wm tb tf ts (nI nw) wf wt (nI nb) bw bl bi bb (nI no) od ow ol ork (upd ob (nN (xs (5 * kq + 1))) (-1 : Int32)) olf oco pn pb pm pcd pw pli ++ oL y o1 v1) ++ oD y o2 d0) (As := [Value.int (xs (5 * kq + 1))]) (rest := []) hx hb hml hown hta zm_X6_comeBack wd_22_13 (c_X6_comeBack l D y a' mth t tb tf ts cap clr mov hom wm nw wf wt nb fr bw bl no od ow ol ork olf oco at_ aw mp mpl msh msl mwa mse (xs (5 * kq + 1)) hb8) hN hK hP hD hS hA 0 rfl rfl rfl hl rfl (Nat.le_of_ble_eq_true rfl) ⟨Nat.le_of_ble_eq_true rfl, Nat.le_of_ble_eq_true rfl⟩ ⟨by show cells + 2 + 0 ≤ 3144; omega, by show slots + 12 + 0 ≤ 125590; omega⟩ dL_law_1308 (fun v w' H locs hq hP hD hS => ?_)
    rcases hq with ⟨hm, rfl, rfl⟩ | ⟨hm, r9, rfl, rfl⟩
    · have hP := z_nil hP
      have hD := z_nilD hD
      obtain ⟨bv, hbv⟩ : ∃ z : Int32, z = nI (fb_ct (wtM (upd aw (nN (xs (5 * kq + 1))) (0 : Int32)) at_) no) := ⟨_, rfl⟩
      refine zr_top (y := bv) hbv.symm ?_
      refine lv_istore (lv' := [(7, Value.int bv), (6, Value.int 0), (0, Value.ref b), (1, Value.ref (a 0)), (2, Value.ref (a' 0)), (3, Value.ref o1), (4, Value.ref o2), (5, Value.int (nI (5 * kq)))]) hx hb dL_law_1311 hl (by decide) rfl (fun ls hl => ?_)
      refine z_tail (P := 1313) C0 (c_X6_thrown l D y a' (0 : Int32) t tb tf ts cap clr mov hom wm nw wf wt nb fr bw bl no od ow ol ork olf oco at_ (upd aw (nN (xs (5 * kq + 1))) (0 : Int32)) mp mpl msh msl mwa mse) rfl hP hD hS hl (lv_at hl 4 rfl) (lv_at hl 1 rfl) (lv_at hl 5 rfl) (lv_at hl 0 rfl) (rfl) (fun _ => hv1.trans (congrArg Int32.toInt64 ((congrArg nI (cw_M (rel_comeBack hR hc1) no (Nat.le_refl _))).trans hbv.symm))) ⟨by show cells + 2 + 0 ≤ 3144; omega, by show slots + 12 + 0 ≤ 125590; omega⟩ dL_law_1313 dL_law_1314 dL_law_1317 dL_law_1319 dL_law_1324 dL_law_1326 dL_law_1329 dL_law_1330 dL_law_1331 dL_law_1332 dL_law_1334 dL_law_1335 dL_law_1336 dL_law_1341 (by decide) (fun H locs hP hD hS => ?_)
      refine W.widen (k := cells + 3) (n := slots + 18) (by omega) (by omega) ?_
      exact kk cap clr t hom mov wm tb tf ts nw wf wt nb bw bl bi bb no od ow ol ork (upd ob (nN (xs (5 * kq + 1))) (-1 : Int32)) olf oco pn pb pm pcd pw pli (0 : Int32) fr at_ (upd aw (nN (xs (5 * kq + 1))) (0 : Int32)) mp mpl msh msl mwa mse _ _ _ _ _ (rel_comeBack hR hc1) hP hD hS (lv_sub hl [2, 3, 4, 5, 6, 7] rfl)
    · exact absurd ((cb_M hR _).symm.trans hc1) hm
  · refine lv_istore (lv' := [(6, Value.int (nI (cbC no ob (xs (5 * kq + 1))))), (0, Value.ref b), (1, Value.ref (a 0)), (2, Value.ref (a' 0)), (3, Value.ref o1), (4, Value.ref o2), (5, Value.int (nI (5 * kq)))]) hx hb dL_law_1299 hl (by decide) rfl (fun ls hl => ?_)
    refine lv_aload_n hx hb dL_law_1301 rfl (lv_at hl 3 rfl) ?_
    refine z_arg (i := 1) C0 (by omega) hL hS (lv_at hl 1 rfl) (lv_at hl 6 rfl) (by decide) dL_law_1302 dL_law_1303 dL_law_1305 dL_law_1306 dL_law_1307 ?_
    refine z_callVF (wa := []) (w1 := wM a' y mth (nI t) tb tf ts cap clr mov hom wm (nI nw) wf wt (nI nb) fr bw bl (nI no) od ow ol ork olf oco at_ aw mp mpl msh msl mwa mse) (wb := (wB a y cap clr (nI t) hom mov wm tb tf ts (nI nw) wf wt (nI nb) bw bl bi bb (nI no) od ow ol ork ob olf oco pn pb pm pcd pw pli ++ oL y o1 v0) ++ oD y o2 d0) (As := [Value.int (xs (5 * kq + 1))]) (rest := []) hx hb hml hown hta zm_X6_comeBack wd_22_13 (c_X6_comeBack l D y a' mth t tb tf ts cap clr mov hom wm nw wf wt nb fr bw bl no od ow ol ork olf oco at_ aw mp mpl msh msl mwa mse (xs (5 * kq + 1)) hb8) hN hK hP hD hS hA 0 rfl rfl rfl hl rfl (Nat.le_of_ble_eq_true rfl) ⟨Nat.le_of_ble_eq_true rfl, Nat.le_of_ble_eq_true rfl⟩ ⟨by show cells + 2 + 0 ≤ 3144; omega, by show slots + 12 + 0 ≤ 125590; omega⟩ dL_law_1308 (fun v w' H locs hq hP hD hS => ?_)
    rcases hq with ⟨hm, rfl, rfl⟩ | ⟨hm, r9, rfl, rfl⟩
    · exact absurd ((cb_M hR _).trans hm) hc1
    · have hP := z_nil hP
      have hD := z_nilD hD
      refine lv_istore (lv' := [(7, Value.int r9), (6, Value.int (nI (cbC no ob (xs (5 * kq + 1))))), (0, Value.ref b), (1, Value.ref (a 0)), (2, Value.ref (a' 0)), (3, Value.ref o1), (4, Value.ref o2), (5, Value.int (nI (5 * kq)))]) hx hb dL_law_1311 hl (by decide) rfl (fun ls hl => ?_)
      refine z_tail (P := 1313) C0 (c_X6_thrown l D y a' (nI (cbM no aw (xs (5 * kq + 1)))) t tb tf ts cap clr mov hom wm nw wf wt nb fr bw bl no od ow ol ork olf oco at_ aw mp mpl msh msl mwa mse) rfl hP hD hS hl (lv_at hl 4 rfl) (lv_at hl 1 rfl) (lv_at hl 5 rfl) (lv_at hl 0 rfl) (congrArg nI (cb_M hR _).symm) (fun z => absurd z (nI_n0 hc1 c4_cbC)) ⟨by show cells + 2 + 0 ≤ 3144; omega, by show slots + 12 + 0 ≤ 125590; omega⟩ dL_law_1313 dL_law_1314 dL_law_1317 dL_law_1319 dL_law_1324 dL_law_1326 dL_law_1329 dL_law_1330 dL_law_1331 dL_law_1332 dL_law_1334 dL_law_1335 dL_law_1336 dL_law_1341 (by decide) (fun H locs hP hD hS => ?_)
      refine W.widen (k := cells + 3) (n := slots + 18) (by omega) (by omega) ?_
      exact kk cap clr t hom mov wm tb tf ts nw wf wt nb bw bl bi bb no od ow ol ork ob olf oco pn pb pm pcd pw pli (nI (cbM no aw (xs (5 * kq + 1)))) fr at_ aw mp mpl msh msl mwa mse _ _ _ _ _ (hR) hP hD hS (lv_sub hl [2, 3, 4, 5, 6, 7] rfl)
set_option maxHeartbeats 1600000 in
set_option maxRecDepth 100000 in
theorem lc_18 {p : Program} {l : Launch} {e : Env} {s : State} {m : MethodId} {below : List Frame} {meth : Method} {c : Code} {D : va_G} {y : Nat → ClassId} {b L : Nat} {xs : Nat → Int32} {a a' : Nat → Nat} {o1 o2 kq cells slots : Nat} {G : State → Prop} (hlt : l.stackTraces = false) (C0 : LC p s m meth c b L xs D y) (hk : 5 * kq + 5 ≤ L) (hL : L ≤ 2560) (hc : cells + 3 ≤ 3144 ∧ slots + 18 ≤ 125590) (kk : LawK p l e s m below meth c D y b a a' o1 o2 kq (cells + 3) (slots + 18) 2118 G) : LawK p l e s m below meth c D y b a a' o1 o2 kq cells slots 1344 G := by
  intro cap clr t hom mov wm tb tf ts nw wf wt nb bw bl bi bb no od ow ol ork ob olf oco pn pb pm pcd pw pli mth fr at_ aw mp mpl msh msl mwa mse v0 d0 H locs ls hR hP hD hS hl
  have C1 := C0
  obtain ⟨hx, hb, hr, hml, hown, hta, hX, hbl, hlocks, hN, hH, hK⟩ := C1
  have hA : ∀ q, s.heap.size ≤ q → lwA s q := fun _ h => h
  have hb8 := hR.1.2.2.2
  have hb6 := hR.1.2.2.1
  have hw := hR.1.2.1
  have ht := hR.1.1
  have hsp := hR.2.1
  have hol := hR.2.2.1
  have hfr := fr_hfr (rel_fr hR)
  have hat := (rel_va hR).1
  refine lv_aload_n hx hb dL_law_1344 rfl (lv_at hl 1 rfl) ?_
  refine lv_aload_n hx hb dL_law_1345 rfl (lv_at hl 3 rfl) ?_
  refine z_callWr (wa := wM a' y mth (nI t) tb tf ts cap clr mov hom wm (nI nw) wf wt (nI nb) fr bw bl (nI no) od ow ol ork olf oco at_ aw mp mpl msh msl mwa mse) (w1 := wB a y cap clr (nI t) hom mov wm tb tf ts (nI nw) wf wt (nI nb) bw bl bi bb (nI no) od ow ol ork ob olf oco pn pb pm pcd pw pli ++ oL y o1 v0) (wb := oD y o2 d0) (As := [Value.ref (a 0), Value.ref o1]) (rest := []) hx hb hml hown hta zw_nextWaiting wd_23_1 (c_L_nextWaiting l hlt D y a cap clr t hom mov wm tb tf ts nw wf wt nb bw bl bi bb no od ow ol ork ob olf oco pn pb pm pcd pw pli hb8 o1 v0) hH hN hK hP hD hS hA rfl hl rfl (Nat.le_of_ble_eq_true rfl) ⟨Nat.le_of_ble_eq_true rfl, Nat.le_of_ble_eq_true rfl⟩ ⟨by show cells + 1 ≤ 3144; omega, by show slots + 6 ≤ 125590; omega⟩ dL_law_1346 (fun v w' H locs hq hP hD hS => ?_)
  rcases hq with ⟨hc1, v1, hv1, rfl, rfl⟩ | ⟨hc1, rfl, rfl⟩
  · refine lv_istore (lv' := [(6, Value.int 0), (0, Value.ref b), (1, Value.ref (a 0)), (2, Value.ref (a' 0)), (3, Value.ref o1), (4, Value.ref o2), (5, Value.int (nI (5 * kq)))]) hx hb dL_law_1349 hl (by decide) rfl (fun ls hl => ?_)
    refine lv_aload_n hx hb dL_law_1351 rfl (lv_at hl 3 rfl) ?_
    refine z_callVF (wa := []) (w1 := wM a' y mth (nI t) tb tf ts cap clr mov hom wm (nI nw) wf wt (nI nb) fr bw bl (nI no) od ow ol ork olf oco at_ aw mp mpl msh msl mwa mse) (wb := (wB a y cap clr (nI t) hom mov wm tb tf ts (nI nw) wf wt (nI nb) bw bl bi bb (nI no) od ow ol ork ob olf oco pn pb pm pcd pw pli ++ oL y o1 v1) ++ oD y o2 d0) (As := []) (rest := []) hx hb hml hown hta zm_X6_nextWaiting wd_23_17 (c_X6_nextWaiting l D y a' mth t tb tf ts cap clr mov hom wm nw wf wt nb fr bw bl no od ow ol ork olf oco at_ aw mp mpl msh msl mwa mse hb8) hN hK hP hD hS hA 0 rfl rfl rfl hl rfl (Nat.le_of_ble_eq_true rfl) ⟨Nat.le_of_ble_eq_true rfl, Nat.le_of_ble_eq_true rfl⟩ ⟨by show cells + 1 + 0 ≤ 3144; omega, by show slots + 6 + 0 ≤ 125590; omega⟩ dL_law_1352 (fun v w' H locs hq hP hD hS => ?_)
    rcases hq with ⟨hm, rfl, rfl⟩ | ⟨hm, r9, rfl, rfl⟩
    · have hP := z_nil hP
      have hD := z_nilD hD
      obtain ⟨bv, hbv⟩ : ∃ z : Int32, z = fI (fwM aw at_ ork ow no) := ⟨_, rfl⟩
      refine zr_top (y := bv) hbv.symm ?_
      refine lv_istore (lv' := [(7, Value.int bv), (6, Value.int 0), (0, Value.ref b), (1, Value.ref (a 0)), (2, Value.ref (a' 0)), (3, Value.ref o1), (4, Value.ref o2), (5, Value.int (nI (5 * kq)))]) hx hb dL_law_1355 hl (by decide) rfl (fun ls hl => ?_)
      refine z_tail (P := 1357) C0 (c_X6_thrown l D y a' (0 : Int32) t tb tf ts cap clr mov hom wm nw wf wt nb fr bw bl no od ow ol ork olf oco at_ aw mp mpl msh msl mwa mse) rfl hP hD hS hl (lv_at hl 4 rfl) (lv_at hl 1 rfl) (lv_at hl 5 rfl) (lv_at hl 0 rfl) (rfl) (fun _ => hv1.trans (congrArg Int32.toInt64 ((congrArg fI (fw_M hR _ no (Nat.le_refl _))).trans hbv.symm))) ⟨by show cells + 1 + 0 ≤ 3144; omega, by show slots + 6 + 0 ≤ 125590; omega⟩ dL_law_1357 dL_law_1358 dL_law_1361 dL_law_1363 dL_law_1368 dL_law_1370 dL_law_1373 dL_law_1374 dL_law_1375 dL_law_1376 dL_law_1378 dL_law_1379 dL_law_1380 dL_law_1385 (by decide) (fun H locs hP hD hS => ?_)
      refine W.widen (k := cells + 3) (n := slots + 18) (by omega) (by omega) ?_
      exact kk cap clr t hom mov wm tb tf ts nw wf wt nb bw bl bi bb no od ow ol ork ob olf oco pn pb pm pcd pw pli (0 : Int32) fr at_ aw mp mpl msh msl mwa mse _ _ _ _ _ (hR) hP hD hS (lv_sub hl [2, 3, 4, 5, 6, 7] rfl)
    · exact absurd ((nw_M hR _).symm.trans hc1) hm
  · refine lv_istore (lv' := [(6, Value.int (nI (nwC no ob ork ow))), (0, Value.ref b), (1, Value.ref (a 0)), (2, Value.ref (a' 0)), (3, Value.ref o1), (4, Value.ref o2), (5, Value.int (nI (5 * kq)))]) hx hb dL_law_1349 hl (by decide) rfl (fun ls hl => ?_)
    refine lv_aload_n hx hb dL_law_1351 rfl (lv_at hl 3 rfl) ?_
    refine z_callVF (wa := []) (w1 := wM a' y mth (nI t) tb tf ts cap clr mov hom wm (nI nw) wf wt (nI nb) fr bw bl (nI no) od ow ol ork olf oco at_ aw mp mpl msh msl mwa mse) (wb := (wB a y cap clr (nI t) hom mov wm tb tf ts (nI nw) wf wt (nI nb) bw bl bi bb (nI no) od ow ol ork ob olf oco pn pb pm pcd pw pli ++ oL y o1 v0) ++ oD y o2 d0) (As := []) (rest := []) hx hb hml hown hta zm_X6_nextWaiting wd_23_17 (c_X6_nextWaiting l D y a' mth t tb tf ts cap clr mov hom wm nw wf wt nb fr bw bl no od ow ol ork olf oco at_ aw mp mpl msh msl mwa mse hb8) hN hK hP hD hS hA 0 rfl rfl rfl hl rfl (Nat.le_of_ble_eq_true rfl) ⟨Nat.le_of_ble_eq_true rfl, Nat.le_of_ble_eq_true rfl⟩ ⟨by show cells + 1 + 0 ≤ 3144; omega, by show slots + 6 + 0 ≤ 125590; omega⟩ dL_law_1352 (fun v w' H locs hq hP hD hS => ?_)
    rcases hq with ⟨hm, rfl, rfl⟩ | ⟨hm, r9, rfl, rfl⟩
    · exact absurd ((nw_M hR _).trans hm) hc1
    · have hP := z_nil hP
      have hD := z_nilD hD
      refine lv_istore (lv' := [(7, Value.int r9), (6, Value.int (nI (nwC no ob ork ow))), (0, Value.ref b), (1, Value.ref (a 0)), (2, Value.ref (a' 0)), (3, Value.ref o1), (4, Value.ref o2), (5, Value.int (nI (5 * kq)))]) hx hb dL_law_1355 hl (by decide) rfl (fun ls hl => ?_)
      refine z_tail (P := 1357) C0 (c_X6_thrown l D y a' (nI (nwM no aw at_ ork ow)) t tb tf ts cap clr mov hom wm nw wf wt nb fr bw bl no od ow ol ork olf oco at_ aw mp mpl msh msl mwa mse) rfl hP hD hS hl (lv_at hl 4 rfl) (lv_at hl 1 rfl) (lv_at hl 5 rfl) (lv_at hl 0 rfl) (congrArg nI (nw_M hR _).symm) (fun z => absurd z (nI_n0 hc1 c4_nwC)) ⟨by show cells + 1 + 0 ≤ 3144; omega, by show slots + 6 + 0 ≤ 125590; omega⟩ dL_law_1357 dL_law_1358 dL_law_1361 dL_law_1363 dL_law_1368 dL_law_1370 dL_law_1373 dL_law_1374 dL_law_1375 dL_law_1376 dL_law_1378 dL_law_1379 dL_law_1380 dL_law_1385 (by decide) (fun H locs hP hD hS => ?_)
      refine W.widen (k := cells + 3) (n := slots + 18) (by omega) (by omega) ?_
      exact kk cap clr t hom mov wm tb tf ts nw wf wt nb bw bl bi bb no od ow ol ork ob olf oco pn pb pm pcd pw pli (nI (nwM no aw at_ ork ow)) fr at_ aw mp mpl msh msl mwa mse _ _ _ _ _ (hR) hP hD hS (lv_sub hl [2, 3, 4, 5, 6, 7] rfl)
set_option maxHeartbeats 1600000 in
set_option maxRecDepth 100000 in
theorem lc_19 {p : Program} {l : Launch} {e : Env} {s : State} {m : MethodId} {below : List Frame} {meth : Method} {c : Code} {D : va_G} {y : Nat → ClassId} {b L : Nat} {xs : Nat → Int32} {a a' : Nat → Nat} {o1 o2 kq cells slots : Nat} {G : State → Prop} (hlt : l.stackTraces = false) (C0 : LC p s m meth c b L xs D y) (hk : 5 * kq + 5 ≤ L) (hL : L ≤ 2560) (hc : cells + 3 ≤ 3144 ∧ slots + 18 ≤ 125590) (kk : LawK p l e s m below meth c D y b a a' o1 o2 kq (cells + 3) (slots + 18) 2118 G) : LawK p l e s m below meth c D y b a a' o1 o2 kq cells slots 1388 G := by
  intro cap clr t hom mov wm tb tf ts nw wf wt nb bw bl bi bb no od ow ol ork ob olf oco pn pb pm pcd pw pli mth fr at_ aw mp mpl msh msl mwa mse v0 d0 H locs ls hR hP hD hS hl
  have C1 := C0
  obtain ⟨hx, hb, hr, hml, hown, hta, hX, hbl, hlocks, hN, hH, hK⟩ := C1
  have hA : ∀ q, s.heap.size ≤ q → lwA s q := fun _ h => h
  have hb8 := hR.1.2.2.2
  have hb6 := hR.1.2.2.1
  have hw := hR.1.2.1
  have ht := hR.1.1
  have hsp := hR.2.1
  have hol := hR.2.2.1
  have hfr := fr_hfr (rel_fr hR)
  have hat := (rel_va hR).1
  refine lv_aload_n hx hb dL_law_1388 rfl (lv_at hl 1 rfl) ?_
  refine z_arg (i := 1) C0 (by omega) hL hS (lv_at hl 0 rfl) (lv_at hl 5 rfl) (by decide) dL_law_1389 dL_law_1390 dL_law_1392 dL_law_1393 dL_law_1394 ?_
  refine lv_aload_n hx hb dL_law_1395 rfl (lv_at hl 3 rfl) ?_
  refine z_callWr (wa := wM a' y mth (nI t) tb tf ts cap clr mov hom wm (nI nw) wf wt (nI nb) fr bw bl (nI no) od ow ol ork olf oco at_ aw mp mpl msh msl mwa mse) (w1 := wB a y cap clr (nI t) hom mov wm tb tf ts (nI nw) wf wt (nI nb) bw bl bi bb (nI no) od ow ol ork ob olf oco pn pb pm pcd pw pli ++ oL y o1 v0) (wb := oD y o2 d0) (As := [Value.ref (a 0), Value.int (xs (5 * kq + 1)), Value.ref o1]) (rest := []) hx hb hml hown hta zw_state wd_23_21 (c_L_state l hlt D y a cap clr t hom mov wm tb tf ts nw wf wt nb bw bl bi bb no od ow ol ork ob olf oco pn pb pm pcd pw pli (xs (5 * kq + 1)) hb8 o1 v0) hH hN hK hP hD hS hA rfl hl rfl (Nat.le_of_ble_eq_true rfl) ⟨Nat.le_of_ble_eq_true rfl, Nat.le_of_ble_eq_true rfl⟩ ⟨by show cells + 1 ≤ 3144; omega, by show slots + 6 ≤ 125590; omega⟩ dL_law_1396 (fun v w' H locs hq hP hD hS => ?_)
  rcases hq with ⟨hc1, v1, hv1, rfl, rfl⟩ | ⟨hc1, rfl, rfl⟩
  · refine lv_istore (lv' := [(6, Value.int 0), (0, Value.ref b), (1, Value.ref (a 0)), (2, Value.ref (a' 0)), (3, Value.ref o1), (4, Value.ref o2), (5, Value.int (nI (5 * kq)))]) hx hb dL_law_1399 hl (by decide) rfl (fun ls hl => ?_)
    refine lv_aload_n hx hb dL_law_1401 rfl (lv_at hl 3 rfl) ?_
    refine z_arg (i := 1) C0 (by omega) hL hS (lv_at hl 1 rfl) (lv_at hl 6 rfl) (by decide) dL_law_1402 dL_law_1403 dL_law_1405 dL_law_1406 dL_law_1407 ?_
    refine z_callVF (wa := []) (w1 := wM a' y mth (nI t) tb tf ts cap clr mov hom wm (nI nw) wf wt (nI nb) fr bw bl (nI no) od ow ol ork olf oco at_ aw mp mpl msh msl mwa mse) (wb := (wB a y cap clr (nI t) hom mov wm tb tf ts (nI nw) wf wt (nI nb) bw bl bi bb (nI no) od ow ol ork ob olf oco pn pb pm pcd pw pli ++ oL y o1 v1) ++ oD y o2 d0) (As := [Value.int (xs (5 * kq + 1))]) (rest := []) hx hb hml hown hta zm_X6_state wd_24_4 (c_X6_state l D y a' mth t tb tf ts cap clr mov hom wm nw wf wt nb fr bw bl no od ow ol ork olf oco at_ aw mp mpl msh msl mwa mse (xs (5 * kq + 1)) hb8) hN hK hP hD hS hA 0 rfl rfl rfl hl rfl (Nat.le_of_ble_eq_true rfl) ⟨Nat.le_of_ble_eq_true rfl, Nat.le_of_ble_eq_true rfl⟩ ⟨by show cells + 1 + 0 ≤ 3144; omega, by show slots + 6 + 0 ≤ 125590; omega⟩ dL_law_1408 (fun v w' H locs hq hP hD hS => ?_)
    rcases hq with ⟨hm, rfl, rfl⟩ | ⟨hm, r9, rfl, rfl⟩
    · have hP := z_nil hP
      have hD := z_nilD hD
      obtain ⟨bv, hbv⟩ : ∃ z : Int32, z = stM aw at_ (nN (xs (5 * kq + 1))) := ⟨_, rfl⟩
      refine zr_top (y := bv) hbv.symm ?_
      refine lv_istore (lv' := [(7, Value.int bv), (6, Value.int 0), (0, Value.ref b), (1, Value.ref (a 0)), (2, Value.ref (a' 0)), (3, Value.ref o1), (4, Value.ref o2), (5, Value.int (nI (5 * kq)))]) hx hb dL_law_1411 hl (by decide) rfl (fun ls hl => ?_)
      refine z_tail (P := 1413) C0 (c_X6_thrown l D y a' (0 : Int32) t tb tf ts cap clr mov hom wm nw wf wt nb fr bw bl no od ow ol ork olf oco at_ aw mp mpl msh msl mwa mse) rfl hP hD hS hl (lv_at hl 4 rfl) (lv_at hl 1 rfl) (lv_at hl 5 rfl) (lv_at hl 0 rfl) (rfl) (fun _ => hv1.trans (congrArg Int32.toInt64 ((st_M hR hc1).trans hbv.symm))) ⟨by show cells + 1 + 0 ≤ 3144; omega, by show slots + 6 + 0 ≤ 125590; omega⟩ dL_law_1413 dL_law_1414 dL_law_1417 dL_law_1419 dL_law_1424 dL_law_1426 dL_law_1429 dL_law_1430 dL_law_1431 dL_law_1432 dL_law_1434 dL_law_1435 dL_law_1436 dL_law_1441 (by decide) (fun H locs hP hD hS => ?_)
      refine W.widen (k := cells + 3) (n := slots + 18) (by omega) (by omega) ?_
      exact kk cap clr t hom mov wm tb tf ts nw wf wt nb bw bl bi bb no od ow ol ork ob olf oco pn pb pm pcd pw pli (0 : Int32) fr at_ aw mp mpl msh msl mwa mse _ _ _ _ _ (hR) hP hD hS (lv_sub hl [2, 3, 4, 5, 6, 7] rfl)
    · exact absurd (hc1) hm
  · refine lv_istore (lv' := [(6, Value.int (nI (boC no (xs (5 * kq + 1))))), (0, Value.ref b), (1, Value.ref (a 0)), (2, Value.ref (a' 0)), (3, Value.ref o1), (4, Value.ref o2), (5, Value.int (nI (5 * kq)))]) hx hb dL_law_1399 hl (by decide) rfl (fun ls hl => ?_)
    refine lv_aload_n hx hb dL_law_1401 rfl (lv_at hl 3 rfl) ?_
    refine z_arg (i := 1) C0 (by omega) hL hS (lv_at hl 1 rfl) (lv_at hl 6 rfl) (by decide) dL_law_1402 dL_law_1403 dL_law_1405 dL_law_1406 dL_law_1407 ?_
    refine z_callVF (wa := []) (w1 := wM a' y mth (nI t) tb tf ts cap clr mov hom wm (nI nw) wf wt (nI nb) fr bw bl (nI no) od ow ol ork olf oco at_ aw mp mpl msh msl mwa mse) (wb := (wB a y cap clr (nI t) hom mov wm tb tf ts (nI nw) wf wt (nI nb) bw bl bi bb (nI no) od ow ol ork ob olf oco pn pb pm pcd pw pli ++ oL y o1 v0) ++ oD y o2 d0) (As := [Value.int (xs (5 * kq + 1))]) (rest := []) hx hb hml hown hta zm_X6_state wd_24_4 (c_X6_state l D y a' mth t tb tf ts cap clr mov hom wm nw wf wt nb fr bw bl no od ow ol ork olf oco at_ aw mp mpl msh msl mwa mse (xs (5 * kq + 1)) hb8) hN hK hP hD hS hA 0 rfl rfl rfl hl rfl (Nat.le_of_ble_eq_true rfl) ⟨Nat.le_of_ble_eq_true rfl, Nat.le_of_ble_eq_true rfl⟩ ⟨by show cells + 1 + 0 ≤ 3144; omega, by show slots + 6 + 0 ≤ 125590; omega⟩ dL_law_1408 (fun v w' H locs hq hP hD hS => ?_)
    rcases hq with ⟨hm, rfl, rfl⟩ | ⟨hm, r9, rfl, rfl⟩
    · exact absurd (hm) hc1
    · have hP := z_nil hP
      have hD := z_nilD hD
      refine lv_istore (lv' := [(7, Value.int r9), (6, Value.int (nI (boC no (xs (5 * kq + 1))))), (0, Value.ref b), (1, Value.ref (a 0)), (2, Value.ref (a' 0)), (3, Value.ref o1), (4, Value.ref o2), (5, Value.int (nI (5 * kq)))]) hx hb dL_law_1411 hl (by decide) rfl (fun ls hl => ?_)
      refine z_tail (P := 1413) C0 (c_X6_thrown l D y a' (nI (boC no (xs (5 * kq + 1)))) t tb tf ts cap clr mov hom wm nw wf wt nb fr bw bl no od ow ol ork olf oco at_ aw mp mpl msh msl mwa mse) rfl hP hD hS hl (lv_at hl 4 rfl) (lv_at hl 1 rfl) (lv_at hl 5 rfl) (lv_at hl 0 rfl) (rfl) (fun z => absurd z (nI_n0 hc1 c4_boC)) ⟨by show cells + 1 + 0 ≤ 3144; omega, by show slots + 6 + 0 ≤ 125590; omega⟩ dL_law_1413 dL_law_1414 dL_law_1417 dL_law_1419 dL_law_1424 dL_law_1426 dL_law_1429 dL_law_1430 dL_law_1431 dL_law_1432 dL_law_1434 dL_law_1435 dL_law_1436 dL_law_1441 (by decide) (fun H locs hP hD hS => ?_)
      refine W.widen (k := cells + 3) (n := slots + 18) (by omega) (by omega) ?_
      exact kk cap clr t hom mov wm tb tf ts nw wf wt nb bw bl bi bb no od ow ol ork ob olf oco pn pb pm pcd pw pli (nI (boC no (xs (5 * kq + 1)))) fr at_ aw mp mpl msh msl mwa mse _ _ _ _ _ (hR) hP hD hS (lv_sub hl [2, 3, 4, 5, 6, 7] rfl)
set_option maxHeartbeats 1600000 in
set_option maxRecDepth 100000 in
theorem lc_20 {p : Program} {l : Launch} {e : Env} {s : State} {m : MethodId} {below : List Frame} {meth : Method} {c : Code} {D : va_G} {y : Nat → ClassId} {b L : Nat} {xs : Nat → Int32} {a a' : Nat → Nat} {o1 o2 kq cells slots : Nat} {G : State → Prop} (hlt : l.stackTraces = false) (C0 : LC p s m meth c b L xs D y) (hk : 5 * kq + 5 ≤ L) (hL : L ≤ 2560) (hc : cells + 3 ≤ 3144 ∧ slots + 18 ≤ 125590) (kk : LawK p l e s m below meth c D y b a a' o1 o2 kq (cells + 3) (slots + 18) 2118 G) : LawK p l e s m below meth c D y b a a' o1 o2 kq cells slots 1444 G := by
  intro cap clr t hom mov wm tb tf ts nw wf wt nb bw bl bi bb no od ow ol ork ob olf oco pn pb pm pcd pw pli mth fr at_ aw mp mpl msh msl mwa mse v0 d0 H locs ls hR hP hD hS hl
  have C1 := C0
  obtain ⟨hx, hb, hr, hml, hown, hta, hX, hbl, hlocks, hN, hH, hK⟩ := C1
  have hA : ∀ q, s.heap.size ≤ q → lwA s q := fun _ h => h
  have hb8 := hR.1.2.2.2
  have hb6 := hR.1.2.2.1
  have hw := hR.1.2.1
  have ht := hR.1.1
  have hsp := hR.2.1
  have hol := hR.2.2.1
  have hfr := fr_hfr (rel_fr hR)
  have hat := (rel_va hR).1
  refine lv_aload_n hx hb dL_law_1444 rfl (lv_at hl 1 rfl) ?_
  refine z_arg (i := 1) C0 (by omega) hL hS (lv_at hl 0 rfl) (lv_at hl 5 rfl) (by decide) dL_law_1445 dL_law_1446 dL_law_1448 dL_law_1449 dL_law_1450 ?_
  refine lv_aload_n hx hb dL_law_1451 rfl (lv_at hl 3 rfl) ?_
  refine z_callWr (wa := wM a' y mth (nI t) tb tf ts cap clr mov hom wm (nI nw) wf wt (nI nb) fr bw bl (nI no) od ow ol ork olf oco at_ aw mp mpl msh msl mwa mse) (w1 := wB a y cap clr (nI t) hom mov wm tb tf ts (nI nw) wf wt (nI nb) bw bl bi bb (nI no) od ow ol ork ob olf oco pn pb pm pcd pw pli ++ oL y o1 v0) (wb := oD y o2 d0) (As := [Value.ref (a 0), Value.int (xs (5 * kq + 1)), Value.ref o1]) (rest := []) hx hb hml hown hta zw_berthOf wd_24_8 (c_L_berthOf l hlt D y a cap clr t hom mov wm tb tf ts nw wf wt nb bw bl bi bb no od ow ol ork ob olf oco pn pb pm pcd pw pli (xs (5 * kq + 1)) hb8 hb6 o1 v0) hH hN hK hP hD hS hA rfl hl rfl (Nat.le_of_ble_eq_true rfl) ⟨Nat.le_of_ble_eq_true rfl, Nat.le_of_ble_eq_true rfl⟩ ⟨by show cells + 2 ≤ 3144; omega, by show slots + 12 ≤ 125590; omega⟩ dL_law_1452 (fun v w' H locs hq hP hD hS => ?_)
  rcases hq with ⟨hc1, v1, hv1, rfl, rfl⟩ | ⟨hc1, rfl, rfl⟩
  · refine lv_istore (lv' := [(6, Value.int 0), (0, Value.ref b), (1, Value.ref (a 0)), (2, Value.ref (a' 0)), (3, Value.ref o1), (4, Value.ref o2), (5, Value.int (nI (5 * kq)))]) hx hb dL_law_1455 hl (by decide) rfl (fun ls hl => ?_)
    refine lv_aload_n hx hb dL_law_1457 rfl (lv_at hl 3 rfl) ?_
    refine z_arg (i := 1) C0 (by omega) hL hS (lv_at hl 1 rfl) (lv_at hl 6 rfl) (by decide) dL_law_1458 dL_law_1459 dL_law_1461 dL_law_1462 dL_law_1463 ?_
    refine z_callVF (wa := []) (w1 := wM a' y mth (nI t) tb tf ts cap clr mov hom wm (nI nw) wf wt (nI nb) fr bw bl (nI no) od ow ol ork olf oco at_ aw mp mpl msh msl mwa mse) (wb := (wB a y cap clr (nI t) hom mov wm tb tf ts (nI nw) wf wt (nI nb) bw bl bi bb (nI no) od ow ol ork ob olf oco pn pb pm pcd pw pli ++ oL y o1 v1) ++ oD y o2 d0) (As := [Value.int (xs (5 * kq + 1))]) (rest := []) hx hb hml hown hta zm_X6_berthOf wd_24_15 (c_X6_berthOf l D y a' mth t tb tf ts cap clr mov hom wm nw wf wt nb fr bw bl no od ow ol ork olf oco at_ aw mp mpl msh msl mwa mse (xs (5 * kq + 1)) hb8) hN hK hP hD hS hA 0 rfl rfl rfl hl rfl (Nat.le_of_ble_eq_true rfl) ⟨Nat.le_of_ble_eq_true rfl, Nat.le_of_ble_eq_true rfl⟩ ⟨by show cells + 2 + 0 ≤ 3144; omega, by show slots + 12 + 0 ≤ 125590; omega⟩ dL_law_1464 (fun v w' H locs hq hP hD hS => ?_)
    rcases hq with ⟨hm, rfl, rfl⟩ | ⟨hm, r9, rfl, rfl⟩
    · have hP := z_nil hP
      have hD := z_nilD hD
      obtain ⟨bv, hbv⟩ : ∃ z : Int32, z = at_ (nN (xs (5 * kq + 1))) := ⟨_, rfl⟩
      refine zr_top (y := bv) hbv.symm ?_
      refine lv_istore (lv' := [(7, Value.int bv), (6, Value.int 0), (0, Value.ref b), (1, Value.ref (a 0)), (2, Value.ref (a' 0)), (3, Value.ref o1), (4, Value.ref o2), (5, Value.int (nI (5 * kq)))]) hx hb dL_law_1467 hl (by decide) rfl (fun ls hl => ?_)
      refine z_tail (P := 1469) C0 (c_X6_thrown l D y a' (0 : Int32) t tb tf ts cap clr mov hom wm nw wf wt nb fr bw bl no od ow ol ork olf oco at_ aw mp mpl msh msl mwa mse) rfl hP hD hS hl (lv_at hl 4 rfl) (lv_at hl 1 rfl) (lv_at hl 5 rfl) (lv_at hl 0 rfl) (rfl) (fun _ => hv1.trans (congrArg Int32.toInt64 ((be_V hR hm).trans hbv.symm))) ⟨by show cells + 2 + 0 ≤ 3144; omega, by show slots + 12 + 0 ≤ 125590; omega⟩ dL_law_1469 dL_law_1470 dL_law_1473 dL_law_1475 dL_law_1480 dL_law_1482 dL_law_1485 dL_law_1486 dL_law_1487 dL_law_1488 dL_law_1490 dL_law_1491 dL_law_1492 dL_law_1497 (by decide) (fun H locs hP hD hS => ?_)
      refine W.widen (k := cells + 3) (n := slots + 18) (by omega) (by omega) ?_
      exact kk cap clr t hom mov wm tb tf ts nw wf wt nb bw bl bi bb no od ow ol ork ob olf oco pn pb pm pcd pw pli (0 : Int32) fr at_ aw mp mpl msh msl mwa mse _ _ _ _ _ (hR) hP hD hS (lv_sub hl [2, 3, 4, 5, 6, 7] rfl)
    · exact absurd ((be_M hR _).symm.trans hc1) hm
  · refine lv_istore (lv' := [(6, Value.int (nI (beC no nb ob (xs (5 * kq + 1))))), (0, Value.ref b), (1, Value.ref (a 0)), (2, Value.ref (a' 0)), (3, Value.ref o1), (4, Value.ref o2), (5, Value.int (nI (5 * kq)))]) hx hb dL_law_1455 hl (by decide) rfl (fun ls hl => ?_)
    refine lv_aload_n hx hb dL_law_1457 rfl (lv_at hl 3 rfl) ?_
    refine z_arg (i := 1) C0 (by omega) hL hS (lv_at hl 1 rfl) (lv_at hl 6 rfl) (by decide) dL_law_1458 dL_law_1459 dL_law_1461 dL_law_1462 dL_law_1463 ?_
    refine z_callVF (wa := []) (w1 := wM a' y mth (nI t) tb tf ts cap clr mov hom wm (nI nw) wf wt (nI nb) fr bw bl (nI no) od ow ol ork olf oco at_ aw mp mpl msh msl mwa mse) (wb := (wB a y cap clr (nI t) hom mov wm tb tf ts (nI nw) wf wt (nI nb) bw bl bi bb (nI no) od ow ol ork ob olf oco pn pb pm pcd pw pli ++ oL y o1 v0) ++ oD y o2 d0) (As := [Value.int (xs (5 * kq + 1))]) (rest := []) hx hb hml hown hta zm_X6_berthOf wd_24_15 (c_X6_berthOf l D y a' mth t tb tf ts cap clr mov hom wm nw wf wt nb fr bw bl no od ow ol ork olf oco at_ aw mp mpl msh msl mwa mse (xs (5 * kq + 1)) hb8) hN hK hP hD hS hA 0 rfl rfl rfl hl rfl (Nat.le_of_ble_eq_true rfl) ⟨Nat.le_of_ble_eq_true rfl, Nat.le_of_ble_eq_true rfl⟩ ⟨by show cells + 2 + 0 ≤ 3144; omega, by show slots + 12 + 0 ≤ 125590; omega⟩ dL_law_1464 (fun v w' H locs hq hP hD hS => ?_)
    rcases hq with ⟨hm, rfl, rfl⟩ | ⟨hm, r9, rfl, rfl⟩
    · exact absurd ((be_M hR _).trans hm) hc1
    · have hP := z_nil hP
      have hD := z_nilD hD
      refine lv_istore (lv' := [(7, Value.int r9), (6, Value.int (nI (beC no nb ob (xs (5 * kq + 1))))), (0, Value.ref b), (1, Value.ref (a 0)), (2, Value.ref (a' 0)), (3, Value.ref o1), (4, Value.ref o2), (5, Value.int (nI (5 * kq)))]) hx hb dL_law_1467 hl (by decide) rfl (fun ls hl => ?_)
      refine z_tail (P := 1469) C0 (c_X6_thrown l D y a' (nI (beM no at_ (xs (5 * kq + 1)))) t tb tf ts cap clr mov hom wm nw wf wt nb fr bw bl no od ow ol ork olf oco at_ aw mp mpl msh msl mwa mse) rfl hP hD hS hl (lv_at hl 4 rfl) (lv_at hl 1 rfl) (lv_at hl 5 rfl) (lv_at hl 0 rfl) (congrArg nI (be_M hR _).symm) (fun z => absurd z (nI_n0 hc1 c4_beC)) ⟨by show cells + 2 + 0 ≤ 3144; omega, by show slots + 12 + 0 ≤ 125590; omega⟩ dL_law_1469 dL_law_1470 dL_law_1473 dL_law_1475 dL_law_1480 dL_law_1482 dL_law_1485 dL_law_1486 dL_law_1487 dL_law_1488 dL_law_1490 dL_law_1491 dL_law_1492 dL_law_1497 (by decide) (fun H locs hP hD hS => ?_)
      refine W.widen (k := cells + 3) (n := slots + 18) (by omega) (by omega) ?_
      exact kk cap clr t hom mov wm tb tf ts nw wf wt nb bw bl bi bb no od ow ol ork ob olf oco pn pb pm pcd pw pli (nI (beM no at_ (xs (5 * kq + 1)))) fr at_ aw mp mpl msh msl mwa mse _ _ _ _ _ (hR) hP hD hS (lv_sub hl [2, 3, 4, 5, 6, 7] rfl)
set_option maxHeartbeats 1600000 in
set_option maxRecDepth 100000 in
theorem lc_21 {p : Program} {l : Launch} {e : Env} {s : State} {m : MethodId} {below : List Frame} {meth : Method} {c : Code} {D : va_G} {y : Nat → ClassId} {b L : Nat} {xs : Nat → Int32} {a a' : Nat → Nat} {o1 o2 kq cells slots : Nat} {G : State → Prop} (hlt : l.stackTraces = false) (C0 : LC p s m meth c b L xs D y) (hk : 5 * kq + 5 ≤ L) (hL : L ≤ 2560) (hc : cells + 3 ≤ 3144 ∧ slots + 18 ≤ 125590) (kk : LawK p l e s m below meth c D y b a a' o1 o2 kq (cells + 3) (slots + 18) 2118 G) : LawK p l e s m below meth c D y b a a' o1 o2 kq cells slots 1500 G := by
  intro cap clr t hom mov wm tb tf ts nw wf wt nb bw bl bi bb no od ow ol ork ob olf oco pn pb pm pcd pw pli mth fr at_ aw mp mpl msh msl mwa mse v0 d0 H locs ls hR hP hD hS hl
  have C1 := C0
  obtain ⟨hx, hb, hr, hml, hown, hta, hX, hbl, hlocks, hN, hH, hK⟩ := C1
  have hA : ∀ q, s.heap.size ≤ q → lwA s q := fun _ h => h
  have hb8 := hR.1.2.2.2
  have hb6 := hR.1.2.2.1
  have hw := hR.1.2.1
  have ht := hR.1.1
  have hsp := hR.2.1
  have hol := hR.2.2.1
  have hfr := fr_hfr (rel_fr hR)
  have hat := (rel_va hR).1
  refine lv_aload_n hx hb dL_law_1500 rfl (lv_at hl 1 rfl) ?_
  refine z_arg (i := 1) C0 (by omega) hL hS (lv_at hl 0 rfl) (lv_at hl 5 rfl) (by decide) dL_law_1501 dL_law_1502 dL_law_1504 dL_law_1505 dL_law_1506 ?_
  refine lv_aload_n hx hb dL_law_1507 rfl (lv_at hl 3 rfl) ?_
  refine z_callWr (wa := wM a' y mth (nI t) tb tf ts cap clr mov hom wm (nI nw) wf wt (nI nb) fr bw bl (nI no) od ow ol ork olf oco at_ aw mp mpl msh msl mwa mse) (w1 := wB a y cap clr (nI t) hom mov wm tb tf ts (nI nw) wf wt (nI nb) bw bl bi bb (nI no) od ow ol ork ob olf oco pn pb pm pcd pw pli ++ oL y o1 v0) (wb := oD y o2 d0) (As := [Value.ref (a 0), Value.int (xs (5 * kq + 1)), Value.ref o1]) (rest := []) hx hb hml hown hta zw_boatIn wd_24_19 (c_L_boatIn l hlt D y a cap clr t hom mov wm tb tf ts nw wf wt nb bw bl bi bb no od ow ol ork ob olf oco pn pb pm pcd pw pli (xs (5 * kq + 1)) hb6 o1 v0) hH hN hK hP hD hS hA rfl hl rfl (Nat.le_of_ble_eq_true rfl) ⟨Nat.le_of_ble_eq_true rfl, Nat.le_of_ble_eq_true rfl⟩ ⟨by show cells + 2 ≤ 3144; omega, by show slots + 12 ≤ 125590; omega⟩ dL_law_1508 (fun v w' H locs hq hP hD hS => ?_)
  rcases hq with ⟨hc1, v1, hv1, rfl, rfl⟩ | ⟨hc1, rfl, rfl⟩
  · refine lv_istore (lv' := [(6, Value.int 0), (0, Value.ref b), (1, Value.ref (a 0)), (2, Value.ref (a' 0)), (3, Value.ref o1), (4, Value.ref o2), (5, Value.int (nI (5 * kq)))]) hx hb dL_law_1511 hl (by decide) rfl (fun ls hl => ?_)
    refine lv_aload_n hx hb dL_law_1513 rfl (lv_at hl 3 rfl) ?_
    refine z_arg (i := 1) C0 (by omega) hL hS (lv_at hl 1 rfl) (lv_at hl 6 rfl) (by decide) dL_law_1514 dL_law_1515 dL_law_1517 dL_law_1518 dL_law_1519 ?_
    refine z_callVF (wa := []) (w1 := wM a' y mth (nI t) tb tf ts cap clr mov hom wm (nI nw) wf wt (nI nb) fr bw bl (nI no) od ow ol ork olf oco at_ aw mp mpl msh msl mwa mse) (wb := (wB a y cap clr (nI t) hom mov wm tb tf ts (nI nw) wf wt (nI nb) bw bl bi bb (nI no) od ow ol ork ob olf oco pn pb pm pcd pw pli ++ oL y o1 v1) ++ oD y o2 d0) (As := [Value.int (xs (5 * kq + 1))]) (rest := []) hx hb hml hown hta zm_X6_boatIn wd_25_2 (c_X6_boatIn l D y a' mth t tb tf ts cap clr mov hom wm nw wf wt nb fr bw bl no od ow ol ork olf oco at_ aw mp mpl msh msl mwa mse (xs (5 * kq + 1)) hb6 hb8) hN hK hP hD hS hA 0 rfl rfl rfl hl rfl (Nat.le_of_ble_eq_true rfl) ⟨Nat.le_of_ble_eq_true rfl, Nat.le_of_ble_eq_true rfl⟩ ⟨by show cells + 2 + 0 ≤ 3144; omega, by show slots + 12 + 0 ≤ 125590; omega⟩ dL_law_1520 (fun v w' H locs hq hP hD hS => ?_)
    rcases hq with ⟨hm, rfl, rfl⟩ | ⟨hm, r9, rfl, rfl⟩
    · have hP := z_nil hP
      have hD := z_nilD hD
      obtain ⟨bv, hbv⟩ : ∃ z : Int32, z = fI (baM at_ (xs (5 * kq + 1)) no) := ⟨_, rfl⟩
      refine zr_top (y := bv) hbv.symm ?_
      refine lv_istore (lv' := [(7, Value.int bv), (6, Value.int 0), (0, Value.ref b), (1, Value.ref (a 0)), (2, Value.ref (a' 0)), (3, Value.ref o1), (4, Value.ref o2), (5, Value.int (nI (5 * kq)))]) hx hb dL_law_1523 hl (by decide) rfl (fun ls hl => ?_)
      refine z_tail (P := 1525) C0 (c_X6_thrown l D y a' (0 : Int32) t tb tf ts cap clr mov hom wm nw wf wt nb fr bw bl no od ow ol ork olf oco at_ aw mp mpl msh msl mwa mse) rfl hP hD hS hl (lv_at hl 4 rfl) (lv_at hl 1 rfl) (lv_at hl 5 rfl) (lv_at hl 0 rfl) (rfl) (fun _ => hv1.trans (congrArg Int32.toInt64 ((bn_V hR hm).trans hbv.symm))) ⟨by show cells + 2 + 0 ≤ 3144; omega, by show slots + 12 + 0 ≤ 125590; omega⟩ dL_law_1525 dL_law_1526 dL_law_1529 dL_law_1531 dL_law_1536 dL_law_1538 dL_law_1541 dL_law_1542 dL_law_1543 dL_law_1544 dL_law_1546 dL_law_1547 dL_law_1548 dL_law_1553 (by decide) (fun H locs hP hD hS => ?_)
      refine W.widen (k := cells + 3) (n := slots + 18) (by omega) (by omega) ?_
      exact kk cap clr t hom mov wm tb tf ts nw wf wt nb bw bl bi bb no od ow ol ork ob olf oco pn pb pm pcd pw pli (0 : Int32) fr at_ aw mp mpl msh msl mwa mse _ _ _ _ _ (hR) hP hD hS (lv_sub hl [2, 3, 4, 5, 6, 7] rfl)
    · exact absurd ((bn_M hR _).symm.trans hc1) hm
  · refine lv_istore (lv' := [(6, Value.int (nI (bnC nb bb (xs (5 * kq + 1))))), (0, Value.ref b), (1, Value.ref (a 0)), (2, Value.ref (a' 0)), (3, Value.ref o1), (4, Value.ref o2), (5, Value.int (nI (5 * kq)))]) hx hb dL_law_1511 hl (by decide) rfl (fun ls hl => ?_)
    refine lv_aload_n hx hb dL_law_1513 rfl (lv_at hl 3 rfl) ?_
    refine z_arg (i := 1) C0 (by omega) hL hS (lv_at hl 1 rfl) (lv_at hl 6 rfl) (by decide) dL_law_1514 dL_law_1515 dL_law_1517 dL_law_1518 dL_law_1519 ?_
    refine z_callVF (wa := []) (w1 := wM a' y mth (nI t) tb tf ts cap clr mov hom wm (nI nw) wf wt (nI nb) fr bw bl (nI no) od ow ol ork olf oco at_ aw mp mpl msh msl mwa mse) (wb := (wB a y cap clr (nI t) hom mov wm tb tf ts (nI nw) wf wt (nI nb) bw bl bi bb (nI no) od ow ol ork ob olf oco pn pb pm pcd pw pli ++ oL y o1 v0) ++ oD y o2 d0) (As := [Value.int (xs (5 * kq + 1))]) (rest := []) hx hb hml hown hta zm_X6_boatIn wd_25_2 (c_X6_boatIn l D y a' mth t tb tf ts cap clr mov hom wm nw wf wt nb fr bw bl no od ow ol ork olf oco at_ aw mp mpl msh msl mwa mse (xs (5 * kq + 1)) hb6 hb8) hN hK hP hD hS hA 0 rfl rfl rfl hl rfl (Nat.le_of_ble_eq_true rfl) ⟨Nat.le_of_ble_eq_true rfl, Nat.le_of_ble_eq_true rfl⟩ ⟨by show cells + 2 + 0 ≤ 3144; omega, by show slots + 12 + 0 ≤ 125590; omega⟩ dL_law_1520 (fun v w' H locs hq hP hD hS => ?_)
    rcases hq with ⟨hm, rfl, rfl⟩ | ⟨hm, r9, rfl, rfl⟩
    · exact absurd ((bn_M hR _).trans hm) hc1
    · have hP := z_nil hP
      have hD := z_nilD hD
      refine lv_istore (lv' := [(7, Value.int r9), (6, Value.int (nI (bnC nb bb (xs (5 * kq + 1))))), (0, Value.ref b), (1, Value.ref (a 0)), (2, Value.ref (a' 0)), (3, Value.ref o1), (4, Value.ref o2), (5, Value.int (nI (5 * kq)))]) hx hb dL_law_1523 hl (by decide) rfl (fun ls hl => ?_)
      refine z_tail (P := 1525) C0 (c_X6_thrown l D y a' (nI (bnM nb no at_ (xs (5 * kq + 1)))) t tb tf ts cap clr mov hom wm nw wf wt nb fr bw bl no od ow ol ork olf oco at_ aw mp mpl msh msl mwa mse) rfl hP hD hS hl (lv_at hl 4 rfl) (lv_at hl 1 rfl) (lv_at hl 5 rfl) (lv_at hl 0 rfl) (congrArg nI (bn_M hR _).symm) (fun z => absurd z (nI_n0 hc1 c4_bnC)) ⟨by show cells + 2 + 0 ≤ 3144; omega, by show slots + 12 + 0 ≤ 125590; omega⟩ dL_law_1525 dL_law_1526 dL_law_1529 dL_law_1531 dL_law_1536 dL_law_1538 dL_law_1541 dL_law_1542 dL_law_1543 dL_law_1544 dL_law_1546 dL_law_1547 dL_law_1548 dL_law_1553 (by decide) (fun H locs hP hD hS => ?_)
      refine W.widen (k := cells + 3) (n := slots + 18) (by omega) (by omega) ?_
      exact kk cap clr t hom mov wm tb tf ts nw wf wt nb bw bl bi bb no od ow ol ork ob olf oco pn pb pm pcd pw pli (nI (bnM nb no at_ (xs (5 * kq + 1)))) fr at_ aw mp mpl msh msl mwa mse _ _ _ _ _ (hR) hP hD hS (lv_sub hl [2, 3, 4, 5, 6, 7] rfl)
set_option maxHeartbeats 1600000 in
set_option maxRecDepth 100000 in
theorem lc_22 {p : Program} {l : Launch} {e : Env} {s : State} {m : MethodId} {below : List Frame} {meth : Method} {c : Code} {D : va_G} {y : Nat → ClassId} {b L : Nat} {xs : Nat → Int32} {a a' : Nat → Nat} {o1 o2 kq cells slots : Nat} {G : State → Prop} (hlt : l.stackTraces = false) (C0 : LC p s m meth c b L xs D y) (hk : 5 * kq + 5 ≤ L) (hL : L ≤ 2560) (hc : cells + 3 ≤ 3144 ∧ slots + 18 ≤ 125590) (kk : LawK p l e s m below meth c D y b a a' o1 o2 kq (cells + 3) (slots + 18) 2118 G) : LawK p l e s m below meth c D y b a a' o1 o2 kq cells slots 1556 G := by
  intro cap clr t hom mov wm tb tf ts nw wf wt nb bw bl bi bb no od ow ol ork ob olf oco pn pb pm pcd pw pli mth fr at_ aw mp mpl msh msl mwa mse v0 d0 H locs ls hR hP hD hS hl
  have C1 := C0
  obtain ⟨hx, hb, hr, hml, hown, hta, hX, hbl, hlocks, hN, hH, hK⟩ := C1
  have hA : ∀ q, s.heap.size ≤ q → lwA s q := fun _ h => h
  have hb8 := hR.1.2.2.2
  have hb6 := hR.1.2.2.1
  have hw := hR.1.2.1
  have ht := hR.1.1
  have hsp := hR.2.1
  have hol := hR.2.2.1
  have hfr := fr_hfr (rel_fr hR)
  have hat := (rel_va hR).1
  refine lv_aload_n hx hb dL_law_1556 rfl (lv_at hl 1 rfl) ?_
  refine z_arg (i := 1) C0 (by omega) hL hS (lv_at hl 0 rfl) (lv_at hl 5 rfl) (by decide) dL_law_1557 dL_law_1558 dL_law_1560 dL_law_1561 dL_law_1562 ?_
  refine z_arg (i := 2) C0 (by omega) hL hS (lv_at hl 0 rfl) (lv_at hl 5 rfl) (by decide) dL_law_1563 dL_law_1564 dL_law_1566 dL_law_1567 dL_law_1568 ?_
  refine lv_aload_n hx hb dL_law_1569 rfl (lv_at hl 3 rfl) ?_
  refine z_callWr (wa := wM a' y mth (nI t) tb tf ts cap clr mov hom wm (nI nw) wf wt (nI nb) fr bw bl (nI no) od ow ol ork olf oco at_ aw mp mpl msh msl mwa mse) (w1 := wB a y cap clr (nI t) hom mov wm tb tf ts (nI nw) wf wt (nI nb) bw bl bi bb (nI no) od ow ol ork ob olf oco pn pb pm pcd pw pli ++ oL y o1 v0) (wb := oD y o2 d0) (As := [Value.ref (a 0), Value.int (xs (5 * kq + 1)), Value.int (xs (5 * kq + 2)), Value.ref o1]) (rest := []) hx hb hml hown hta zw_paint wd_25_6 (c_L_paint l hlt D y a cap clr t hom mov wm tb tf ts nw wf wt nb bw bl bi bb no od ow ol ork ob olf oco pn pb pm pcd pw pli (xs (5 * kq + 1)) (xs (5 * kq + 2)) hb8 hb6 hw o1 v0) hH hN hK hP hD hS hA rfl hl rfl (Nat.le_of_ble_eq_true rfl) ⟨Nat.le_of_ble_eq_true rfl, Nat.le_of_ble_eq_true rfl⟩ ⟨by show cells + 2 ≤ 3144; omega, by show slots + 12 ≤ 125590; omega⟩ dL_law_1570 (fun v w' H locs hq hP hD hS => ?_)
  rcases hq with ⟨hc1, v1, hv1, rfl, rfl⟩ | ⟨hc1, rfl, rfl⟩
  · refine lv_istore (lv' := [(6, Value.int 0), (0, Value.ref b), (1, Value.ref (a 0)), (2, Value.ref (a' 0)), (3, Value.ref o1), (4, Value.ref o2), (5, Value.int (nI (5 * kq)))]) hx hb dL_law_1573 hl (by decide) rfl (fun ls hl => ?_)
    refine lv_aload_n hx hb dL_law_1575 rfl (lv_at hl 3 rfl) ?_
    refine z_arg (i := 1) C0 (by omega) hL hS (lv_at hl 1 rfl) (lv_at hl 6 rfl) (by decide) dL_law_1576 dL_law_1577 dL_law_1579 dL_law_1580 dL_law_1581 ?_
    refine z_arg (i := 2) C0 (by omega) hL hS (lv_at hl 1 rfl) (lv_at hl 6 rfl) (by decide) dL_law_1582 dL_law_1583 dL_law_1585 dL_law_1586 dL_law_1587 ?_
    refine z_callVF (wa := []) (w1 := wM a' y mth (nI t) tb tf ts cap clr mov hom wm (nI nw) wf wt (nI nb) fr bw bl (nI no) od ow ol ork olf oco at_ aw mp mpl msh msl mwa mse) (wb := (wB a y cap clr (nI t) hom mov wm tb tf ts (nI nw) wf wt (nI nb) bw bl bi bb (nI no) od ow ol ork ob (upd olf (nN (xs (5 * kq + 1))) (xs (5 * kq + 2))) (upd oco (nN (xs (5 * kq + 1))) (oco (nN (xs (5 * kq + 1))) + (1 : Int32))) pn pb pm pcd pw pli ++ oL y o1 v1) ++ oD y o2 d0) (As := [Value.int (xs (5 * kq + 1)), Value.int (xs (5 * kq + 2))]) (rest := []) hx hb hml hown hta zm_X6_paint wd_25_14 (c_X6_paint l D y a' mth t tb tf ts cap clr mov hom wm nw wf wt nb fr bw bl no od ow ol ork olf oco at_ aw mp mpl msh msl mwa mse (xs (5 * kq + 1)) (xs (5 * kq + 2)) hb8 hw) hN hK hP hD hS hA 0 rfl rfl rfl hl rfl (Nat.le_of_ble_eq_true rfl) ⟨Nat.le_of_ble_eq_true rfl, Nat.le_of_ble_eq_true rfl⟩ ⟨by show cells + 2 + 0 ≤ 3144; omega, by show slots + 12 + 0 ≤ 125590; omega⟩ dL_law_1588 (fun v w' H locs hq hP hD hS => ?_)
    rcases hq with ⟨hm, rfl, rfl⟩ | ⟨hm, r9, rfl, rfl⟩
    · have hP := z_nil hP
      have hD := z_nilD hD
      obtain ⟨bv, hbv⟩ : ∃ z : Int32, z = oco (nN (xs (5 * kq + 1))) + (1 : Int32) := ⟨_, rfl⟩
      refine zr_top (y := bv) hbv.symm ?_
      refine lv_istore (lv' := [(7, Value.int bv), (6, Value.int 0), (0, Value.ref b), (1, Value.ref (a 0)), (2, Value.ref (a' 0)), (3, Value.ref o1), (4, Value.ref o2), (5, Value.int (nI (5 * kq)))]) hx hb dL_law_1591 hl (by decide) rfl (fun ls hl => ?_)
      refine z_tail (P := 1593) C0 (c_X6_thrown l D y a' (0 : Int32) t tb tf ts cap clr mov hom wm nw wf wt nb fr bw bl no od ow ol ork (upd olf (nN (xs (5 * kq + 1))) (xs (5 * kq + 2))) (upd oco (nN (xs (5 * kq + 1))) (oco (nN (xs (5 * kq + 1))) + (1 : Int32))) at_ aw mp mpl msh msl mwa mse) rfl hP hD hS hl (lv_at hl 4 rfl) (lv_at hl 1 rfl) (lv_at hl 5 rfl) (lv_at hl 0 rfl) (rfl) (fun _ => hv1.trans (congrArg Int32.toInt64 (hbv.symm))) ⟨by show cells + 2 + 0 ≤ 3144; omega, by show slots + 12 + 0 ≤ 125590; omega⟩ dL_law_1593 dL_law_1594 dL_law_1597 dL_law_1599 dL_law_1604 dL_law_1606 dL_law_1609 dL_law_1610 dL_law_1611 dL_law_1612 dL_law_1614 dL_law_1615 dL_law_1616 dL_law_1621 (by decide) (fun H locs hP hD hS => ?_)
      refine W.widen (k := cells + 3) (n := slots + 18) (by omega) (by omega) ?_
      exact kk cap clr t hom mov wm tb tf ts nw wf wt nb bw bl bi bb no od ow ol ork ob (upd olf (nN (xs (5 * kq + 1))) (xs (5 * kq + 2))) (upd oco (nN (xs (5 * kq + 1))) (oco (nN (xs (5 * kq + 1))) + (1 : Int32))) pn pb pm pcd pw pli (0 : Int32) fr at_ aw mp mpl msh msl mwa mse _ _ _ _ _ (rel_paint hR hm) hP hD hS (lv_sub hl [2, 3, 4, 5, 6, 7] rfl)
    · exact absurd ((pa_M hR _ _ _).symm.trans hc1) hm
  · refine lv_istore (lv' := [(6, Value.int (nI (paC no nb (badF wf wt nw (nI t)) ob olf (xs (5 * kq + 1)) (xs (5 * kq + 2))))), (0, Value.ref b), (1, Value.ref (a 0)), (2, Value.ref (a' 0)), (3, Value.ref o1), (4, Value.ref o2), (5, Value.int (nI (5 * kq)))]) hx hb dL_law_1573 hl (by decide) rfl (fun ls hl => ?_)
    refine lv_aload_n hx hb dL_law_1575 rfl (lv_at hl 3 rfl) ?_
    refine z_arg (i := 1) C0 (by omega) hL hS (lv_at hl 1 rfl) (lv_at hl 6 rfl) (by decide) dL_law_1576 dL_law_1577 dL_law_1579 dL_law_1580 dL_law_1581 ?_
    refine z_arg (i := 2) C0 (by omega) hL hS (lv_at hl 1 rfl) (lv_at hl 6 rfl) (by decide) dL_law_1582 dL_law_1583 dL_law_1585 dL_law_1586 dL_law_1587 ?_
    refine z_callVF (wa := []) (w1 := wM a' y mth (nI t) tb tf ts cap clr mov hom wm (nI nw) wf wt (nI nb) fr bw bl (nI no) od ow ol ork olf oco at_ aw mp mpl msh msl mwa mse) (wb := (wB a y cap clr (nI t) hom mov wm tb tf ts (nI nw) wf wt (nI nb) bw bl bi bb (nI no) od ow ol ork ob olf oco pn pb pm pcd pw pli ++ oL y o1 v0) ++ oD y o2 d0) (As := [Value.int (xs (5 * kq + 1)), Value.int (xs (5 * kq + 2))]) (rest := []) hx hb hml hown hta zm_X6_paint wd_25_14 (c_X6_paint l D y a' mth t tb tf ts cap clr mov hom wm nw wf wt nb fr bw bl no od ow ol ork olf oco at_ aw mp mpl msh msl mwa mse (xs (5 * kq + 1)) (xs (5 * kq + 2)) hb8 hw) hN hK hP hD hS hA 0 rfl rfl rfl hl rfl (Nat.le_of_ble_eq_true rfl) ⟨Nat.le_of_ble_eq_true rfl, Nat.le_of_ble_eq_true rfl⟩ ⟨by show cells + 2 + 0 ≤ 3144; omega, by show slots + 12 + 0 ≤ 125590; omega⟩ dL_law_1588 (fun v w' H locs hq hP hD hS => ?_)
    rcases hq with ⟨hm, rfl, rfl⟩ | ⟨hm, r9, rfl, rfl⟩
    · exact absurd ((pa_M hR _ _ _).trans hm) hc1
    · have hP := z_nil hP
      have hD := z_nilD hD
      refine lv_istore (lv' := [(7, Value.int r9), (6, Value.int (nI (paC no nb (badF wf wt nw (nI t)) ob olf (xs (5 * kq + 1)) (xs (5 * kq + 2))))), (0, Value.ref b), (1, Value.ref (a 0)), (2, Value.ref (a' 0)), (3, Value.ref o1), (4, Value.ref o2), (5, Value.int (nI (5 * kq)))]) hx hb dL_law_1591 hl (by decide) rfl (fun ls hl => ?_)
      refine z_tail (P := 1593) C0 (c_X6_thrown l D y a' (nI (paM no (badF wf wt nw (nI t)) at_ olf (xs (5 * kq + 1)) (xs (5 * kq + 2)))) t tb tf ts cap clr mov hom wm nw wf wt nb fr bw bl no od ow ol ork olf oco at_ aw mp mpl msh msl mwa mse) rfl hP hD hS hl (lv_at hl 4 rfl) (lv_at hl 1 rfl) (lv_at hl 5 rfl) (lv_at hl 0 rfl) (congrArg nI (pa_M hR _ _ _).symm) (fun z => absurd z (nI_n0 hc1 c4_paC)) ⟨by show cells + 2 + 0 ≤ 3144; omega, by show slots + 12 + 0 ≤ 125590; omega⟩ dL_law_1593 dL_law_1594 dL_law_1597 dL_law_1599 dL_law_1604 dL_law_1606 dL_law_1609 dL_law_1610 dL_law_1611 dL_law_1612 dL_law_1614 dL_law_1615 dL_law_1616 dL_law_1621 (by decide) (fun H locs hP hD hS => ?_)
      refine W.widen (k := cells + 3) (n := slots + 18) (by omega) (by omega) ?_
      exact kk cap clr t hom mov wm tb tf ts nw wf wt nb bw bl bi bb no od ow ol ork ob olf oco pn pb pm pcd pw pli (nI (paM no (badF wf wt nw (nI t)) at_ olf (xs (5 * kq + 1)) (xs (5 * kq + 2)))) fr at_ aw mp mpl msh msl mwa mse _ _ _ _ _ (hR) hP hD hS (lv_sub hl [2, 3, 4, 5, 6, 7] rfl)
set_option maxHeartbeats 1600000 in
set_option maxRecDepth 100000 in
theorem lc_23 {p : Program} {l : Launch} {e : Env} {s : State} {m : MethodId} {below : List Frame} {meth : Method} {c : Code} {D : va_G} {y : Nat → ClassId} {b L : Nat} {xs : Nat → Int32} {a a' : Nat → Nat} {o1 o2 kq cells slots : Nat} {G : State → Prop} (hlt : l.stackTraces = false) (C0 : LC p s m meth c b L xs D y) (hk : 5 * kq + 5 ≤ L) (hL : L ≤ 2560) (hc : cells + 3 ≤ 3144 ∧ slots + 18 ≤ 125590) (kk : LawK p l e s m below meth c D y b a a' o1 o2 kq (cells + 3) (slots + 18) 2118 G) : LawK p l e s m below meth c D y b a a' o1 o2 kq cells slots 1624 G := by
  intro cap clr t hom mov wm tb tf ts nw wf wt nb bw bl bi bb no od ow ol ork ob olf oco pn pb pm pcd pw pli mth fr at_ aw mp mpl msh msl mwa mse v0 d0 H locs ls hR hP hD hS hl
  have C1 := C0
  obtain ⟨hx, hb, hr, hml, hown, hta, hX, hbl, hlocks, hN, hH, hK⟩ := C1
  have hA : ∀ q, s.heap.size ≤ q → lwA s q := fun _ h => h
  have hb8 := hR.1.2.2.2
  have hb6 := hR.1.2.2.1
  have hw := hR.1.2.1
  have ht := hR.1.1
  have hsp := hR.2.1
  have hol := hR.2.2.1
  have hfr := fr_hfr (rel_fr hR)
  have hat := (rel_va hR).1
  refine lv_aload_n hx hb dL_law_1624 rfl (lv_at hl 1 rfl) ?_
  refine z_arg (i := 1) C0 (by omega) hL hS (lv_at hl 0 rfl) (lv_at hl 5 rfl) (by decide) dL_law_1625 dL_law_1626 dL_law_1628 dL_law_1629 dL_law_1630 ?_
  refine lv_aload_n hx hb dL_law_1631 rfl (lv_at hl 3 rfl) ?_
  refine z_callWr (wa := wM a' y mth (nI t) tb tf ts cap clr mov hom wm (nI nw) wf wt (nI nb) fr bw bl (nI no) od ow ol ork olf oco at_ aw mp mpl msh msl mwa mse) (w1 := wB a y cap clr (nI t) hom mov wm tb tf ts (nI nw) wf wt (nI nb) bw bl bi bb (nI no) od ow ol ork ob olf oco pn pb pm pcd pw pli ++ oL y o1 v0) (wb := oD y o2 d0) (As := [Value.ref (a 0), Value.int (xs (5 * kq + 1)), Value.ref o1]) (rest := []) hx hb hml hown hta zw_dryLeft wd_25_18 (c_L_dryLeft l hlt D y a cap clr t hom mov wm tb tf ts nw wf wt nb bw bl bi bb no od ow ol ork ob olf oco pn pb pm pcd pw pli (xs (5 * kq + 1)) hb8 o1 v0) hH hN hK hP hD hS hA rfl hl rfl (Nat.le_of_ble_eq_true rfl) ⟨Nat.le_of_ble_eq_true rfl, Nat.le_of_ble_eq_true rfl⟩ ⟨by show cells + 1 ≤ 3144; omega, by show slots + 6 ≤ 125590; omega⟩ dL_law_1632 (fun v w' H locs hq hP hD hS => ?_)
  rcases hq with ⟨hc1, v1, hv1, rfl, rfl⟩ | ⟨hc1, rfl, rfl⟩
  · refine lv_istore (lv' := [(6, Value.int 0), (0, Value.ref b), (1, Value.ref (a 0)), (2, Value.ref (a' 0)), (3, Value.ref o1), (4, Value.ref o2), (5, Value.int (nI (5 * kq)))]) hx hb dL_law_1635 hl (by decide) rfl (fun ls hl => ?_)
    refine lv_aload_n hx hb dL_law_1637 rfl (lv_at hl 3 rfl) ?_
    refine z_arg (i := 1) C0 (by omega) hL hS (lv_at hl 1 rfl) (lv_at hl 6 rfl) (by decide) dL_law_1638 dL_law_1639 dL_law_1641 dL_law_1642 dL_law_1643 ?_
    refine z_callVF (wa := []) (w1 := wM a' y mth (nI t) tb tf ts cap clr mov hom wm (nI nw) wf wt (nI nb) fr bw bl (nI no) od ow ol ork olf oco at_ aw mp mpl msh msl mwa mse) (wb := (wB a y cap clr (nI t) hom mov wm tb tf ts (nI nw) wf wt (nI nb) bw bl bi bb (nI no) od ow ol ork ob olf oco pn pb pm pcd pw pli ++ oL y o1 v1) ++ oD y o2 d0) (As := [Value.int (xs (5 * kq + 1))]) (rest := []) hx hb hml hown hta zm_X6_dryLeft wd_26_1 (c_X6_dryLeft l D y a' mth t tb tf ts cap clr mov hom wm nw wf wt nb fr bw bl no od ow ol ork olf oco at_ aw mp mpl msh msl mwa mse (xs (5 * kq + 1)) hb8) hN hK hP hD hS hA 0 rfl rfl rfl hl rfl (Nat.le_of_ble_eq_true rfl) ⟨Nat.le_of_ble_eq_true rfl, Nat.le_of_ble_eq_true rfl⟩ ⟨by show cells + 1 + 0 ≤ 3144; omega, by show slots + 6 + 0 ≤ 125590; omega⟩ dL_law_1644 (fun v w' H locs hq hP hD hS => ?_)
    rcases hq with ⟨hm, rfl, rfl⟩ | ⟨hm, r9, rfl, rfl⟩
    · have hP := z_nil hP
      have hD := z_nilD hD
      obtain ⟨bv, hbv⟩ : ∃ z : Int32, z = olf (nN (xs (5 * kq + 1))) := ⟨_, rfl⟩
      refine zr_top (y := bv) hbv.symm ?_
      refine lv_istore (lv' := [(7, Value.int bv), (6, Value.int 0), (0, Value.ref b), (1, Value.ref (a 0)), (2, Value.ref (a' 0)), (3, Value.ref o1), (4, Value.ref o2), (5, Value.int (nI (5 * kq)))]) hx hb dL_law_1647 hl (by decide) rfl (fun ls hl => ?_)
      refine z_tail (P := 1649) C0 (c_X6_thrown l D y a' (0 : Int32) t tb tf ts cap clr mov hom wm nw wf wt nb fr bw bl no od ow ol ork olf oco at_ aw mp mpl msh msl mwa mse) rfl hP hD hS hl (lv_at hl 4 rfl) (lv_at hl 1 rfl) (lv_at hl 5 rfl) (lv_at hl 0 rfl) (rfl) (fun _ => hv1.trans (congrArg Int32.toInt64 (hbv.symm))) ⟨by show cells + 1 + 0 ≤ 3144; omega, by show slots + 6 + 0 ≤ 125590; omega⟩ dL_law_1649 dL_law_1650 dL_law_1653 dL_law_1655 dL_law_1660 dL_law_1662 dL_law_1665 dL_law_1666 dL_law_1667 dL_law_1668 dL_law_1670 dL_law_1671 dL_law_1672 dL_law_1677 (by decide) (fun H locs hP hD hS => ?_)
      refine W.widen (k := cells + 3) (n := slots + 18) (by omega) (by omega) ?_
      exact kk cap clr t hom mov wm tb tf ts nw wf wt nb bw bl bi bb no od ow ol ork ob olf oco pn pb pm pcd pw pli (0 : Int32) fr at_ aw mp mpl msh msl mwa mse _ _ _ _ _ (hR) hP hD hS (lv_sub hl [2, 3, 4, 5, 6, 7] rfl)
    · exact absurd (hc1) hm
  · refine lv_istore (lv' := [(6, Value.int (nI (boC no (xs (5 * kq + 1))))), (0, Value.ref b), (1, Value.ref (a 0)), (2, Value.ref (a' 0)), (3, Value.ref o1), (4, Value.ref o2), (5, Value.int (nI (5 * kq)))]) hx hb dL_law_1635 hl (by decide) rfl (fun ls hl => ?_)
    refine lv_aload_n hx hb dL_law_1637 rfl (lv_at hl 3 rfl) ?_
    refine z_arg (i := 1) C0 (by omega) hL hS (lv_at hl 1 rfl) (lv_at hl 6 rfl) (by decide) dL_law_1638 dL_law_1639 dL_law_1641 dL_law_1642 dL_law_1643 ?_
    refine z_callVF (wa := []) (w1 := wM a' y mth (nI t) tb tf ts cap clr mov hom wm (nI nw) wf wt (nI nb) fr bw bl (nI no) od ow ol ork olf oco at_ aw mp mpl msh msl mwa mse) (wb := (wB a y cap clr (nI t) hom mov wm tb tf ts (nI nw) wf wt (nI nb) bw bl bi bb (nI no) od ow ol ork ob olf oco pn pb pm pcd pw pli ++ oL y o1 v0) ++ oD y o2 d0) (As := [Value.int (xs (5 * kq + 1))]) (rest := []) hx hb hml hown hta zm_X6_dryLeft wd_26_1 (c_X6_dryLeft l D y a' mth t tb tf ts cap clr mov hom wm nw wf wt nb fr bw bl no od ow ol ork olf oco at_ aw mp mpl msh msl mwa mse (xs (5 * kq + 1)) hb8) hN hK hP hD hS hA 0 rfl rfl rfl hl rfl (Nat.le_of_ble_eq_true rfl) ⟨Nat.le_of_ble_eq_true rfl, Nat.le_of_ble_eq_true rfl⟩ ⟨by show cells + 1 + 0 ≤ 3144; omega, by show slots + 6 + 0 ≤ 125590; omega⟩ dL_law_1644 (fun v w' H locs hq hP hD hS => ?_)
    rcases hq with ⟨hm, rfl, rfl⟩ | ⟨hm, r9, rfl, rfl⟩
    · exact absurd (hm) hc1
    · have hP := z_nil hP
      have hD := z_nilD hD
      refine lv_istore (lv' := [(7, Value.int r9), (6, Value.int (nI (boC no (xs (5 * kq + 1))))), (0, Value.ref b), (1, Value.ref (a 0)), (2, Value.ref (a' 0)), (3, Value.ref o1), (4, Value.ref o2), (5, Value.int (nI (5 * kq)))]) hx hb dL_law_1647 hl (by decide) rfl (fun ls hl => ?_)
      refine z_tail (P := 1649) C0 (c_X6_thrown l D y a' (nI (boC no (xs (5 * kq + 1)))) t tb tf ts cap clr mov hom wm nw wf wt nb fr bw bl no od ow ol ork olf oco at_ aw mp mpl msh msl mwa mse) rfl hP hD hS hl (lv_at hl 4 rfl) (lv_at hl 1 rfl) (lv_at hl 5 rfl) (lv_at hl 0 rfl) (rfl) (fun z => absurd z (nI_n0 hc1 c4_boC)) ⟨by show cells + 1 + 0 ≤ 3144; omega, by show slots + 6 + 0 ≤ 125590; omega⟩ dL_law_1649 dL_law_1650 dL_law_1653 dL_law_1655 dL_law_1660 dL_law_1662 dL_law_1665 dL_law_1666 dL_law_1667 dL_law_1668 dL_law_1670 dL_law_1671 dL_law_1672 dL_law_1677 (by decide) (fun H locs hP hD hS => ?_)
      refine W.widen (k := cells + 3) (n := slots + 18) (by omega) (by omega) ?_
      exact kk cap clr t hom mov wm tb tf ts nw wf wt nb bw bl bi bb no od ow ol ork ob olf oco pn pb pm pcd pw pli (nI (boC no (xs (5 * kq + 1)))) fr at_ aw mp mpl msh msl mwa mse _ _ _ _ _ (hR) hP hD hS (lv_sub hl [2, 3, 4, 5, 6, 7] rfl)
set_option maxHeartbeats 1600000 in
set_option maxRecDepth 100000 in
theorem lc_24 {p : Program} {l : Launch} {e : Env} {s : State} {m : MethodId} {below : List Frame} {meth : Method} {c : Code} {D : va_G} {y : Nat → ClassId} {b L : Nat} {xs : Nat → Int32} {a a' : Nat → Nat} {o1 o2 kq cells slots : Nat} {G : State → Prop} (hlt : l.stackTraces = false) (C0 : LC p s m meth c b L xs D y) (hk : 5 * kq + 5 ≤ L) (hL : L ≤ 2560) (hc : cells + 3 ≤ 3144 ∧ slots + 18 ≤ 125590) (kk : LawK p l e s m below meth c D y b a a' o1 o2 kq (cells + 3) (slots + 18) 2118 G) : LawK p l e s m below meth c D y b a a' o1 o2 kq cells slots 1680 G := by
  intro cap clr t hom mov wm tb tf ts nw wf wt nb bw bl bi bb no od ow ol ork ob olf oco pn pb pm pcd pw pli mth fr at_ aw mp mpl msh msl mwa mse v0 d0 H locs ls hR hP hD hS hl
  have C1 := C0
  obtain ⟨hx, hb, hr, hml, hown, hta, hX, hbl, hlocks, hN, hH, hK⟩ := C1
  have hA : ∀ q, s.heap.size ≤ q → lwA s q := fun _ h => h
  have hb8 := hR.1.2.2.2
  have hb6 := hR.1.2.2.1
  have hw := hR.1.2.1
  have ht := hR.1.1
  have hsp := hR.2.1
  have hol := hR.2.2.1
  have hfr := fr_hfr (rel_fr hR)
  have hat := (rel_va hR).1
  refine lv_aload_n hx hb dL_law_1680 rfl (lv_at hl 1 rfl) ?_
  refine z_arg (i := 1) C0 (by omega) hL hS (lv_at hl 0 rfl) (lv_at hl 5 rfl) (by decide) dL_law_1681 dL_law_1682 dL_law_1684 dL_law_1685 dL_law_1686 ?_
  refine lv_aload_n hx hb dL_law_1687 rfl (lv_at hl 3 rfl) ?_
  refine z_callWr (wa := wM a' y mth (nI t) tb tf ts cap clr mov hom wm (nI nw) wf wt (nI nb) fr bw bl (nI no) od ow ol ork olf oco at_ aw mp mpl msh msl mwa mse) (w1 := wB a y cap clr (nI t) hom mov wm tb tf ts (nI nw) wf wt (nI nb) bw bl bi bb (nI no) od ow ol ork ob olf oco pn pb pm pcd pw pli ++ oL y o1 v0) (wb := oD y o2 d0) (As := [Value.ref (a 0), Value.int (xs (5 * kq + 1)), Value.ref o1]) (rest := []) hx hb hml hown hta zw_dryAt wd_26_5 (c_L_dryAt l hlt D y a cap clr t hom mov wm tb tf ts nw wf wt nb bw bl bi bb no od ow ol ork ob olf oco pn pb pm pcd pw pli (xs (5 * kq + 1)) hb8 hw hsp ht hol o1 v0) hH hN hK hP hD hS hA rfl hl rfl (Nat.le_of_ble_eq_true rfl) ⟨Nat.le_of_ble_eq_true rfl, Nat.le_of_ble_eq_true rfl⟩ ⟨by show cells + 2 ≤ 3144; omega, by show slots + 12 ≤ 125590; omega⟩ dL_law_1688 (fun v w' H locs hq hP hD hS => ?_)
  rcases hq with ⟨hc1, v1, hv1, rfl, rfl⟩ | ⟨hc1, rfl, rfl⟩
  · refine lv_istore (lv' := [(6, Value.int 0), (0, Value.ref b), (1, Value.ref (a 0)), (2, Value.ref (a' 0)), (3, Value.ref o1), (4, Value.ref o2), (5, Value.int (nI (5 * kq)))]) hx hb dL_law_1691 hl (by decide) rfl (fun ls hl => ?_)
    refine lv_aload_n hx hb dL_law_1693 rfl (lv_at hl 3 rfl) ?_
    refine z_arg (i := 1) C0 (by omega) hL hS (lv_at hl 1 rfl) (lv_at hl 6 rfl) (by decide) dL_law_1694 dL_law_1695 dL_law_1697 dL_law_1698 dL_law_1699 ?_
    refine z_callVF (wa := []) (w1 := wM a' y mth (nI t) tb tf ts cap clr mov hom wm (nI nw) wf wt (nI nb) fr bw bl (nI no) od ow ol ork olf oco at_ aw mp mpl msh msl mwa mse) (wb := (wB a y cap clr (nI t) hom mov wm tb tf ts (nI nw) wf wt (nI nb) bw bl bi bb (nI no) od ow ol ork ob olf oco pn pb pm pcd pw pli ++ oL y o1 v1) ++ oD y o2 d0) (As := [Value.int (xs (5 * kq + 1))]) (rest := []) hx hb hml hown hta zm_X6_dryAt wd_27_4 (c_X6_dryAt l D y a' mth t tb tf ts cap clr mov hom wm nw wf wt nb fr bw bl no od ow ol ork olf oco at_ aw mp mpl msh msl mwa mse (xs (5 * kq + 1)) hb8 hw hsp ht hol) hN hK hP hD hS hA 0 rfl rfl rfl hl rfl (Nat.le_of_ble_eq_true rfl) ⟨Nat.le_of_ble_eq_true rfl, Nat.le_of_ble_eq_true rfl⟩ ⟨by show cells + 2 + 0 ≤ 3144; omega, by show slots + 12 + 0 ≤ 125590; omega⟩ dL_law_1700 (fun v w' H locs hq hP hD hS => ?_)
    rcases hq with ⟨hm, rfl, rfl⟩ | ⟨hm, r9, rfl, rfl⟩
    · have hP := z_nil hP
      have hD := z_nilD hD
      obtain ⟨bv, hbv⟩ : ∃ z : Int32, z = nI (dryV wf wt nw t (olf (nN (xs (5 * kq + 1))))) := ⟨_, rfl⟩
      refine zr_top (y := bv) hbv.symm ?_
      refine lv_istore (lv' := [(7, Value.int bv), (6, Value.int 0), (0, Value.ref b), (1, Value.ref (a 0)), (2, Value.ref (a' 0)), (3, Value.ref o1), (4, Value.ref o2), (5, Value.int (nI (5 * kq)))]) hx hb dL_law_1703 hl (by decide) rfl (fun ls hl => ?_)
      refine z_tail (P := 1705) C0 (c_X6_thrown l D y a' (0 : Int32) t tb tf ts cap clr mov hom wm nw wf wt nb fr bw bl no od ow ol ork olf oco at_ aw mp mpl msh msl mwa mse) rfl hP hD hS hl (lv_at hl 4 rfl) (lv_at hl 1 rfl) (lv_at hl 5 rfl) (lv_at hl 0 rfl) (rfl) (fun _ => hv1.trans (congrArg Int32.toInt64 (hbv.symm))) ⟨by show cells + 2 + 0 ≤ 3144; omega, by show slots + 12 + 0 ≤ 125590; omega⟩ dL_law_1705 dL_law_1706 dL_law_1709 dL_law_1711 dL_law_1716 dL_law_1718 dL_law_1721 dL_law_1722 dL_law_1723 dL_law_1724 dL_law_1726 dL_law_1727 dL_law_1728 dL_law_1733 (by decide) (fun H locs hP hD hS => ?_)
      refine W.widen (k := cells + 3) (n := slots + 18) (by omega) (by omega) ?_
      exact kk cap clr t hom mov wm tb tf ts nw wf wt nb bw bl bi bb no od ow ol ork ob olf oco pn pb pm pcd pw pli (0 : Int32) fr at_ aw mp mpl msh msl mwa mse _ _ _ _ _ (hR) hP hD hS (lv_sub hl [2, 3, 4, 5, 6, 7] rfl)
    · exact absurd (hc1) hm
  · refine lv_istore (lv' := [(6, Value.int (nI (boC no (xs (5 * kq + 1))))), (0, Value.ref b), (1, Value.ref (a 0)), (2, Value.ref (a' 0)), (3, Value.ref o1), (4, Value.ref o2), (5, Value.int (nI (5 * kq)))]) hx hb dL_law_1691 hl (by decide) rfl (fun ls hl => ?_)
    refine lv_aload_n hx hb dL_law_1693 rfl (lv_at hl 3 rfl) ?_
    refine z_arg (i := 1) C0 (by omega) hL hS (lv_at hl 1 rfl) (lv_at hl 6 rfl) (by decide) dL_law_1694 dL_law_1695 dL_law_1697 dL_law_1698 dL_law_1699 ?_
    refine z_callVF (wa := []) (w1 := wM a' y mth (nI t) tb tf ts cap clr mov hom wm (nI nw) wf wt (nI nb) fr bw bl (nI no) od ow ol ork olf oco at_ aw mp mpl msh msl mwa mse) (wb := (wB a y cap clr (nI t) hom mov wm tb tf ts (nI nw) wf wt (nI nb) bw bl bi bb (nI no) od ow ol ork ob olf oco pn pb pm pcd pw pli ++ oL y o1 v0) ++ oD y o2 d0) (As := [Value.int (xs (5 * kq + 1))]) (rest := []) hx hb hml hown hta zm_X6_dryAt wd_27_4 (c_X6_dryAt l D y a' mth t tb tf ts cap clr mov hom wm nw wf wt nb fr bw bl no od ow ol ork olf oco at_ aw mp mpl msh msl mwa mse (xs (5 * kq + 1)) hb8 hw hsp ht hol) hN hK hP hD hS hA 0 rfl rfl rfl hl rfl (Nat.le_of_ble_eq_true rfl) ⟨Nat.le_of_ble_eq_true rfl, Nat.le_of_ble_eq_true rfl⟩ ⟨by show cells + 2 + 0 ≤ 3144; omega, by show slots + 12 + 0 ≤ 125590; omega⟩ dL_law_1700 (fun v w' H locs hq hP hD hS => ?_)
    rcases hq with ⟨hm, rfl, rfl⟩ | ⟨hm, r9, rfl, rfl⟩
    · exact absurd (hm) hc1
    · have hP := z_nil hP
      have hD := z_nilD hD
      refine lv_istore (lv' := [(7, Value.int r9), (6, Value.int (nI (boC no (xs (5 * kq + 1))))), (0, Value.ref b), (1, Value.ref (a 0)), (2, Value.ref (a' 0)), (3, Value.ref o1), (4, Value.ref o2), (5, Value.int (nI (5 * kq)))]) hx hb dL_law_1703 hl (by decide) rfl (fun ls hl => ?_)
      refine z_tail (P := 1705) C0 (c_X6_thrown l D y a' (nI (boC no (xs (5 * kq + 1)))) t tb tf ts cap clr mov hom wm nw wf wt nb fr bw bl no od ow ol ork olf oco at_ aw mp mpl msh msl mwa mse) rfl hP hD hS hl (lv_at hl 4 rfl) (lv_at hl 1 rfl) (lv_at hl 5 rfl) (lv_at hl 0 rfl) (rfl) (fun z => absurd z (nI_n0 hc1 c4_boC)) ⟨by show cells + 2 + 0 ≤ 3144; omega, by show slots + 12 + 0 ≤ 125590; omega⟩ dL_law_1705 dL_law_1706 dL_law_1709 dL_law_1711 dL_law_1716 dL_law_1718 dL_law_1721 dL_law_1722 dL_law_1723 dL_law_1724 dL_law_1726 dL_law_1727 dL_law_1728 dL_law_1733 (by decide) (fun H locs hP hD hS => ?_)
      refine W.widen (k := cells + 3) (n := slots + 18) (by omega) (by omega) ?_
      exact kk cap clr t hom mov wm tb tf ts nw wf wt nb bw bl bi bb no od ow ol ork ob olf oco pn pb pm pcd pw pli (nI (boC no (xs (5 * kq + 1)))) fr at_ aw mp mpl msh msl mwa mse _ _ _ _ _ (hR) hP hD hS (lv_sub hl [2, 3, 4, 5, 6, 7] rfl)
set_option maxHeartbeats 1600000 in
set_option maxRecDepth 100000 in
theorem lc_25 {p : Program} {l : Launch} {e : Env} {s : State} {m : MethodId} {below : List Frame} {meth : Method} {c : Code} {D : va_G} {y : Nat → ClassId} {b L : Nat} {xs : Nat → Int32} {a a' : Nat → Nat} {o1 o2 kq cells slots : Nat} {G : State → Prop} (hlt : l.stackTraces = false) (C0 : LC p s m meth c b L xs D y) (hk : 5 * kq + 5 ≤ L) (hL : L ≤ 2560) (hc : cells + 3 ≤ 3144 ∧ slots + 18 ≤ 125590) (kk : LawK p l e s m below meth c D y b a a' o1 o2 kq (cells + 3) (slots + 18) 2118 G) : LawK p l e s m below meth c D y b a a' o1 o2 kq cells slots 1736 G := by
  intro cap clr t hom mov wm tb tf ts nw wf wt nb bw bl bi bb no od ow ol ork ob olf oco pn pb pm pcd pw pli mth fr at_ aw mp mpl msh msl mwa mse v0 d0 H locs ls hR hP hD hS hl
  have C1 := C0
  obtain ⟨hx, hb, hr, hml, hown, hta, hX, hbl, hlocks, hN, hH, hK⟩ := C1
  have hA : ∀ q, s.heap.size ≤ q → lwA s q := fun _ h => h
  have hb8 := hR.1.2.2.2
  have hb6 := hR.1.2.2.1
  have hw := hR.1.2.1
  have ht := hR.1.1
  have hsp := hR.2.1
  have hol := hR.2.2.1
  have hfr := fr_hfr (rel_fr hR)
  have hat := (rel_va hR).1
  refine lv_aload_n hx hb dL_law_1736 rfl (lv_at hl 1 rfl) ?_
  refine z_arg (i := 1) C0 (by omega) hL hS (lv_at hl 0 rfl) (lv_at hl 5 rfl) (by decide) dL_law_1737 dL_law_1738 dL_law_1740 dL_law_1741 dL_law_1742 ?_
  refine lv_aload_n hx hb dL_law_1743 rfl (lv_at hl 3 rfl) ?_
  refine z_callWr (wa := wM a' y mth (nI t) tb tf ts cap clr mov hom wm (nI nw) wf wt (nI nb) fr bw bl (nI no) od ow ol ork olf oco at_ aw mp mpl msh msl mwa mse) (w1 := wB a y cap clr (nI t) hom mov wm tb tf ts (nI nw) wf wt (nI nb) bw bl bi bb (nI no) od ow ol ork ob olf oco pn pb pm pcd pw pli ++ oL y o1 v0) (wb := oD y o2 d0) (As := [Value.ref (a 0), Value.int (xs (5 * kq + 1)), Value.ref o1]) (rest := []) hx hb hml hown hta zw_dryByHours wd_27_12 (c_L_dryByHours l hlt D y a cap clr t hom mov wm tb tf ts nw wf wt nb bw bl bi bb no od ow ol ork ob olf oco pn pb pm pcd pw pli (xs (5 * kq + 1)) hb8 hw hsp ht hol o1 v0) hH hN hK hP hD hS hA rfl hl rfl (Nat.le_of_ble_eq_true rfl) ⟨Nat.le_of_ble_eq_true rfl, Nat.le_of_ble_eq_true rfl⟩ ⟨by show cells + 2 ≤ 3144; omega, by show slots + 12 ≤ 125590; omega⟩ dL_law_1744 (fun v w' H locs hq hP hD hS => ?_)
  rcases hq with ⟨hc1, v1, hv1, rfl, rfl⟩ | ⟨hc1, rfl, rfl⟩
  · refine lv_istore (lv' := [(6, Value.int 0), (0, Value.ref b), (1, Value.ref (a 0)), (2, Value.ref (a' 0)), (3, Value.ref o1), (4, Value.ref o2), (5, Value.int (nI (5 * kq)))]) hx hb dL_law_1747 hl (by decide) rfl (fun ls hl => ?_)
    refine lv_aload_n hx hb dL_law_1749 rfl (lv_at hl 3 rfl) ?_
    refine z_arg (i := 1) C0 (by omega) hL hS (lv_at hl 1 rfl) (lv_at hl 6 rfl) (by decide) dL_law_1750 dL_law_1751 dL_law_1753 dL_law_1754 dL_law_1755 ?_
    refine z_callVF (wa := []) (w1 := wM a' y mth (nI t) tb tf ts cap clr mov hom wm (nI nw) wf wt (nI nb) fr bw bl (nI no) od ow ol ork olf oco at_ aw mp mpl msh msl mwa mse) (wb := (wB a y cap clr (nI t) hom mov wm tb tf ts (nI nw) wf wt (nI nb) bw bl bi bb (nI no) od ow ol ork ob olf oco pn pb pm pcd pw pli ++ oL y o1 v1) ++ oD y o2 d0) (As := [Value.int (xs (5 * kq + 1))]) (rest := []) hx hb hml hown hta zm_X6_dryByHours wd_28_0 (c_X6_dryByHours l D y a' mth t tb tf ts cap clr mov hom wm nw wf wt nb fr bw bl no od ow ol ork olf oco at_ aw mp mpl msh msl mwa mse (xs (5 * kq + 1)) hb8 hw hsp ht hol) hN hK hP hD hS hA 0 rfl rfl rfl hl rfl (Nat.le_of_ble_eq_true rfl) ⟨Nat.le_of_ble_eq_true rfl, Nat.le_of_ble_eq_true rfl⟩ ⟨by show cells + 2 + 0 ≤ 3144; omega, by show slots + 12 + 0 ≤ 125590; omega⟩ dL_law_1756 (fun v w' H locs hq hP hD hS => ?_)
    rcases hq with ⟨hm, rfl, rfl⟩ | ⟨hm, r9, rfl, rfl⟩
    · have hP := z_nil hP
      have hD := z_nilD hD
      obtain ⟨bv, hbv⟩ : ∃ z : Int32, z = nI (dryV wf wt nw t (olf (nN (xs (5 * kq + 1))))) := ⟨_, rfl⟩
      refine zr_top (y := bv) hbv.symm ?_
      refine lv_istore (lv' := [(7, Value.int bv), (6, Value.int 0), (0, Value.ref b), (1, Value.ref (a 0)), (2, Value.ref (a' 0)), (3, Value.ref o1), (4, Value.ref o2), (5, Value.int (nI (5 * kq)))]) hx hb dL_law_1759 hl (by decide) rfl (fun ls hl => ?_)
      refine z_tail (P := 1761) C0 (c_X6_thrown l D y a' (0 : Int32) t tb tf ts cap clr mov hom wm nw wf wt nb fr bw bl no od ow ol ork olf oco at_ aw mp mpl msh msl mwa mse) rfl hP hD hS hl (lv_at hl 4 rfl) (lv_at hl 1 rfl) (lv_at hl 5 rfl) (lv_at hl 0 rfl) (rfl) (fun _ => hv1.trans (congrArg Int32.toInt64 (hbv.symm))) ⟨by show cells + 2 + 0 ≤ 3144; omega, by show slots + 12 + 0 ≤ 125590; omega⟩ dL_law_1761 dL_law_1762 dL_law_1765 dL_law_1767 dL_law_1772 dL_law_1774 dL_law_1777 dL_law_1778 dL_law_1779 dL_law_1780 dL_law_1782 dL_law_1783 dL_law_1784 dL_law_1789 (by decide) (fun H locs hP hD hS => ?_)
      refine W.widen (k := cells + 3) (n := slots + 18) (by omega) (by omega) ?_
      exact kk cap clr t hom mov wm tb tf ts nw wf wt nb bw bl bi bb no od ow ol ork ob olf oco pn pb pm pcd pw pli (0 : Int32) fr at_ aw mp mpl msh msl mwa mse _ _ _ _ _ (hR) hP hD hS (lv_sub hl [2, 3, 4, 5, 6, 7] rfl)
    · exact absurd (hc1) hm
  · refine lv_istore (lv' := [(6, Value.int (nI (boC no (xs (5 * kq + 1))))), (0, Value.ref b), (1, Value.ref (a 0)), (2, Value.ref (a' 0)), (3, Value.ref o1), (4, Value.ref o2), (5, Value.int (nI (5 * kq)))]) hx hb dL_law_1747 hl (by decide) rfl (fun ls hl => ?_)
    refine lv_aload_n hx hb dL_law_1749 rfl (lv_at hl 3 rfl) ?_
    refine z_arg (i := 1) C0 (by omega) hL hS (lv_at hl 1 rfl) (lv_at hl 6 rfl) (by decide) dL_law_1750 dL_law_1751 dL_law_1753 dL_law_1754 dL_law_1755 ?_
    refine z_callVF (wa := []) (w1 := wM a' y mth (nI t) tb tf ts cap clr mov hom wm (nI nw) wf wt (nI nb) fr bw bl (nI no) od ow ol ork olf oco at_ aw mp mpl msh msl mwa mse) (wb := (wB a y cap clr (nI t) hom mov wm tb tf ts (nI nw) wf wt (nI nb) bw bl bi bb (nI no) od ow ol ork ob olf oco pn pb pm pcd pw pli ++ oL y o1 v0) ++ oD y o2 d0) (As := [Value.int (xs (5 * kq + 1))]) (rest := []) hx hb hml hown hta zm_X6_dryByHours wd_28_0 (c_X6_dryByHours l D y a' mth t tb tf ts cap clr mov hom wm nw wf wt nb fr bw bl no od ow ol ork olf oco at_ aw mp mpl msh msl mwa mse (xs (5 * kq + 1)) hb8 hw hsp ht hol) hN hK hP hD hS hA 0 rfl rfl rfl hl rfl (Nat.le_of_ble_eq_true rfl) ⟨Nat.le_of_ble_eq_true rfl, Nat.le_of_ble_eq_true rfl⟩ ⟨by show cells + 2 + 0 ≤ 3144; omega, by show slots + 12 + 0 ≤ 125590; omega⟩ dL_law_1756 (fun v w' H locs hq hP hD hS => ?_)
    rcases hq with ⟨hm, rfl, rfl⟩ | ⟨hm, r9, rfl, rfl⟩
    · exact absurd (hm) hc1
    · have hP := z_nil hP
      have hD := z_nilD hD
      refine lv_istore (lv' := [(7, Value.int r9), (6, Value.int (nI (boC no (xs (5 * kq + 1))))), (0, Value.ref b), (1, Value.ref (a 0)), (2, Value.ref (a' 0)), (3, Value.ref o1), (4, Value.ref o2), (5, Value.int (nI (5 * kq)))]) hx hb dL_law_1759 hl (by decide) rfl (fun ls hl => ?_)
      refine z_tail (P := 1761) C0 (c_X6_thrown l D y a' (nI (boC no (xs (5 * kq + 1)))) t tb tf ts cap clr mov hom wm nw wf wt nb fr bw bl no od ow ol ork olf oco at_ aw mp mpl msh msl mwa mse) rfl hP hD hS hl (lv_at hl 4 rfl) (lv_at hl 1 rfl) (lv_at hl 5 rfl) (lv_at hl 0 rfl) (rfl) (fun z => absurd z (nI_n0 hc1 c4_boC)) ⟨by show cells + 2 + 0 ≤ 3144; omega, by show slots + 12 + 0 ≤ 125590; omega⟩ dL_law_1761 dL_law_1762 dL_law_1765 dL_law_1767 dL_law_1772 dL_law_1774 dL_law_1777 dL_law_1778 dL_law_1779 dL_law_1780 dL_law_1782 dL_law_1783 dL_law_1784 dL_law_1789 (by decide) (fun H locs hP hD hS => ?_)
      refine W.widen (k := cells + 3) (n := slots + 18) (by omega) (by omega) ?_
      exact kk cap clr t hom mov wm tb tf ts nw wf wt nb bw bl bi bb no od ow ol ork ob olf oco pn pb pm pcd pw pli (nI (boC no (xs (5 * kq + 1)))) fr at_ aw mp mpl msh msl mwa mse _ _ _ _ _ (hR) hP hD hS (lv_sub hl [2, 3, 4, 5, 6, 7] rfl)
set_option maxHeartbeats 1600000 in
set_option maxRecDepth 100000 in
theorem lc_26 {p : Program} {l : Launch} {e : Env} {s : State} {m : MethodId} {below : List Frame} {meth : Method} {c : Code} {D : va_G} {y : Nat → ClassId} {b L : Nat} {xs : Nat → Int32} {a a' : Nat → Nat} {o1 o2 kq cells slots : Nat} {G : State → Prop} (hlt : l.stackTraces = false) (C0 : LC p s m meth c b L xs D y) (hk : 5 * kq + 5 ≤ L) (hL : L ≤ 2560) (hc : cells + 3 ≤ 3144 ∧ slots + 18 ≤ 125590) (kk : LawK p l e s m below meth c D y b a a' o1 o2 kq (cells + 3) (slots + 18) 2118 G) : LawK p l e s m below meth c D y b a a' o1 o2 kq cells slots 1792 G := by
  intro cap clr t hom mov wm tb tf ts nw wf wt nb bw bl bi bb no od ow ol ork ob olf oco pn pb pm pcd pw pli mth fr at_ aw mp mpl msh msl mwa mse v0 d0 H locs ls hR hP hD hS hl
  have C1 := C0
  obtain ⟨hx, hb, hr, hml, hown, hta, hX, hbl, hlocks, hN, hH, hK⟩ := C1
  have hA : ∀ q, s.heap.size ≤ q → lwA s q := fun _ h => h
  have hb8 := hR.1.2.2.2
  have hb6 := hR.1.2.2.1
  have hw := hR.1.2.1
  have ht := hR.1.1
  have hsp := hR.2.1
  have hol := hR.2.2.1
  have hfr := fr_hfr (rel_fr hR)
  have hat := (rel_va hR).1
  refine lv_aload_n hx hb dL_law_1792 rfl (lv_at hl 1 rfl) ?_
  refine z_arg (i := 1) C0 (by omega) hL hS (lv_at hl 0 rfl) (lv_at hl 5 rfl) (by decide) dL_law_1793 dL_law_1794 dL_law_1796 dL_law_1797 dL_law_1798 ?_
  refine lv_aload_n hx hb dL_law_1799 rfl (lv_at hl 3 rfl) ?_
  refine z_callWr (wa := wM a' y mth (nI t) tb tf ts cap clr mov hom wm (nI nw) wf wt (nI nb) fr bw bl (nI no) od ow ol ork olf oco at_ aw mp mpl msh msl mwa mse) (w1 := wB a y cap clr (nI t) hom mov wm tb tf ts (nI nw) wf wt (nI nb) bw bl bi bb (nI no) od ow ol ork ob olf oco pn pb pm pcd pw pli ++ oL y o1 v0) (wb := oD y o2 d0) (As := [Value.ref (a 0), Value.int (xs (5 * kq + 1)), Value.ref o1]) (rest := []) hx hb hml hown hta zw_pass wd_28_4 (c_L_pass l hlt D y a cap clr t hom mov wm tb tf ts nw wf wt nb bw bl bi bb no od ow ol ork ob olf oco pn pb pm pcd pw pli (xs (5 * kq + 1)) hb8 hw ht o1 v0) hH hN hK hP hD hS hA rfl hl rfl (Nat.le_of_ble_eq_true rfl) ⟨Nat.le_of_ble_eq_true rfl, Nat.le_of_ble_eq_true rfl⟩ ⟨by show cells + 1 ≤ 3144; omega, by show slots + 6 ≤ 125590; omega⟩ dL_law_1800 (fun v w' H locs hq hP hD hS => ?_)
  rcases hq with ⟨hc1, v1, hv1, rfl, rfl⟩ | ⟨hc1, rfl, rfl⟩
  · refine lv_istore (lv' := [(6, Value.int 0), (0, Value.ref b), (1, Value.ref (a 0)), (2, Value.ref (a' 0)), (3, Value.ref o1), (4, Value.ref o2), (5, Value.int (nI (5 * kq)))]) hx hb dL_law_1803 hl (by decide) rfl (fun ls hl => ?_)
    refine lv_aload_n hx hb dL_law_1805 rfl (lv_at hl 3 rfl) ?_
    refine z_arg (i := 1) C0 (by omega) hL hS (lv_at hl 1 rfl) (lv_at hl 6 rfl) (by decide) dL_law_1806 dL_law_1807 dL_law_1809 dL_law_1810 dL_law_1811 ?_
    refine z_callVF (wa := []) (w1 := wM a' y mth (nI t) tb tf ts cap clr mov hom wm (nI nw) wf wt (nI nb) fr bw bl (nI no) od ow ol ork olf oco at_ aw mp mpl msh msl mwa mse) (wb := (wB a y cap clr (nI (t + nN (xs (5 * kq + 1)))) hom mov wm tb tf ts (nI nw) wf wt (nI nb) bw bl bi bb (nI no) od ow ol ork ob (pdF wf wt nw no t olf (nN (xs (5 * kq + 1)))) oco pn pb pm pcd pw pli ++ oL y o1 v1) ++ oD y o2 d0) (As := [Value.int (xs (5 * kq + 1))]) (rest := []) hx hb hml hown hta zm_X6_pass wd_28_15 (c_X6_pass l D y a' mth t tb tf ts cap clr mov hom wm nw wf wt nb fr bw bl no od ow ol ork olf oco at_ aw mp mpl msh msl mwa mse (xs (5 * kq + 1)) hb8 hw ht) hN hK hP hD hS hA 0 rfl rfl rfl hl rfl (Nat.le_of_ble_eq_true rfl) ⟨Nat.le_of_ble_eq_true rfl, Nat.le_of_ble_eq_true rfl⟩ ⟨by show cells + 1 + 0 ≤ 3144; omega, by show slots + 6 + 0 ≤ 125590; omega⟩ dL_law_1812 (fun v w' H locs hq hP hD hS => ?_)
    rcases hq with ⟨hm, rfl, rfl⟩ | ⟨hm, r9, rfl, rfl⟩
    · have hP := z_nil hP
      have hD := z_nilD hD
      obtain ⟨bv, hbv⟩ : ∃ z : Int32, z = nI (t + nN (xs (5 * kq + 1))) := ⟨_, rfl⟩
      refine zr_top (y := bv) hbv.symm ?_
      refine lv_istore (lv' := [(7, Value.int bv), (6, Value.int 0), (0, Value.ref b), (1, Value.ref (a 0)), (2, Value.ref (a' 0)), (3, Value.ref o1), (4, Value.ref o2), (5, Value.int (nI (5 * kq)))]) hx hb dL_law_1815 hl (by decide) rfl (fun ls hl => ?_)
      refine z_tail (P := 1817) C0 (c_X6_thrown l D y a' (0 : Int32) (t + nN (xs (5 * kq + 1))) tb tf ts cap clr mov hom wm nw wf wt nb fr bw bl no od ow ol ork (pdF wf wt nw no t olf (nN (xs (5 * kq + 1)))) oco at_ aw mp mpl msh msl mwa mse) rfl hP hD hS hl (lv_at hl 4 rfl) (lv_at hl 1 rfl) (lv_at hl 5 rfl) (lv_at hl 0 rfl) (rfl) (fun _ => hv1.trans (congrArg Int32.toInt64 (hbv.symm))) ⟨by show cells + 1 + 0 ≤ 3144; omega, by show slots + 6 + 0 ≤ 125590; omega⟩ dL_law_1817 dL_law_1818 dL_law_1821 dL_law_1823 dL_law_1828 dL_law_1830 dL_law_1833 dL_law_1834 dL_law_1835 dL_law_1836 dL_law_1838 dL_law_1839 dL_law_1840 dL_law_1845 (by decide) (fun H locs hP hD hS => ?_)
      refine W.widen (k := cells + 3) (n := slots + 18) (by omega) (by omega) ?_
      exact kk cap clr (t + nN (xs (5 * kq + 1))) hom mov wm tb tf ts nw wf wt nb bw bl bi bb no od ow ol ork ob (pdF wf wt nw no t olf (nN (xs (5 * kq + 1)))) oco pn pb pm pcd pw pli (0 : Int32) fr at_ aw mp mpl msh msl mwa mse _ _ _ _ _ (rel_pass hR hc1) hP hD hS (lv_sub hl [2, 3, 4, 5, 6, 7] rfl)
    · exact absurd (hc1) hm
  · refine lv_istore (lv' := [(6, Value.int (nI (psC t (xs (5 * kq + 1))))), (0, Value.ref b), (1, Value.ref (a 0)), (2, Value.ref (a' 0)), (3, Value.ref o1), (4, Value.ref o2), (5, Value.int (nI (5 * kq)))]) hx hb dL_law_1803 hl (by decide) rfl (fun ls hl => ?_)
    refine lv_aload_n hx hb dL_law_1805 rfl (lv_at hl 3 rfl) ?_
    refine z_arg (i := 1) C0 (by omega) hL hS (lv_at hl 1 rfl) (lv_at hl 6 rfl) (by decide) dL_law_1806 dL_law_1807 dL_law_1809 dL_law_1810 dL_law_1811 ?_
    refine z_callVF (wa := []) (w1 := wM a' y mth (nI t) tb tf ts cap clr mov hom wm (nI nw) wf wt (nI nb) fr bw bl (nI no) od ow ol ork olf oco at_ aw mp mpl msh msl mwa mse) (wb := (wB a y cap clr (nI t) hom mov wm tb tf ts (nI nw) wf wt (nI nb) bw bl bi bb (nI no) od ow ol ork ob olf oco pn pb pm pcd pw pli ++ oL y o1 v0) ++ oD y o2 d0) (As := [Value.int (xs (5 * kq + 1))]) (rest := []) hx hb hml hown hta zm_X6_pass wd_28_15 (c_X6_pass l D y a' mth t tb tf ts cap clr mov hom wm nw wf wt nb fr bw bl no od ow ol ork olf oco at_ aw mp mpl msh msl mwa mse (xs (5 * kq + 1)) hb8 hw ht) hN hK hP hD hS hA 0 rfl rfl rfl hl rfl (Nat.le_of_ble_eq_true rfl) ⟨Nat.le_of_ble_eq_true rfl, Nat.le_of_ble_eq_true rfl⟩ ⟨by show cells + 1 + 0 ≤ 3144; omega, by show slots + 6 + 0 ≤ 125590; omega⟩ dL_law_1812 (fun v w' H locs hq hP hD hS => ?_)
    rcases hq with ⟨hm, rfl, rfl⟩ | ⟨hm, r9, rfl, rfl⟩
    · exact absurd (hm) hc1
    · have hP := z_nil hP
      have hD := z_nilD hD
      refine lv_istore (lv' := [(7, Value.int r9), (6, Value.int (nI (psC t (xs (5 * kq + 1))))), (0, Value.ref b), (1, Value.ref (a 0)), (2, Value.ref (a' 0)), (3, Value.ref o1), (4, Value.ref o2), (5, Value.int (nI (5 * kq)))]) hx hb dL_law_1815 hl (by decide) rfl (fun ls hl => ?_)
      refine z_tail (P := 1817) C0 (c_X6_thrown l D y a' (nI (psC t (xs (5 * kq + 1)))) t tb tf ts cap clr mov hom wm nw wf wt nb fr bw bl no od ow ol ork olf oco at_ aw mp mpl msh msl mwa mse) rfl hP hD hS hl (lv_at hl 4 rfl) (lv_at hl 1 rfl) (lv_at hl 5 rfl) (lv_at hl 0 rfl) (rfl) (fun z => absurd z (nI_n0 hc1 c4_psC)) ⟨by show cells + 1 + 0 ≤ 3144; omega, by show slots + 6 + 0 ≤ 125590; omega⟩ dL_law_1817 dL_law_1818 dL_law_1821 dL_law_1823 dL_law_1828 dL_law_1830 dL_law_1833 dL_law_1834 dL_law_1835 dL_law_1836 dL_law_1838 dL_law_1839 dL_law_1840 dL_law_1845 (by decide) (fun H locs hP hD hS => ?_)
      refine W.widen (k := cells + 3) (n := slots + 18) (by omega) (by omega) ?_
      exact kk cap clr t hom mov wm tb tf ts nw wf wt nb bw bl bi bb no od ow ol ork ob olf oco pn pb pm pcd pw pli (nI (psC t (xs (5 * kq + 1)))) fr at_ aw mp mpl msh msl mwa mse _ _ _ _ _ (hR) hP hD hS (lv_sub hl [2, 3, 4, 5, 6, 7] rfl)
