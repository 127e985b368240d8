set_option maxHeartbeats 1600000 in
set_option maxRecDepth 100000 in
theorem lc_0 {p : Program} {l : Launch} {e : Env} {s : State} {m : MethodId} {below : List Frame} {meth : Method} {c : Code} {D : va_G} {y : Nat → ClassId} {b L : Nat} {xs : Nat → Int32} {a a' : Nat → Nat} {o1 o2 kq cells slots : Nat} {G : State → Prop} (hlt : l.stackTraces = false) (C0 : LC p s m meth c b L xs D y) (hk : 5 * kq + 5 ≤ L) (hL : L ≤ 2560) (hc : cells + 3 ≤ 3144 ∧ slots + 18 ≤ 125590) (kk : LawK p l e s m below meth c D y b a a' o1 o2 kq (cells + 3) (slots + 18) 2118 G) : LawK p l e s m below meth c D y b a a' o1 o2 kq cells slots 192 G := by
  intro cap clr t hom mov wm tb tf ts nw wf wt nb bw bl bi bb no od ow ol ork ob olf oco pn pb pm pcd pw pli mth fr at_ aw mp mpl msh msl mwa mse v0 d0 H locs ls hR hP hD hS hl
  have C1 := C0
  obtain ⟨hx, hb, hr, hml, hown, hta, hX, hbl, hlocks, hN, hH, hK⟩ := C1
  have hA : ∀ q, s.heap.size ≤ q → lwA s q := fun _ h => h
  have hb8 := hR.1.2.2.2
  have hb6 := hR.1.2.2.1
  have hw := hR.1.2.1
  have ht := hR.1.1
  have hsp := hR.2.1
  have hol := hR.2.2.1
  have hfr := fr_hfr (rel_fr hR)
  have hat := (rel_va hR).1
  refine lv_aload_n hx hb dL_law_192 rfl (lv_at hl 1 rfl) ?_
  refine z_arg (i := 1) C0 (by omega) hL hS (lv_at hl 0 rfl) (lv_at hl 5 rfl) (by decide) dL_law_193 dL_law_194 dL_law_196 dL_law_197 dL_law_198 ?_
  refine z_arg (i := 2) C0 (by omega) hL hS (lv_at hl 0 rfl) (lv_at hl 5 rfl) (by decide) dL_law_199 dL_law_200 dL_law_202 dL_law_203 dL_law_204 ?_
  refine z_arg (i := 3) C0 (by omega) hL hS (lv_at hl 0 rfl) (lv_at hl 5 rfl) (by decide) dL_law_205 dL_law_206 dL_law_208 dL_law_209 dL_law_210 ?_
  refine lv_aload_n hx hb dL_law_211 rfl (lv_at hl 3 rfl) ?_
  refine z_callWr (wa := wM a' y mth (nI t) tb tf ts cap clr mov hom wm (nI nw) wf wt (nI nb) fr bw bl (nI no) od ow ol ork olf oco at_ aw mp mpl msh msl mwa mse) (w1 := wB a y cap clr (nI t) hom mov wm tb tf ts (nI nw) wf wt (nI nb) bw bl bi bb (nI no) od ow ol ork ob olf oco pn pb pm pcd pw pli ++ oL y o1 v0) (wb := oD y o2 d0) (As := [Value.ref (a 0), Value.int (xs (5 * kq + 1)), Value.int (xs (5 * kq + 2)), Value.int (xs (5 * kq + 3)), Value.ref o1]) (rest := []) hx hb hml hown hta zw_addBerth wd_5_14 (c_L_addBerth l hlt D y a cap clr t hom mov wm tb tf ts nw wf wt nb bw bl bi bb no od ow ol ork ob olf oco pn pb pm pcd pw pli (xs (5 * kq + 1)) (xs (5 * kq + 2)) (xs (5 * kq + 3)) hb6 o1 v0) hH hN hK hP hD hS hA rfl hl rfl (Nat.le_of_ble_eq_true rfl) ⟨Nat.le_of_ble_eq_true rfl, Nat.le_of_ble_eq_true rfl⟩ ⟨by show cells + 1 ≤ 3144; omega, by show slots + 6 ≤ 125590; omega⟩ dL_law_212 (fun v w' H locs hq hP hD hS => ?_)
  rcases hq with ⟨hc1, v1, hv1, rfl, rfl⟩ | ⟨hc1, rfl, rfl⟩
  · refine lv_istore (lv' := [(6, Value.int 0), (0, Value.ref b), (1, Value.ref (a 0)), (2, Value.ref (a' 0)), (3, Value.ref o1), (4, Value.ref o2), (5, Value.int (nI (5 * kq)))]) hx hb dL_law_215 hl (by decide) rfl (fun ls hl => ?_)
    refine lv_aload_n hx hb dL_law_217 rfl (lv_at hl 3 rfl) ?_
    refine z_arg (i := 1) C0 (by omega) hL hS (lv_at hl 1 rfl) (lv_at hl 6 rfl) (by decide) dL_law_218 dL_law_219 dL_law_221 dL_law_222 dL_law_223 ?_
    refine z_arg (i := 2) C0 (by omega) hL hS (lv_at hl 1 rfl) (lv_at hl 6 rfl) (by decide) dL_law_224 dL_law_225 dL_law_227 dL_law_228 dL_law_229 ?_
    refine z_arg (i := 3) C0 (by omega) hL hS (lv_at hl 1 rfl) (lv_at hl 6 rfl) (by decide) dL_law_230 dL_law_231 dL_law_233 dL_law_234 dL_law_235 ?_
    refine z_callVF (wa := []) (w1 := wM a' y mth (nI t) tb tf ts cap clr mov hom wm (nI nw) wf wt (nI nb) fr bw bl (nI no) od ow ol ork olf oco at_ aw mp mpl msh msl mwa mse) (wb := (wB a y cap clr (nI t) hom mov wm tb tf ts (nI nw) wf wt (nI (nb + 1)) (upd bw nb (xs (5 * kq + 2))) (upd bl nb (xs (5 * kq + 3))) (upd bi nb (biF bi nb (xs (5 * kq + 1)))) (upd bb nb (-1 : Int32)) (nI no) od ow ol ork ob olf oco pn pb pm pcd pw pli ++ oL y o1 v1) ++ oD y o2 d0) (As := [Value.int (xs (5 * kq + 1)), Value.int (xs (5 * kq + 2)), Value.int (xs (5 * kq + 3))]) (rest := []) hx hb hml hown hta zm_X6_addBerth wd_6_20 (c_X6_addBerth l D y a' mth t tb tf ts cap clr mov hom wm nw wf wt nb fr bw bl no od ow ol ork olf oco at_ aw mp mpl msh msl mwa mse (xs (5 * kq + 1)) (xs (5 * kq + 2)) (xs (5 * kq + 3)) hb6) hN hK hP hD hS hA 0 rfl rfl rfl hl rfl (Nat.le_of_ble_eq_true rfl) ⟨Nat.le_of_ble_eq_true rfl, Nat.le_of_ble_eq_true rfl⟩ ⟨by show cells + 1 + 0 ≤ 3144; omega, by show slots + 6 + 0 ≤ 125590; omega⟩ dL_law_236 (fun v w' H locs hq hP hD hS => ?_)
    rcases hq with ⟨hm, rfl, rfl⟩ | ⟨hm, r9, rfl, rfl⟩
    · have hP := z_nil hP
      have hD := z_nilD hD
      obtain ⟨bv, hbv⟩ : ∃ z : Int32, z = nI nb := ⟨_, rfl⟩
      refine zr_top (y := bv) hbv.symm ?_
      refine lv_istore (lv' := [(7, Value.int bv), (6, Value.int 0), (0, Value.ref b), (1, Value.ref (a 0)), (2, Value.ref (a' 0)), (3, Value.ref o1), (4, Value.ref o2), (5, Value.int (nI (5 * kq)))]) hx hb dL_law_239 hl (by decide) rfl (fun ls hl => ?_)
      refine z_tail (P := 241) C0 (c_X6_thrown l D y a' (0 : Int32) t tb tf ts cap clr mov hom wm nw wf wt (nb + 1) (upd fr nb (xs (5 * kq + 1))) (upd bw nb (xs (5 * kq + 2))) (upd bl nb (xs (5 * kq + 3))) no od ow ol ork olf oco at_ aw mp mpl msh msl mwa mse) rfl hP hD hS hl (lv_at hl 4 rfl) (lv_at hl 1 rfl) (lv_at hl 5 rfl) (lv_at hl 0 rfl) (rfl) (fun _ => hv1.trans (congrArg Int32.toInt64 (hbv.symm))) ⟨by show cells + 1 + 0 ≤ 3144; omega, by show slots + 6 + 0 ≤ 125590; omega⟩ dL_law_241 dL_law_242 dL_law_245 dL_law_247 dL_law_252 dL_law_254 dL_law_257 dL_law_258 dL_law_259 dL_law_260 dL_law_262 dL_law_263 dL_law_264 dL_law_269 (by decide) (fun H locs hP hD hS => ?_)
      refine W.widen (k := cells + 3) (n := slots + 18) (by omega) (by omega) ?_
      exact kk cap clr t hom mov wm tb tf ts nw wf wt (nb + 1) (upd bw nb (xs (5 * kq + 2))) (upd bl nb (xs (5 * kq + 3))) (upd bi nb (biF bi nb (xs (5 * kq + 1)))) (upd bb nb (-1 : Int32)) no od ow ol ork ob olf oco pn pb pm pcd pw pli (0 : Int32) (upd fr nb (xs (5 * kq + 1))) at_ aw mp mpl msh msl mwa mse _ _ _ _ _ (rel_addBerth hR hc1) hP hD hS (lv_sub hl [2, 3, 4, 5, 6, 7] rfl)
    · exact absurd (hc1) hm
  · refine lv_istore (lv' := [(6, Value.int (nI (abC nb (xs (5 * kq + 1)) (xs (5 * kq + 2)) (xs (5 * kq + 3))))), (0, Value.ref b), (1, Value.ref (a 0)), (2, Value.ref (a' 0)), (3, Value.ref o1), (4, Value.ref o2), (5, Value.int (nI (5 * kq)))]) hx hb dL_law_215 hl (by decide) rfl (fun ls hl => ?_)
    refine lv_aload_n hx hb dL_law_217 rfl (lv_at hl 3 rfl) ?_
    refine z_arg (i := 1) C0 (by omega) hL hS (lv_at hl 1 rfl) (lv_at hl 6 rfl) (by decide) dL_law_218 dL_law_219 dL_law_221 dL_law_222 dL_law_223 ?_
    refine z_arg (i := 2) C0 (by omega) hL hS (lv_at hl 1 rfl) (lv_at hl 6 rfl) (by decide) dL_law_224 dL_law_225 dL_law_227 dL_law_228 dL_law_229 ?_
    refine z_arg (i := 3) C0 (by omega) hL hS (lv_at hl 1 rfl) (lv_at hl 6 rfl) (by decide) dL_law_230 dL_law_231 dL_law_233 dL_law_234 dL_law_235 ?_
    refine z_callVF (wa := []) (w1 := wM a' y mth (nI t) tb tf ts cap clr mov hom wm (nI nw) wf wt (nI nb) fr bw bl (nI no) od ow ol ork olf oco at_ aw mp mpl msh msl mwa mse) (wb := (wB a y cap clr (nI t) hom mov wm tb tf ts (nI nw) wf wt (nI nb) bw bl bi bb (nI no) od ow ol ork ob olf oco pn pb pm pcd pw pli ++ oL y o1 v0) ++ oD y o2 d0) (As := [Value.int (xs (5 * kq + 1)), Value.int (xs (5 * kq + 2)), Value.int (xs (5 * kq + 3))]) (rest := []) hx hb hml hown hta zm_X6_addBerth wd_6_20 (c_X6_addBerth l D y a' mth t tb tf ts cap clr mov hom wm nw wf wt nb fr bw bl no od ow ol ork olf oco at_ aw mp mpl msh msl mwa mse (xs (5 * kq + 1)) (xs (5 * kq + 2)) (xs (5 * kq + 3)) hb6) hN hK hP hD hS hA 0 rfl rfl rfl hl rfl (Nat.le_of_ble_eq_true rfl) ⟨Nat.le_of_ble_eq_true rfl, Nat.le_of_ble_eq_true rfl⟩ ⟨by show cells + 1 + 0 ≤ 3144; omega, by show slots + 6 + 0 ≤ 125590; omega⟩ dL_law_236 (fun v w' H locs hq hP hD hS => ?_)
    rcases hq with ⟨hm, rfl, rfl⟩ | ⟨hm, r9, rfl, rfl⟩
    · exact absurd (hm) hc1
    · have hP := z_nil hP
      have hD := z_nilD hD
      refine lv_istore (lv' := [(7, Value.int r9), (6, Value.int (nI (abC nb (xs (5 * kq + 1)) (xs (5 * kq + 2)) (xs (5 * kq + 3))))), (0, Value.ref b), (1, Value.ref (a 0)), (2, Value.ref (a' 0)), (3, Value.ref o1), (4, Value.ref o2), (5, Value.int (nI (5 * kq)))]) hx hb dL_law_239 hl (by decide) rfl (fun ls hl => ?_)
      refine z_tail (P := 241) C0 (c_X6_thrown l D y a' (nI (abC nb (xs (5 * kq + 1)) (xs (5 * kq + 2)) (xs (5 * kq + 3)))) t tb tf ts cap clr mov hom wm nw wf wt nb fr bw bl no od ow ol ork olf oco at_ aw mp mpl msh msl mwa mse) rfl hP hD hS hl (lv_at hl 4 rfl) (lv_at hl 1 rfl) (lv_at hl 5 rfl) (lv_at hl 0 rfl) (rfl) (fun z => absurd z (nI_n0 hc1 c4_abC)) ⟨by show cells + 1 + 0 ≤ 3144; omega, by show slots + 6 + 0 ≤ 125590; omega⟩ dL_law_241 dL_law_242 dL_law_245 dL_law_247 dL_law_252 dL_law_254 dL_law_257 dL_law_258 dL_law_259 dL_law_260 dL_law_262 dL_law_263 dL_law_264 dL_law_269 (by decide) (fun H locs hP hD hS => ?_)
      refine W.widen (k := cells + 3) (n := slots + 18) (by omega) (by omega) ?_
      exact kk cap clr t hom mov wm tb tf ts nw wf wt nb bw bl bi bb no od ow ol ork ob olf oco pn pb pm pcd pw pli (nI (abC nb (xs (5 * kq + 1)) (xs (5 * kq + 2)) (xs (5 * kq + 3)))) fr at_ aw mp mpl msh msl mwa mse _ _ _ _ _ (hR) hP hD hS (lv_sub hl [2, 3, 4, 5, 6, 7] rfl)
set_option maxHeartbeats 1600000 in
set_option maxRecDepth 100000 in
theorem lc_1 {p : Program} {l : Launch} {e : Env} {s : State} {m : MethodId} {below : List Frame} {meth : Method} {c : Code} {D : va_G} {y : Nat → ClassId} {b L : Nat} {xs : Nat → Int32} {a a' : Nat → Nat} {o1 o2 kq cells slots : Nat} {G : State → Prop} (hlt : l.stackTraces = false) (C0 : LC p s m meth c b L xs D y) (hk : 5 * kq + 5 ≤ L) (hL : L ≤ 2560) (hc : cells + 3 ≤ 3144 ∧ slots + 18 ≤ 125590) (kk : LawK p l e s m below meth c D y b a a' o1 o2 kq (cells + 3) (slots + 18) 2118 G) : LawK p l e s m below meth c D y b a a' o1 o2 kq cells slots 272 G := by
  intro cap clr t hom mov wm tb tf ts nw wf wt nb bw bl bi bb no od ow ol ork ob olf oco pn pb pm pcd pw pli mth fr at_ aw mp mpl msh msl mwa mse v0 d0 H locs ls hR hP hD hS hl
  have C1 := C0
  obtain ⟨hx, hb, hr, hml, hown, hta, hX, hbl, hlocks, hN, hH, hK⟩ := C1
  have hA : ∀ q, s.heap.size ≤ q → lwA s q := fun _ h => h
  have hb8 := hR.1.2.2.2
  have hb6 := hR.1.2.2.1
  have hw := hR.1.2.1
  have ht := hR.1.1
  have hsp := hR.2.1
  have hol := hR.2.2.1
  have hfr := fr_hfr (rel_fr hR)
  have hat := (rel_va hR).1
  refine lv_aload_n hx hb dL_law_272 rfl (lv_at hl 1 rfl) ?_
  refine z_arg (i := 1) C0 (by omega) hL hS (lv_at hl 0 rfl) (lv_at hl 5 rfl) (by decide) dL_law_273 dL_law_274 dL_law_276 dL_law_277 dL_law_278 ?_
  refine z_arg (i := 2) C0 (by omega) hL hS (lv_at hl 0 rfl) (lv_at hl 5 rfl) (by decide) dL_law_279 dL_law_280 dL_law_282 dL_law_283 dL_law_284 ?_
  refine z_arg (i := 3) C0 (by omega) hL hS (lv_at hl 0 rfl) (lv_at hl 5 rfl) (by decide) dL_law_285 dL_law_286 dL_law_288 dL_law_289 dL_law_290 ?_
  refine z_arg (i := 4) C0 (by omega) hL hS (lv_at hl 0 rfl) (lv_at hl 5 rfl) (by decide) dL_law_291 dL_law_292 dL_law_294 dL_law_295 dL_law_296 ?_
  refine lv_aload_n hx hb dL_law_297 rfl (lv_at hl 3 rfl) ?_
  refine z_callWr (wa := wM a' y mth (nI t) tb tf ts cap clr mov hom wm (nI nw) wf wt (nI nb) fr bw bl (nI no) od ow ol ork olf oco at_ aw mp mpl msh msl mwa mse) (w1 := wB a y cap clr (nI t) hom mov wm tb tf ts (nI nw) wf wt (nI nb) bw bl bi bb (nI no) od ow ol ork ob olf oco pn pb pm pcd pw pli ++ oL y o1 v0) (wb := oD y o2 d0) (As := [Value.ref (a 0), Value.int (xs (5 * kq + 1)), Value.int (xs (5 * kq + 2)), Value.int (xs (5 * kq + 3)), Value.int (xs (5 * kq + 4)), Value.ref o1]) (rest := []) hx hb hml hown hta zw_addBoat wd_7_21 (c_L_addBoat l hlt D y a cap clr t hom mov wm tb tf ts nw wf wt nb bw bl bi bb no od ow ol ork ob olf oco pn pb pm pcd pw pli (xs (5 * kq + 1)) (xs (5 * kq + 2)) (xs (5 * kq + 3)) (xs (5 * kq + 4)) hb8 o1 v0) hH hN hK hP hD hS hA rfl hl rfl (Nat.le_of_ble_eq_true rfl) ⟨Nat.le_of_ble_eq_true rfl, Nat.le_of_ble_eq_true rfl⟩ ⟨by show cells + 1 ≤ 3144; omega, by show slots + 6 ≤ 125590; omega⟩ dL_law_298 (fun v w' H locs hq hP hD hS => ?_)
  rcases hq with ⟨hc1, v1, hv1, rfl, rfl⟩ | ⟨hc1, rfl, rfl⟩
  · refine lv_istore (lv' := [(6, Value.int 0), (0, Value.ref b), (1, Value.ref (a 0)), (2, Value.ref (a' 0)), (3, Value.ref o1), (4, Value.ref o2), (5, Value.int (nI (5 * kq)))]) hx hb dL_law_301 hl (by decide) rfl (fun ls hl => ?_)
    refine lv_aload_n hx hb dL_law_303 rfl (lv_at hl 3 rfl) ?_
    refine z_arg (i := 1) C0 (by omega) hL hS (lv_at hl 1 rfl) (lv_at hl 6 rfl) (by decide) dL_law_304 dL_law_305 dL_law_307 dL_law_308 dL_law_309 ?_
    refine z_arg (i := 2) C0 (by omega) hL hS (lv_at hl 1 rfl) (lv_at hl 6 rfl) (by decide) dL_law_310 dL_law_311 dL_law_313 dL_law_314 dL_law_315 ?_
    refine z_arg (i := 3) C0 (by omega) hL hS (lv_at hl 1 rfl) (lv_at hl 6 rfl) (by decide) dL_law_316 dL_law_317 dL_law_319 dL_law_320 dL_law_321 ?_
    refine z_arg (i := 4) C0 (by omega) hL hS (lv_at hl 1 rfl) (lv_at hl 6 rfl) (by decide) dL_law_322 dL_law_323 dL_law_325 dL_law_326 dL_law_327 ?_
    refine z_callVF (wa := []) (w1 := wM a' y mth (nI t) tb tf ts cap clr mov hom wm (nI nw) wf wt (nI nb) fr bw bl (nI no) od ow ol ork olf oco at_ aw mp mpl msh msl mwa mse) (wb := (wB a y cap clr (nI t) hom mov wm tb tf ts (nI nw) wf wt (nI nb) bw bl bi bb (nI (no + 1)) (upd od no (xs (5 * kq + 1))) (upd ow no (xs (5 * kq + 2))) (upd ol no (xs (5 * kq + 3))) (upd ork no (xs (5 * kq + 4))) (upd ob no (-1 : Int32)) olf oco pn pb pm pcd pw pli ++ oL y o1 v1) ++ oD y o2 d0) (As := [Value.int (xs (5 * kq + 1)), Value.int (xs (5 * kq + 2)), Value.int (xs (5 * kq + 3)), Value.int (xs (5 * kq + 4))]) (rest := []) hx hb hml hown hta zm_X6_addBoat wd_8_9 (c_X6_addBoat l D y a' mth t tb tf ts cap clr mov hom wm nw wf wt nb fr bw bl no od ow ol ork olf oco at_ aw mp mpl msh msl mwa mse (xs (5 * kq + 1)) (xs (5 * kq + 2)) (xs (5 * kq + 3)) (xs (5 * kq + 4)) hb8) hN hK hP hD hS hA 0 rfl rfl rfl hl rfl (Nat.le_of_ble_eq_true rfl) ⟨Nat.le_of_ble_eq_true rfl, Nat.le_of_ble_eq_true rfl⟩ ⟨by show cells + 1 + 0 ≤ 3144; omega, by show slots + 6 + 0 ≤ 125590; omega⟩ dL_law_328 (fun v w' H locs hq hP hD hS => ?_)
    rcases hq with ⟨hm, rfl, rfl⟩ | ⟨hm, r9, rfl, rfl⟩
    · have hP := z_nil hP
      have hD := z_nilD hD
      obtain ⟨bv, hbv⟩ : ∃ z : Int32, z = nI no := ⟨_, rfl⟩
      refine zr_top (y := bv) hbv.symm ?_
      refine lv_istore (lv' := [(7, Value.int bv), (6, Value.int 0), (0, Value.ref b), (1, Value.ref (a 0)), (2, Value.ref (a' 0)), (3, Value.ref o1), (4, Value.ref o2), (5, Value.int (nI (5 * kq)))]) hx hb dL_law_331 hl (by decide) rfl (fun ls hl => ?_)
      refine z_tail (P := 333) C0 (c_X6_thrown l D y a' (0 : Int32) t tb tf ts cap clr mov hom wm nw wf wt nb fr bw bl (no + 1) (upd od no (xs (5 * kq + 1))) (upd ow no (xs (5 * kq + 2))) (upd ol no (xs (5 * kq + 3))) (upd ork no (xs (5 * kq + 4))) olf oco (upd at_ no (-1 : Int32)) aw mp mpl msh msl mwa mse) rfl hP hD hS hl (lv_at hl 4 rfl) (lv_at hl 1 rfl) (lv_at hl 5 rfl) (lv_at hl 0 rfl) (rfl) (fun _ => hv1.trans (congrArg Int32.toInt64 (hbv.symm))) ⟨by show cells + 1 + 0 ≤ 3144; omega, by show slots + 6 + 0 ≤ 125590; omega⟩ dL_law_333 dL_law_334 dL_law_337 dL_law_339 dL_law_344 dL_law_346 dL_law_349 dL_law_350 dL_law_351 dL_law_352 dL_law_354 dL_law_355 dL_law_356 dL_law_361 (by decide) (fun H locs hP hD hS => ?_)
      refine W.widen (k := cells + 3) (n := slots + 18) (by omega) (by omega) ?_
      exact kk cap clr t hom mov wm tb tf ts nw wf wt nb bw bl bi bb (no + 1) (upd od no (xs (5 * kq + 1))) (upd ow no (xs (5 * kq + 2))) (upd ol no (xs (5 * kq + 3))) (upd ork no (xs (5 * kq + 4))) (upd ob no (-1 : Int32)) olf oco pn pb pm pcd pw pli (0 : Int32) fr (upd at_ no (-1 : Int32)) aw mp mpl msh msl mwa mse _ _ _ _ _ (rel_addBoat hR hc1) hP hD hS (lv_sub hl [2, 3, 4, 5, 6, 7] rfl)
    · exact absurd (hc1) hm
  · refine lv_istore (lv' := [(6, Value.int (nI (aoC no (xs (5 * kq + 1)) (xs (5 * kq + 2)) (xs (5 * kq + 3)) (xs (5 * kq + 4))))), (0, Value.ref b), (1, Value.ref (a 0)), (2, Value.ref (a' 0)), (3, Value.ref o1), (4, Value.ref o2), (5, Value.int (nI (5 * kq)))]) hx hb dL_law_301 hl (by decide) rfl (fun ls hl => ?_)
    refine lv_aload_n hx hb dL_law_303 rfl (lv_at hl 3 rfl) ?_
    refine z_arg (i := 1) C0 (by omega) hL hS (lv_at hl 1 rfl) (lv_at hl 6 rfl) (by decide) dL_law_304 dL_law_305 dL_law_307 dL_law_308 dL_law_309 ?_
    refine z_arg (i := 2) C0 (by omega) hL hS (lv_at hl 1 rfl) (lv_at hl 6 rfl) (by decide) dL_law_310 dL_law_311 dL_law_313 dL_law_314 dL_law_315 ?_
    refine z_arg (i := 3) C0 (by omega) hL hS (lv_at hl 1 rfl) (lv_at hl 6 rfl) (by decide) dL_law_316 dL_law_317 dL_law_319 dL_law_320 dL_law_321 ?_
    refine z_arg (i := 4) C0 (by omega) hL hS (lv_at hl 1 rfl) (lv_at hl 6 rfl) (by decide) dL_law_322 dL_law_323 dL_law_325 dL_law_326 dL_law_327 ?_
    refine z_callVF (wa := []) (w1 := wM a' y mth (nI t) tb tf ts cap clr mov hom wm (nI nw) wf wt (nI nb) fr bw bl (nI no) od ow ol ork olf oco at_ aw mp mpl msh msl mwa mse) (wb := (wB a y cap clr (nI t) hom mov wm tb tf ts (nI nw) wf wt (nI nb) bw bl bi bb (nI no) od ow ol ork ob olf oco pn pb pm pcd pw pli ++ oL y o1 v0) ++ oD y o2 d0) (As := [Value.int (xs (5 * kq + 1)), Value.int (xs (5 * kq + 2)), Value.int (xs (5 * kq + 3)), Value.int (xs (5 * kq + 4))]) (rest := []) hx hb hml hown hta zm_X6_addBoat wd_8_9 (c_X6_addBoat l D y a' mth t tb tf ts cap clr mov hom wm nw wf wt nb fr bw bl no od ow ol ork olf oco at_ aw mp mpl msh msl mwa mse (xs (5 * kq + 1)) (xs (5 * kq + 2)) (xs (5 * kq + 3)) (xs (5 * kq + 4)) hb8) hN hK hP hD hS hA 0 rfl rfl rfl hl rfl (Nat.le_of_ble_eq_true rfl) ⟨Nat.le_of_ble_eq_true rfl, Nat.le_of_ble_eq_true rfl⟩ ⟨by show cells + 1 + 0 ≤ 3144; omega, by show slots + 6 + 0 ≤ 125590; omega⟩ dL_law_328 (fun v w' H locs hq hP hD hS => ?_)
    rcases hq with ⟨hm, rfl, rfl⟩ | ⟨hm, r9, rfl, rfl⟩
    · exact absurd (hm) hc1
    · have hP := z_nil hP
      have hD := z_nilD hD
      refine lv_istore (lv' := [(7, Value.int r9), (6, Value.int (nI (aoC no (xs (5 * kq + 1)) (xs (5 * kq + 2)) (xs (5 * kq + 3)) (xs (5 * kq + 4))))), (0, Value.ref b), (1, Value.ref (a 0)), (2, Value.ref (a' 0)), (3, Value.ref o1), (4, Value.ref o2), (5, Value.int (nI (5 * kq)))]) hx hb dL_law_331 hl (by decide) rfl (fun ls hl => ?_)
      refine z_tail (P := 333) C0 (c_X6_thrown l D y a' (nI (aoC no (xs (5 * kq + 1)) (xs (5 * kq + 2)) (xs (5 * kq + 3)) (xs (5 * kq + 4)))) t tb tf ts cap clr mov hom wm nw wf wt nb fr bw bl no od ow ol ork olf oco at_ aw mp mpl msh msl mwa mse) rfl hP hD hS hl (lv_at hl 4 rfl) (lv_at hl 1 rfl) (lv_at hl 5 rfl) (lv_at hl 0 rfl) (rfl) (fun z => absurd z (nI_n0 hc1 c4_aoC)) ⟨by show cells + 1 + 0 ≤ 3144; omega, by show slots + 6 + 0 ≤ 125590; omega⟩ dL_law_333 dL_law_334 dL_law_337 dL_law_339 dL_law_344 dL_law_346 dL_law_349 dL_law_350 dL_law_351 dL_law_352 dL_law_354 dL_law_355 dL_law_356 dL_law_361 (by decide) (fun H locs hP hD hS => ?_)
      refine W.widen (k := cells + 3) (n := slots + 18) (by omega) (by omega) ?_
      exact kk cap clr t hom mov wm tb tf ts nw wf wt nb bw bl bi bb no od ow ol ork ob olf oco pn pb pm pcd pw pli (nI (aoC no (xs (5 * kq + 1)) (xs (5 * kq + 2)) (xs (5 * kq + 3)) (xs (5 * kq + 4)))) fr at_ aw mp mpl msh msl mwa mse _ _ _ _ _ (hR) hP hD hS (lv_sub hl [2, 3, 4, 5, 6, 7] rfl)
set_option maxHeartbeats 1600000 in
set_option maxRecDepth 100000 in
theorem lc_2 {p : Program} {l : Launch} {e : Env} {s : State} {m : MethodId} {below : List Frame} {meth : Method} {c : Code} {D : va_G} {y : Nat → ClassId} {b L : Nat} {xs : Nat → Int32} {a a' : Nat → Nat} {o1 o2 kq cells slots : Nat} {G : State → Prop} (hlt : l.stackTraces = false) (C0 : LC p s m meth c b L xs D y) (hk : 5 * kq + 5 ≤ L) (hL : L ≤ 2560) (hc : cells + 3 ≤ 3144 ∧ slots + 18 ≤ 125590) (kk : LawK p l e s m below meth c D y b a a' o1 o2 kq (cells + 3) (slots + 18) 2118 G) : LawK p l e s m below meth c D y b a a' o1 o2 kq cells slots 364 G := by
  intro cap clr t hom mov wm tb tf ts nw wf wt nb bw bl bi bb no od ow ol ork ob olf oco pn pb pm pcd pw pli mth fr at_ aw mp mpl msh msl mwa mse v0 d0 H locs ls hR hP hD hS hl
  have C1 := C0
  obtain ⟨hx, hb, hr, hml, hown, hta, hX, hbl, hlocks, hN, hH, hK⟩ := C1
  have hA : ∀ q, s.heap.size ≤ q → lwA s q := fun _ h => h
  have hb8 := hR.1.2.2.2
  have hb6 := hR.1.2.2.1
  have hw := hR.1.2.1
  have ht := hR.1.1
  have hsp := hR.2.1
  have hol := hR.2.2.1
  have hfr := fr_hfr (rel_fr hR)
  have hat := (rel_va hR).1
  refine lv_aload_n hx hb dL_law_364 rfl (lv_at hl 1 rfl) ?_
  refine z_arg (i := 1) C0 (by omega) hL hS (lv_at hl 0 rfl) (lv_at hl 5 rfl) (by decide) dL_law_365 dL_law_366 dL_law_368 dL_law_369 dL_law_370 ?_
  refine z_arg (i := 2) C0 (by omega) hL hS (lv_at hl 0 rfl) (lv_at hl 5 rfl) (by decide) dL_law_371 dL_law_372 dL_law_374 dL_law_375 dL_law_376 ?_
  refine z_arg (i := 3) C0 (by omega) hL hS (lv_at hl 0 rfl) (lv_at hl 5 rfl) (by decide) dL_law_377 dL_law_378 dL_law_380 dL_law_381 dL_law_382 ?_
  refine lv_aload_n hx hb dL_law_383 rfl (lv_at hl 3 rfl) ?_
  refine z_callWr (wa := wM a' y mth (nI t) tb tf ts cap clr mov hom wm (nI nw) wf wt (nI nb) fr bw bl (nI no) od ow ol ork olf oco at_ aw mp mpl msh msl mwa mse) (w1 := wB a y cap clr (nI t) hom mov wm tb tf ts (nI nw) wf wt (nI nb) bw bl bi bb (nI no) od ow ol ork ob olf oco pn pb pm pcd pw pli ++ oL y o1 v0) (wb := oD y o2 d0) (As := [Value.ref (a 0), Value.int (xs (5 * kq + 1)), Value.int (xs (5 * kq + 2)), Value.int (xs (5 * kq + 3)), Value.ref o1]) (rest := []) hx hb hml hown hta zw_setTide wd_8_14 (c_L_setTide l hlt D y a cap clr t hom mov wm tb tf ts nw wf wt nb bw bl bi bb no od ow ol ork ob olf oco pn pb pm pcd pw pli (xs (5 * kq + 1)) (xs (5 * kq + 2)) (xs (5 * kq + 3)) o1 v0) hH hN hK hP hD hS hA rfl hl rfl (Nat.le_of_ble_eq_true rfl) ⟨Nat.le_of_ble_eq_true rfl, Nat.le_of_ble_eq_true rfl⟩ ⟨by show cells + 1 ≤ 3144; omega, by show slots + 6 ≤ 125590; omega⟩ dL_law_384 (fun v w' H locs hq hP hD hS => ?_)
  rcases hq with ⟨hc1, v1, hv1, rfl, rfl⟩ | ⟨hc1, rfl, rfl⟩
  · refine lv_istore (lv' := [(6, Value.int 0), (0, Value.ref b), (1, Value.ref (a 0)), (2, Value.ref (a' 0)), (3, Value.ref o1), (4, Value.ref o2), (5, Value.int (nI (5 * kq)))]) hx hb dL_law_387 hl (by decide) rfl (fun ls hl => ?_)
    refine lv_aload_n hx hb dL_law_389 rfl (lv_at hl 3 rfl) ?_
    refine z_arg (i := 1) C0 (by omega) hL hS (lv_at hl 1 rfl) (lv_at hl 6 rfl) (by decide) dL_law_390 dL_law_391 dL_law_393 dL_law_394 dL_law_395 ?_
    refine z_arg (i := 2) C0 (by omega) hL hS (lv_at hl 1 rfl) (lv_at hl 6 rfl) (by decide) dL_law_396 dL_law_397 dL_law_399 dL_law_400 dL_law_401 ?_
    refine z_arg (i := 3) C0 (by omega) hL hS (lv_at hl 1 rfl) (lv_at hl 6 rfl) (by decide) dL_law_402 dL_law_403 dL_law_405 dL_law_406 dL_law_407 ?_
    refine z_callVF (wa := []) (w1 := wM a' y mth (nI t) tb tf ts cap clr mov hom wm (nI nw) wf wt (nI nb) fr bw bl (nI no) od ow ol ork olf oco at_ aw mp mpl msh msl mwa mse) (wb := (wB a y cap clr (nI t) hom mov wm (xs (5 * kq + 1)) (xs (5 * kq + 2)) (xs (5 * kq + 3)) (nI nw) wf wt (nI nb) bw bl bi bb (nI no) od ow ol ork ob olf oco pn pb pm pcd pw pli ++ oL y o1 v1) ++ oD y o2 d0) (As := [Value.int (xs (5 * kq + 1)), Value.int (xs (5 * kq + 2)), Value.int (xs (5 * kq + 3))]) (rest := []) hx hb hml hown hta zm_X6_setTide wd_9_8 (c_X6_setTide l D y a' mth t tb tf ts cap clr mov hom wm nw wf wt nb fr bw bl no od ow ol ork olf oco at_ aw mp mpl msh msl mwa mse (xs (5 * kq + 1)) (xs (5 * kq + 2)) (xs (5 * kq + 3))) hN hK hP hD hS hA 0 rfl rfl rfl hl rfl (Nat.le_of_ble_eq_true rfl) ⟨Nat.le_of_ble_eq_true rfl, Nat.le_of_ble_eq_true rfl⟩ ⟨by show cells + 1 + 0 ≤ 3144; omega, by show slots + 6 + 0 ≤ 125590; omega⟩ dL_law_408 (fun v w' H locs hq hP hD hS => ?_)
    rcases hq with ⟨hm, rfl, rfl⟩ | ⟨hm, r9, rfl, rfl⟩
    · have hP := z_nil hP
      have hD := z_nilD hD
      obtain ⟨bv, hbv⟩ : ∃ z : Int32, z = lev (xs (5 * kq + 1)) (xs (5 * kq + 2)) (xs (5 * kq + 3)) (nI t) := ⟨_, rfl⟩
      refine zr_top (y := bv) hbv.symm ?_
      refine lv_istore (lv' := [(7, Value.int bv), (6, Value.int 0), (0, Value.ref b), (1, Value.ref (a 0)), (2, Value.ref (a' 0)), (3, Value.ref o1), (4, Value.ref o2), (5, Value.int (nI (5 * kq)))]) hx hb dL_law_411 hl (by decide) rfl (fun ls hl => ?_)
      refine z_tail (P := 413) C0 (c_X6_thrown l D y a' (0 : Int32) t (xs (5 * kq + 1)) (xs (5 * kq + 2)) (xs (5 * kq + 3)) cap clr mov hom wm nw wf wt nb fr bw bl no od ow ol ork olf oco at_ aw mp mpl msh msl mwa mse) rfl hP hD hS hl (lv_at hl 4 rfl) (lv_at hl 1 rfl) (lv_at hl 5 rfl) (lv_at hl 0 rfl) (rfl) (fun _ => hv1.trans (congrArg Int32.toInt64 (hbv.symm))) ⟨by show cells + 1 + 0 ≤ 3144; omega, by show slots + 6 + 0 ≤ 125590; omega⟩ dL_law_413 dL_law_414 dL_law_417 dL_law_419 dL_law_424 dL_law_426 dL_law_429 dL_law_430 dL_law_431 dL_law_432 dL_law_434 dL_law_435 dL_law_436 dL_law_441 (by decide) (fun H locs hP hD hS => ?_)
      refine W.widen (k := cells + 3) (n := slots + 18) (by omega) (by omega) ?_
      exact kk cap clr t hom mov wm (xs (5 * kq + 1)) (xs (5 * kq + 2)) (xs (5 * kq + 3)) nw wf wt nb bw bl bi bb no od ow ol ork ob olf oco pn pb pm pcd pw pli (0 : Int32) fr at_ aw mp mpl msh msl mwa mse _ _ _ _ _ (hR) hP hD hS (lv_sub hl [2, 3, 4, 5, 6, 7] rfl)
    · exact absurd (hc1) hm
  · refine lv_istore (lv' := [(6, Value.int (nI (stC (xs (5 * kq + 1)) (xs (5 * kq + 2)) (xs (5 * kq + 3))))), (0, Value.ref b), (1, Value.ref (a 0)), (2, Value.ref (a' 0)), (3, Value.ref o1), (4, Value.ref o2), (5, Value.int (nI (5 * kq)))]) hx hb dL_law_387 hl (by decide) rfl (fun ls hl => ?_)
    refine lv_aload_n hx hb dL_law_389 rfl (lv_at hl 3 rfl) ?_
    refine z_arg (i := 1) C0 (by omega) hL hS (lv_at hl 1 rfl) (lv_at hl 6 rfl) (by decide) dL_law_390 dL_law_391 dL_law_393 dL_law_394 dL_law_395 ?_
    refine z_arg (i := 2) C0 (by omega) hL hS (lv_at hl 1 rfl) (lv_at hl 6 rfl) (by decide) dL_law_396 dL_law_397 dL_law_399 dL_law_400 dL_law_401 ?_
    refine z_arg (i := 3) C0 (by omega) hL hS (lv_at hl 1 rfl) (lv_at hl 6 rfl) (by decide) dL_law_402 dL_law_403 dL_law_405 dL_law_406 dL_law_407 ?_
    refine z_callVF (wa := []) (w1 := wM a' y mth (nI t) tb tf ts cap clr mov hom wm (nI nw) wf wt (nI nb) fr bw bl (nI no) od ow ol ork olf oco at_ aw mp mpl msh msl mwa mse) (wb := (wB a y cap clr (nI t) hom mov wm tb tf ts (nI nw) wf wt (nI nb) bw bl bi bb (nI no) od ow ol ork ob olf oco pn pb pm pcd pw pli ++ oL y o1 v0) ++ oD y o2 d0) (As := [Value.int (xs (5 * kq + 1)), Value.int (xs (5 * kq + 2)), Value.int (xs (5 * kq + 3))]) (rest := []) hx hb hml hown hta zm_X6_setTide wd_9_8 (c_X6_setTide l D y a' mth t tb tf ts cap clr mov hom wm nw wf wt nb fr bw bl no od ow ol ork olf oco at_ aw mp mpl msh msl mwa mse (xs (5 * kq + 1)) (xs (5 * kq + 2)) (xs (5 * kq + 3))) hN hK hP hD hS hA 0 rfl rfl rfl hl rfl (Nat.le_of_ble_eq_true rfl) ⟨Nat.le_of_ble_eq_true rfl, Nat.le_of_ble_eq_true rfl⟩ ⟨by show cells + 1 + 0 ≤ 3144; omega, by show slots + 6 + 0 ≤ 125590; omega⟩ dL_law_408 (fun v w' H locs hq hP hD hS => ?_)
    rcases hq with ⟨hm, rfl, rfl⟩ | ⟨hm, r9, rfl, rfl⟩
    · exact absurd (hm) hc1
    · have hP := z_nil hP
      have hD := z_nilD hD
      refine lv_istore (lv' := [(7, Value.int r9), (6, Value.int (nI (stC (xs (5 * kq + 1)) (xs (5 * kq + 2)) (xs (5 * kq + 3))))), (0, Value.ref b), (1, Value.ref (a 0)), (2, Value.ref (a' 0)), (3, Value.ref o1), (4, Value.ref o2), (5, Value.int (nI (5 * kq)))]) hx hb dL_law_411 hl (by decide) rfl (fun ls hl => ?_)
      refine z_tail (P := 413) C0 (c_X6_thrown l D y a' (nI (stC (xs (5 * kq + 1)) (xs (5 * kq + 2)) (xs (5 * kq + 3)))) t tb tf ts cap clr mov hom wm nw wf wt nb fr bw bl no od ow ol ork olf oco at_ aw mp mpl msh msl mwa mse) rfl hP hD hS hl (lv_at hl 4 rfl) (lv_at hl 1 rfl) (lv_at hl 5 rfl) (lv_at hl 0 rfl) (rfl) (fun z => absurd z (nI_n0 hc1 c4_stC)) ⟨by show cells + 1 + 0 ≤ 3144; omega, by show slots + 6 + 0 ≤ 125590; omega⟩ dL_law_413 dL_law_414 dL_law_417 dL_law_419 dL_law_424 dL_law_426 dL_law_429 dL_law_430 dL_law_431 dL_law_432 dL_law_434 dL_law_435 dL_law_436 dL_law_441 (by decide) (fun H locs hP hD hS => ?_)
      refine W.widen (k := cells + 3) (n := slots + 18) (by omega) (by omega) ?_
      exact kk cap clr t hom mov wm tb tf ts nw wf wt nb bw bl bi bb no od ow ol ork ob olf oco pn pb pm pcd pw pli (nI (stC (xs (5 * kq + 1)) (xs (5 * kq + 2)) (xs (5 * kq + 3)))) fr at_ aw mp mpl msh msl mwa mse _ _ _ _ _ (hR) hP hD hS (lv_sub hl [2, 3, 4, 5, 6, 7] rfl)
set_option maxHeartbeats 1600000 in
set_option maxRecDepth 100000 in
theorem lc_3 {p : Program} {l : Launch} {e : Env} {s : State} {m : MethodId} {below : List Frame} {meth : Method} {c : Code} {D : va_G} {y : Nat → ClassId} {b L : Nat} {xs : Nat → Int32} {a a' : Nat → Nat} {o1 o2 kq cells slots : Nat} {G : State → Prop} (hlt : l.stackTraces = false) (C0 : LC p s m meth c b L xs D y) (hk : 5 * kq + 5 ≤ L) (hL : L ≤ 2560) (hc : cells + 3 ≤ 3144 ∧ slots + 18 ≤ 125590) (kk : LawK p l e s m below meth c D y b a a' o1 o2 kq (cells + 3) (slots + 18) 2118 G) : LawK p l e s m below meth c D y b a a' o1 o2 kq cells slots 444 G := by
  intro cap clr t hom mov wm tb tf ts nw wf wt nb bw bl bi bb no od ow ol ork ob olf oco pn pb pm pcd pw pli mth fr at_ aw mp mpl msh msl mwa mse v0 d0 H locs ls hR hP hD hS hl
  have C1 := C0
  obtain ⟨hx, hb, hr, hml, hown, hta, hX, hbl, hlocks, hN, hH, hK⟩ := C1
  have hA : ∀ q, s.heap.size ≤ q → lwA s q := fun _ h => h
  have hb8 := hR.1.2.2.2
  have hb6 := hR.1.2.2.1
  have hw := hR.1.2.1
  have ht := hR.1.1
  have hsp := hR.2.1
  have hol := hR.2.2.1
  have hfr := fr_hfr (rel_fr hR)
  have hat := (rel_va hR).1
  refine lv_aload_n hx hb dL_law_444 rfl (lv_at hl 1 rfl) ?_
  refine z_arg (i := 1) C0 (by omega) hL hS (lv_at hl 0 rfl) (lv_at hl 5 rfl) (by decide) dL_law_445 dL_law_446 dL_law_448 dL_law_449 dL_law_450 ?_
  refine z_arg (i := 2) C0 (by omega) hL hS (lv_at hl 0 rfl) (lv_at hl 5 rfl) (by decide) dL_law_451 dL_law_452 dL_law_454 dL_law_455 dL_law_456 ?_
  refine lv_aload_n hx hb dL_law_457 rfl (lv_at hl 3 rfl) ?_
  refine z_callWr (wa := wM a' y mth (nI t) tb tf ts cap clr mov hom wm (nI nw) wf wt (nI nb) fr bw bl (nI no) od ow ol ork olf oco at_ aw mp mpl msh msl mwa mse) (w1 := wB a y cap clr (nI t) hom mov wm tb tf ts (nI nw) wf wt (nI nb) bw bl bi bb (nI no) od ow ol ork ob olf oco pn pb pm pcd pw pli ++ oL y o1 v0) (wb := oD y o2 d0) (As := [Value.ref (a 0), Value.int (xs (5 * kq + 1)), Value.int (xs (5 * kq + 2)), Value.ref o1]) (rest := []) hx hb hml hown hta zw_setCradle wd_9_20 (c_L_setCradle l hlt D y a cap clr t hom mov wm tb tf ts nw wf wt nb bw bl bi bb no od ow ol ork ob olf oco pn pb pm pcd pw pli (xs (5 * kq + 1)) (xs (5 * kq + 2)) o1 v0) hH hN hK hP hD hS hA rfl hl rfl (Nat.le_of_ble_eq_true rfl) ⟨Nat.le_of_ble_eq_true rfl, Nat.le_of_ble_eq_true rfl⟩ ⟨by show cells + 1 ≤ 3144; omega, by show slots + 6 ≤ 125590; omega⟩ dL_law_458 (fun v w' H locs hq hP hD hS => ?_)
  rcases hq with ⟨hc1, v1, hv1, rfl, rfl⟩ | ⟨hc1, rfl, rfl⟩
  · refine lv_istore (lv' := [(6, Value.int 0), (0, Value.ref b), (1, Value.ref (a 0)), (2, Value.ref (a' 0)), (3, Value.ref o1), (4, Value.ref o2), (5, Value.int (nI (5 * kq)))]) hx hb dL_law_461 hl (by decide) rfl (fun ls hl => ?_)
    refine lv_aload_n hx hb dL_law_463 rfl (lv_at hl 3 rfl) ?_
    refine z_arg (i := 1) C0 (by omega) hL hS (lv_at hl 1 rfl) (lv_at hl 6 rfl) (by decide) dL_law_464 dL_law_465 dL_law_467 dL_law_468 dL_law_469 ?_
    refine z_arg (i := 2) C0 (by omega) hL hS (lv_at hl 1 rfl) (lv_at hl 6 rfl) (by decide) dL_law_470 dL_law_471 dL_law_473 dL_law_474 dL_law_475 ?_
    refine z_callVF (wa := []) (w1 := wM a' y mth (nI t) tb tf ts cap clr mov hom wm (nI nw) wf wt (nI nb) fr bw bl (nI no) od ow ol ork olf oco at_ aw mp mpl msh msl mwa mse) (wb := (wB a y (xs (5 * kq + 1)) (xs (5 * kq + 2)) (nI t) hom mov wm tb tf ts (nI nw) wf wt (nI nb) bw bl bi bb (nI no) od ow ol ork ob olf oco pn pb pm pcd pw pli ++ oL y o1 v1) ++ oD y o2 d0) (As := [Value.int (xs (5 * kq + 1)), Value.int (xs (5 * kq + 2))]) (rest := []) hx hb hml hown hta zm_X6_setCradle wd_10_3 (c_X6_setCradle l D y a' mth t tb tf ts cap clr mov hom wm nw wf wt nb fr bw bl no od ow ol ork olf oco at_ aw mp mpl msh msl mwa mse (xs (5 * kq + 1)) (xs (5 * kq + 2))) hN hK hP hD hS hA 0 rfl rfl rfl hl rfl (Nat.le_of_ble_eq_true rfl) ⟨Nat.le_of_ble_eq_true rfl, Nat.le_of_ble_eq_true rfl⟩ ⟨by show cells + 1 + 0 ≤ 3144; omega, by show slots + 6 + 0 ≤ 125590; omega⟩ dL_law_476 (fun v w' H locs hq hP hD hS => ?_)
    rcases hq with ⟨hm, rfl, rfl⟩ | ⟨hm, r9, rfl, rfl⟩
    · have hP := z_nil hP
      have hD := z_nilD hD
      obtain ⟨bv, hbv⟩ : ∃ z : Int32, z = cap := ⟨_, rfl⟩
      refine zr_top (y := bv) hbv.symm ?_
      refine lv_istore (lv' := [(7, Value.int bv), (6, Value.int 0), (0, Value.ref b), (1, Value.ref (a 0)), (2, Value.ref (a' 0)), (3, Value.ref o1), (4, Value.ref o2), (5, Value.int (nI (5 * kq)))]) hx hb dL_law_479 hl (by decide) rfl (fun ls hl => ?_)
      refine z_tail (P := 481) C0 (c_X6_thrown l D y a' (0 : Int32) t tb tf ts (xs (5 * kq + 1)) (xs (5 * kq + 2)) mov hom wm nw wf wt nb fr bw bl no od ow ol ork olf oco at_ aw mp mpl msh msl mwa mse) rfl hP hD hS hl (lv_at hl 4 rfl) (lv_at hl 1 rfl) (lv_at hl 5 rfl) (lv_at hl 0 rfl) (rfl) (fun _ => hv1.trans (congrArg Int32.toInt64 (hbv.symm))) ⟨by show cells + 1 + 0 ≤ 3144; omega, by show slots + 6 + 0 ≤ 125590; omega⟩ dL_law_481 dL_law_482 dL_law_485 dL_law_487 dL_law_492 dL_law_494 dL_law_497 dL_law_498 dL_law_499 dL_law_500 dL_law_502 dL_law_503 dL_law_504 dL_law_509 (by decide) (fun H locs hP hD hS => ?_)
      refine W.widen (k := cells + 3) (n := slots + 18) (by omega) (by omega) ?_
      exact kk (xs (5 * kq + 1)) (xs (5 * kq + 2)) t hom mov wm tb tf ts nw wf wt nb bw bl bi bb no od ow ol ork ob olf oco pn pb pm pcd pw pli (0 : Int32) fr at_ aw mp mpl msh msl mwa mse _ _ _ _ _ (hR) hP hD hS (lv_sub hl [2, 3, 4, 5, 6, 7] rfl)
    · exact absurd (hc1) hm
  · refine lv_istore (lv' := [(6, Value.int (nI (scC (xs (5 * kq + 1)) (xs (5 * kq + 2))))), (0, Value.ref b), (1, Value.ref (a 0)), (2, Value.ref (a' 0)), (3, Value.ref o1), (4, Value.ref o2), (5, Value.int (nI (5 * kq)))]) hx hb dL_law_461 hl (by decide) rfl (fun ls hl => ?_)
    refine lv_aload_n hx hb dL_law_463 rfl (lv_at hl 3 rfl) ?_
    refine z_arg (i := 1) C0 (by omega) hL hS (lv_at hl 1 rfl) (lv_at hl 6 rfl) (by decide) dL_law_464 dL_law_465 dL_law_467 dL_law_468 dL_law_469 ?_
    refine z_arg (i := 2) C0 (by omega) hL hS (lv_at hl 1 rfl) (lv_at hl 6 rfl) (by decide) dL_law_470 dL_law_471 dL_law_473 dL_law_474 dL_law_475 ?_
    refine z_callVF (wa := []) (w1 := wM a' y mth (nI t) tb tf ts cap clr mov hom wm (nI nw) wf wt (nI nb) fr bw bl (nI no) od ow ol ork olf oco at_ aw mp mpl msh msl mwa mse) (wb := (wB a y cap clr (nI t) hom mov wm tb tf ts (nI nw) wf wt (nI nb) bw bl bi bb (nI no) od ow ol ork ob olf oco pn pb pm pcd pw pli ++ oL y o1 v0) ++ oD y o2 d0) (As := [Value.int (xs (5 * kq + 1)), Value.int (xs (5 * kq + 2))]) (rest := []) hx hb hml hown hta zm_X6_setCradle wd_10_3 (c_X6_setCradle l D y a' mth t tb tf ts cap clr mov hom wm nw wf wt nb fr bw bl no od ow ol ork olf oco at_ aw mp mpl msh msl mwa mse (xs (5 * kq + 1)) (xs (5 * kq + 2))) hN hK hP hD hS hA 0 rfl rfl rfl hl rfl (Nat.le_of_ble_eq_true rfl) ⟨Nat.le_of_ble_eq_true rfl, Nat.le_of_ble_eq_true rfl⟩ ⟨by show cells + 1 + 0 ≤ 3144; omega, by show slots + 6 + 0 ≤ 125590; omega⟩ dL_law_476 (fun v w' H locs hq hP hD hS => ?_)
    rcases hq with ⟨hm, rfl, rfl⟩ | ⟨hm, r9, rfl, rfl⟩
    · exact absurd (hm) hc1
    · have hP := z_nil hP
      have hD := z_nilD hD
      refine lv_istore (lv' := [(7, Value.int r9), (6, Value.int (nI (scC (xs (5 * kq + 1)) (xs (5 * kq + 2))))), (0, Value.ref b), (1, Value.ref (a 0)), (2, Value.ref (a' 0)), (3, Value.ref o1), (4, Value.ref o2), (5, Value.int (nI (5 * kq)))]) hx hb dL_law_479 hl (by decide) rfl (fun ls hl => ?_)
      refine z_tail (P := 481) C0 (c_X6_thrown l D y a' (nI (scC (xs (5 * kq + 1)) (xs (5 * kq + 2)))) t tb tf ts cap clr mov hom wm nw wf wt nb fr bw bl no od ow ol ork olf oco at_ aw mp mpl msh msl mwa mse) rfl hP hD hS hl (lv_at hl 4 rfl) (lv_at hl 1 rfl) (lv_at hl 5 rfl) (lv_at hl 0 rfl) (rfl) (fun z => absurd z (nI_n0 hc1 c4_scC)) ⟨by show cells + 1 + 0 ≤ 3144; omega, by show slots + 6 + 0 ≤ 125590; omega⟩ dL_law_481 dL_law_482 dL_law_485 dL_law_487 dL_law_492 dL_law_494 dL_law_497 dL_law_498 dL_law_499 dL_law_500 dL_law_502 dL_law_503 dL_law_504 dL_law_509 (by decide) (fun H locs hP hD hS => ?_)
      refine W.widen (k := cells + 3) (n := slots + 18) (by omega) (by omega) ?_
      exact kk cap clr t hom mov wm tb tf ts nw wf wt nb bw bl bi bb no od ow ol ork ob olf oco pn pb pm pcd pw pli (nI (scC (xs (5 * kq + 1)) (xs (5 * kq + 2)))) fr at_ aw mp mpl msh msl mwa mse _ _ _ _ _ (hR) hP hD hS (lv_sub hl [2, 3, 4, 5, 6, 7] rfl)
set_option maxHeartbeats 1600000 in
set_option maxRecDepth 100000 in
theorem lc_4 {p : Program} {l : Launch} {e : Env} {s : State} {m : MethodId} {below : List Frame} {meth : Method} {c : Code} {D : va_G} {y : Nat → ClassId} {b L : Nat} {xs : Nat → Int32} {a a' : Nat → Nat} {o1 o2 kq cells slots : Nat} {G : State → Prop} (hlt : l.stackTraces = false) (C0 : LC p s m meth c b L xs D y) (hk : 5 * kq + 5 ≤ L) (hL : L ≤ 2560) (hc : cells + 3 ≤ 3144 ∧ slots + 18 ≤ 125590) (kk : LawK p l e s m below meth c D y b a a' o1 o2 kq (cells + 3) (slots + 18) 2118 G) : LawK p l e s m below meth c D y b a a' o1 o2 kq cells slots 512 G := by
  intro cap clr t hom mov wm tb tf ts nw wf wt nb bw bl bi bb no od ow ol ork ob olf oco pn pb pm pcd pw pli mth fr at_ aw mp mpl msh msl mwa mse v0 d0 H locs ls hR hP hD hS hl
  have C1 := C0
  obtain ⟨hx, hb, hr, hml, hown, hta, hX, hbl, hlocks, hN, hH, hK⟩ := C1
  have hA : ∀ q, s.heap.size ≤ q → lwA s q := fun _ h => h
  have hb8 := hR.1.2.2.2
  have hb6 := hR.1.2.2.1
  have hw := hR.1.2.1
  have ht := hR.1.1
  have hsp := hR.2.1
  have hol := hR.2.2.1
  have hfr := fr_hfr (rel_fr hR)
  have hat := (rel_va hR).1
  refine lv_aload_n hx hb dL_law_512 rfl (lv_at hl 1 rfl) ?_
  refine z_arg (i := 1) C0 (by omega) hL hS (lv_at hl 0 rfl) (lv_at hl 5 rfl) (by decide) dL_law_513 dL_law_514 dL_law_516 dL_law_517 dL_law_518 ?_
  refine z_arg (i := 2) C0 (by omega) hL hS (lv_at hl 0 rfl) (lv_at hl 5 rfl) (by decide) dL_law_519 dL_law_520 dL_law_522 dL_law_523 dL_law_524 ?_
  refine lv_aload_n hx hb dL_law_525 rfl (lv_at hl 3 rfl) ?_
  refine z_callWr (wa := wM a' y mth (nI t) tb tf ts cap clr mov hom wm (nI nw) wf wt (nI nb) fr bw bl (nI no) od ow ol ork olf oco at_ aw mp mpl msh msl mwa mse) (w1 := wB a y cap clr (nI t) hom mov wm tb tf ts (nI nw) wf wt (nI nb) bw bl bi bb (nI no) od ow ol ork ob olf oco pn pb pm pcd pw pli ++ oL y o1 v0) (wb := oD y o2 d0) (As := [Value.ref (a 0), Value.int (xs (5 * kq + 1)), Value.int (xs (5 * kq + 2)), Value.ref o1]) (rest := []) hx hb hml hown hta zw_tellWeather wd_10_7 (c_L_tellWeather l hlt D y a cap clr t hom mov wm tb tf ts nw wf wt nb bw bl bi bb no od ow ol ork ob olf oco pn pb pm pcd pw pli (xs (5 * kq + 1)) (xs (5 * kq + 2)) hw o1 v0) hH hN hK hP hD hS hA rfl hl rfl (Nat.le_of_ble_eq_true rfl) ⟨Nat.le_of_ble_eq_true rfl, Nat.le_of_ble_eq_true rfl⟩ ⟨by show cells + 1 ≤ 3144; omega, by show slots + 6 ≤ 125590; omega⟩ dL_law_526 (fun v w' H locs hq hP hD hS => ?_)
  rcases hq with ⟨hc1, v1, hv1, rfl, rfl⟩ | ⟨hc1, rfl, rfl⟩
  · refine lv_istore (lv' := [(6, Value.int 0), (0, Value.ref b), (1, Value.ref (a 0)), (2, Value.ref (a' 0)), (3, Value.ref o1), (4, Value.ref o2), (5, Value.int (nI (5 * kq)))]) hx hb dL_law_529 hl (by decide) rfl (fun ls hl => ?_)
    refine lv_aload_n hx hb dL_law_531 rfl (lv_at hl 3 rfl) ?_
    refine z_arg (i := 1) C0 (by omega) hL hS (lv_at hl 1 rfl) (lv_at hl 6 rfl) (by decide) dL_law_532 dL_law_533 dL_law_535 dL_law_536 dL_law_537 ?_
    refine z_arg (i := 2) C0 (by omega) hL hS (lv_at hl 1 rfl) (lv_at hl 6 rfl) (by decide) dL_law_538 dL_law_539 dL_law_541 dL_law_542 dL_law_543 ?_
    refine z_callVF (wa := []) (w1 := wM a' y mth (nI t) tb tf ts cap clr mov hom wm (nI nw) wf wt (nI nb) fr bw bl (nI no) od ow ol ork olf oco at_ aw mp mpl msh msl mwa mse) (wb := (wB a y cap clr (nI t) hom mov wm tb tf ts (nI (nw + 1)) (upd wf nw (xs (5 * kq + 1))) (upd wt nw (xs (5 * kq + 2))) (nI nb) bw bl bi bb (nI no) od ow ol ork ob olf oco pn pb pm pcd pw pli ++ oL y o1 v1) ++ oD y o2 d0) (As := [Value.int (xs (5 * kq + 1)), Value.int (xs (5 * kq + 2))]) (rest := []) hx hb hml hown hta zm_X6_tellWeather wd_10_19 (c_X6_tellWeather l D y a' mth t tb tf ts cap clr mov hom wm nw wf wt nb fr bw bl no od ow ol ork olf oco at_ aw mp mpl msh msl mwa mse (xs (5 * kq + 1)) (xs (5 * kq + 2)) hw ht) hN hK hP hD hS hA 0 rfl rfl rfl hl rfl (Nat.le_of_ble_eq_true rfl) ⟨Nat.le_of_ble_eq_true rfl, Nat.le_of_ble_eq_true rfl⟩ ⟨by show cells + 1 + 0 ≤ 3144; omega, by show slots + 6 + 0 ≤ 125590; omega⟩ dL_law_544 (fun v w' H locs hq hP hD hS => ?_)
    rcases hq with ⟨hm, rfl, rfl⟩ | ⟨hm, r9, rfl, rfl⟩
    · have hP := z_nil hP
      have hD := z_nilD hD
      obtain ⟨bv, hbv⟩ : ∃ z : Int32, z = nI (nw + 1) := ⟨_, rfl⟩
      refine zr_top (y := bv) hbv.symm ?_
      refine lv_istore (lv' := [(7, Value.int bv), (6, Value.int 0), (0, Value.ref b), (1, Value.ref (a 0)), (2, Value.ref (a' 0)), (3, Value.ref o1), (4, Value.ref o2), (5, Value.int (nI (5 * kq)))]) hx hb dL_law_547 hl (by decide) rfl (fun ls hl => ?_)
      refine z_tail (P := 549) C0 (c_X6_thrown l D y a' (0 : Int32) t tb tf ts cap clr mov hom wm (nw + 1) (upd wf nw (xs (5 * kq + 1))) (upd wt nw (xs (5 * kq + 2))) nb fr bw bl no od ow ol ork olf oco at_ aw mp mpl msh msl mwa mse) rfl hP hD hS hl (lv_at hl 4 rfl) (lv_at hl 1 rfl) (lv_at hl 5 rfl) (lv_at hl 0 rfl) (rfl) (fun _ => hv1.trans (congrArg Int32.toInt64 (hbv.symm))) ⟨by show cells + 1 + 0 ≤ 3144; omega, by show slots + 6 + 0 ≤ 125590; omega⟩ dL_law_549 dL_law_550 dL_law_553 dL_law_555 dL_law_560 dL_law_562 dL_law_565 dL_law_566 dL_law_567 dL_law_568 dL_law_570 dL_law_571 dL_law_572 dL_law_577 (by decide) (fun H locs hP hD hS => ?_)
      refine W.widen (k := cells + 3) (n := slots + 18) (by omega) (by omega) ?_
      exact kk cap clr t hom mov wm tb tf ts (nw + 1) (upd wf nw (xs (5 * kq + 1))) (upd wt nw (xs (5 * kq + 2))) nb bw bl bi bb no od ow ol ork ob olf oco pn pb pm pcd pw pli (0 : Int32) fr at_ aw mp mpl msh msl mwa mse _ _ _ _ _ (rel_tell hR hc1) hP hD hS (lv_sub hl [2, 3, 4, 5, 6, 7] rfl)
    · exact absurd (hc1) hm
  · refine lv_istore (lv' := [(6, Value.int (nI (twC t nw (xs (5 * kq + 1)) (xs (5 * kq + 2))))), (0, Value.ref b), (1, Value.ref (a 0)), (2, Value.ref (a' 0)), (3, Value.ref o1), (4, Value.ref o2), (5, Value.int (nI (5 * kq)))]) hx hb dL_law_529 hl (by decide) rfl (fun ls hl => ?_)
    refine lv_aload_n hx hb dL_law_531 rfl (lv_at hl 3 rfl) ?_
    refine z_arg (i := 1) C0 (by omega) hL hS (lv_at hl 1 rfl) (lv_at hl 6 rfl) (by decide) dL_law_532 dL_law_533 dL_law_535 dL_law_536 dL_law_537 ?_
    refine z_arg (i := 2) C0 (by omega) hL hS (lv_at hl 1 rfl) (lv_at hl 6 rfl) (by decide) dL_law_538 dL_law_539 dL_law_541 dL_law_542 dL_law_543 ?_
    refine z_callVF (wa := []) (w1 := wM a' y mth (nI t) tb tf ts cap clr mov hom wm (nI nw) wf wt (nI nb) fr bw bl (nI no) od ow ol ork olf oco at_ aw mp mpl msh msl mwa mse) (wb := (wB a y cap clr (nI t) hom mov wm tb tf ts (nI nw) wf wt (nI nb) bw bl bi bb (nI no) od ow ol ork ob olf oco pn pb pm pcd pw pli ++ oL y o1 v0) ++ oD y o2 d0) (As := [Value.int (xs (5 * kq + 1)), Value.int (xs (5 * kq + 2))]) (rest := []) hx hb hml hown hta zm_X6_tellWeather wd_10_19 (c_X6_tellWeather l D y a' mth t tb tf ts cap clr mov hom wm nw wf wt nb fr bw bl no od ow ol ork olf oco at_ aw mp mpl msh msl mwa mse (xs (5 * kq + 1)) (xs (5 * kq + 2)) hw ht) hN hK hP hD hS hA 0 rfl rfl rfl hl rfl (Nat.le_of_ble_eq_true rfl) ⟨Nat.le_of_ble_eq_true rfl, Nat.le_of_ble_eq_true rfl⟩ ⟨by show cells + 1 + 0 ≤ 3144; omega, by show slots + 6 + 0 ≤ 125590; omega⟩ dL_law_544 (fun v w' H locs hq hP hD hS => ?_)
    rcases hq with ⟨hm, rfl, rfl⟩ | ⟨hm, r9, rfl, rfl⟩
    · exact absurd (hm) hc1
    · have hP := z_nil hP
      have hD := z_nilD hD
      refine lv_istore (lv' := [(7, Value.int r9), (6, Value.int (nI (twC t nw (xs (5 * kq + 1)) (xs (5 * kq + 2))))), (0, Value.ref b), (1, Value.ref (a 0)), (2, Value.ref (a' 0)), (3, Value.ref o1), (4, Value.ref o2), (5, Value.int (nI (5 * kq)))]) hx hb dL_law_547 hl (by decide) rfl (fun ls hl => ?_)
      refine z_tail (P := 549) C0 (c_X6_thrown l D y a' (nI (twC t nw (xs (5 * kq + 1)) (xs (5 * kq + 2)))) t tb tf ts cap clr mov hom wm nw wf wt nb fr bw bl no od ow ol ork olf oco at_ aw mp mpl msh msl mwa mse) rfl hP hD hS hl (lv_at hl 4 rfl) (lv_at hl 1 rfl) (lv_at hl 5 rfl) (lv_at hl 0 rfl) (rfl) (fun z => absurd z (nI_n0 hc1 c4_twC)) ⟨by show cells + 1 + 0 ≤ 3144; omega, by show slots + 6 + 0 ≤ 125590; omega⟩ dL_law_549 dL_law_550 dL_law_553 dL_law_555 dL_law_560 dL_law_562 dL_law_565 dL_law_566 dL_law_567 dL_law_568 dL_law_570 dL_law_571 dL_law_572 dL_law_577 (by decide) (fun H locs hP hD hS => ?_)
      refine W.widen (k := cells + 3) (n := slots + 18) (by omega) (by omega) ?_
      exact kk cap clr t hom mov wm tb tf ts nw wf wt nb bw bl bi bb no od ow ol ork ob olf oco pn pb pm pcd pw pli (nI (twC t nw (xs (5 * kq + 1)) (xs (5 * kq + 2)))) fr at_ aw mp mpl msh msl mwa mse _ _ _ _ _ (hR) hP hD hS (lv_sub hl [2, 3, 4, 5, 6, 7] rfl)
set_option maxHeartbeats 1600000 in
set_option maxRecDepth 100000 in
theorem lc_5 {p : Program} {l : Launch} {e : Env} {s : State} {m : MethodId} {below : List Frame} {meth : Method} {c : Code} {D : va_G} {y : Nat → ClassId} {b L : Nat} {xs : Nat → Int32} {a a' : Nat → Nat} {o1 o2 kq cells slots : Nat} {G : State → Prop} (hlt : l.stackTraces = false) (C0 : LC p s m meth c b L xs D y) (hk : 5 * kq + 5 ≤ L) (hL : L ≤ 2560) (hc : cells + 3 ≤ 3144 ∧ slots + 18 ≤ 125590) (kk : LawK p l e s m below meth c D y b a a' o1 o2 kq (cells + 3) (slots + 18) 2118 G) : LawK p l e s m below meth c D y b a a' o1 o2 kq cells slots 580 G := by
  intro cap clr t hom mov wm tb tf ts nw wf wt nb bw bl bi bb no od ow ol ork ob olf oco pn pb pm pcd pw pli mth fr at_ aw mp mpl msh msl mwa mse v0 d0 H locs ls hR hP hD hS hl
  have C1 := C0
  obtain ⟨hx, hb, hr, hml, hown, hta, hX, hbl, hlocks, hN, hH, hK⟩ := C1
  have hA : ∀ q, s.heap.size ≤ q → lwA s q := fun _ h => h
  have hb8 := hR.1.2.2.2
  have hb6 := hR.1.2.2.1
  have hw := hR.1.2.1
  have ht := hR.1.1
  have hsp := hR.2.1
  have hol := hR.2.2.1
  have hfr := fr_hfr (rel_fr hR)
  have hat := (rel_va hR).1
  refine lv_aload_n hx hb dL_law_580 rfl (lv_at hl 1 rfl) ?_
  refine z_callVF (wa := wM a' y mth (nI t) tb tf ts cap clr mov hom wm (nI nw) wf wt (nI nb) fr bw bl (nI no) od ow ol ork olf oco at_ aw mp mpl msh msl mwa mse) (w1 := wB a y cap clr (nI t) hom mov wm tb tf ts (nI nw) wf wt (nI nb) bw bl bi bb (nI no) od ow ol ork ob olf oco pn pb pm pcd pw pli) (wb := oL y o1 v0 ++ oD y o2 d0) (As := []) (rest := []) hx hb hml hown hta zm_X5_forgetWeather wd_11_0 (c_X5_forgetWeather l D y a cap clr t hom mov wm tb tf ts nw wf wt nb bw bl bi bb no od ow ol ork ob olf oco pn pb pm pcd pw pli hw) hN hK (z_as hP) (z_asD hD) hS hA 0 rfl rfl rfl hl rfl (Nat.le_of_ble_eq_true rfl) ⟨Nat.le_of_ble_eq_true rfl, Nat.le_of_ble_eq_true rfl⟩ ⟨by show cells + 0 ≤ 3144; omega, by show slots + 0 ≤ 125590; omega⟩ dL_law_581 (fun v w' H locs hq hP hD hS => ?_)
  obtain ⟨rfl, rfl⟩ := hq
  refine lv_aload_n hx hb dL_law_584 rfl (lv_at hl 2 rfl) ?_
  refine z_callVF (wa := []) (w1 := wM a' y mth (nI t) tb tf ts cap clr mov hom wm (nI nw) wf wt (nI nb) fr bw bl (nI no) od ow ol ork olf oco at_ aw mp mpl msh msl mwa mse) (wb := wB a y cap clr (nI t) hom mov wm tb tf ts (nI ((kp wf wt (nI t) nw).2.2)) ((kp wf wt (nI t) nw).1) ((kp wf wt (nI t) nw).2.1) (nI nb) bw bl bi bb (nI no) od ow ol ork ob olf oco pn pb pm pcd pw pli ++ (oL y o1 v0 ++ oD y o2 d0)) (As := []) (rest := [Value.int (nI ((kp wf wt (nI t) nw).2.2))]) hx hb hml hown hta zm_X6_forgetWeather wd_11_8 (c_X6_forgetWeather l D y a' mth t tb tf ts cap clr mov hom wm nw wf wt nb fr bw bl no od ow ol ork olf oco at_ aw mp mpl msh msl mwa mse hw) hN hK hP hD hS hA 0 rfl rfl rfl hl rfl (Nat.le_of_ble_eq_true rfl) ⟨Nat.le_of_ble_eq_true rfl, Nat.le_of_ble_eq_true rfl⟩ ⟨by show cells + 0 + 0 ≤ 3144; omega, by show slots + 0 + 0 ≤ 125590; omega⟩ dL_law_585 (fun v w' H locs hq hP hD hS => ?_)
  obtain ⟨-, rfl, rfl⟩ := hq
  have hP := z_sa (z_nil hP)
  have hD := z_saD (z_nilD hD)
  refine lv_icmp_eq (tgt := 2118) hx hb dL_law_588 (by decide) (fun _ => ?_) (fun z => absurd rfl z)
  refine W.widen (k := cells + 3) (n := slots + 18) (by omega) (by omega) ?_
  exact kk cap clr t hom mov wm tb tf ts ((kp wf wt (nI t) nw).2.2) ((kp wf wt (nI t) nw).1) ((kp wf wt (nI t) nw).2.1) nb bw bl bi bb no od ow ol ork ob olf oco pn pb pm pcd pw pli (0 : Int32) fr at_ aw mp mpl msh msl mwa mse _ _ _ _ _ (rel_forget hR _) hP hD hS hl
set_option maxHeartbeats 1600000 in
set_option maxRecDepth 100000 in
theorem lc_6 {p : Program} {l : Launch} {e : Env} {s : State} {m : MethodId} {below : List Frame} {meth : Method} {c : Code} {D : va_G} {y : Nat → ClassId} {b L : Nat} {xs : Nat → Int32} {a a' : Nat → Nat} {o1 o2 kq cells slots : Nat} {G : State → Prop} (hlt : l.stackTraces = false) (C0 : LC p s m meth c b L xs D y) (hk : 5 * kq + 5 ≤ L) (hL : L ≤ 2560) (hc : cells + 3 ≤ 3144 ∧ slots + 18 ≤ 125590) (kk : LawK p l e s m below meth c D y b a a' o1 o2 kq (cells + 3) (slots + 18) 2118 G) : LawK p l e s m below meth c D y b a a' o1 o2 kq cells slots 593 G := by
  intro cap clr t hom mov wm tb tf ts nw wf wt nb bw bl bi bb no od ow ol ork ob olf oco pn pb pm pcd pw pli mth fr at_ aw mp mpl msh msl mwa mse v0 d0 H locs ls hR hP hD hS hl
  have C1 := C0
  obtain ⟨hx, hb, hr, hml, hown, hta, hX, hbl, hlocks, hN, hH, hK⟩ := C1
  have hA : ∀ q, s.heap.size ≤ q → lwA s q := fun _ h => h
  have hb8 := hR.1.2.2.2
  have hb6 := hR.1.2.2.1
  have hw := hR.1.2.1
  have ht := hR.1.1
  have hsp := hR.2.1
  have hol := hR.2.2.1
  have hfr := fr_hfr (rel_fr hR)
  have hat := (rel_va hR).1
  refine lv_aload_n hx hb dL_law_593 rfl (lv_at hl 1 rfl) ?_
  refine z_arg (i := 1) C0 (by omega) hL hS (lv_at hl 0 rfl) (lv_at hl 5 rfl) (by decide) dL_law_594 dL_law_595 dL_law_597 dL_law_598 dL_law_599 ?_
  refine lv_aload_n hx hb dL_law_600 rfl (lv_at hl 3 rfl) ?_
  refine z_callWr (wa := wM a' y mth (nI t) tb tf ts cap clr mov hom wm (nI nw) wf wt (nI nb) fr bw bl (nI no) od ow ol ork olf oco at_ aw mp mpl msh msl mwa mse) (w1 := wB a y cap clr (nI t) hom mov wm tb tf ts (nI nw) wf wt (nI nb) bw bl bi bb (nI no) od ow ol ork ob olf oco pn pb pm pcd pw pli ++ oL y o1 v0) (wb := oD y o2 d0) (As := [Value.ref (a 0), Value.int (xs (5 * kq + 1)), Value.ref o1]) (rest := []) hx hb hml hown hta zw_level wd_11_12 (c_L_level l hlt D y a cap clr t hom mov wm tb tf ts nw wf wt nb bw bl bi bb no od ow ol ork ob olf oco pn pb pm pcd pw pli (xs (5 * kq + 1)) o1 v0) hH hN hK hP hD hS hA rfl hl rfl (Nat.le_of_ble_eq_true rfl) ⟨Nat.le_of_ble_eq_true rfl, Nat.le_of_ble_eq_true rfl⟩ ⟨by show cells + 1 ≤ 3144; omega, by show slots + 6 ≤ 125590; omega⟩ dL_law_601 (fun v w' H locs hq hP hD hS => ?_)
  rcases hq with ⟨hc1, v1, hv1, rfl, rfl⟩ | ⟨hc1, rfl, rfl⟩
  · refine lv_istore (lv' := [(6, Value.int 0), (0, Value.ref b), (1, Value.ref (a 0)), (2, Value.ref (a' 0)), (3, Value.ref o1), (4, Value.ref o2), (5, Value.int (nI (5 * kq)))]) hx hb dL_law_604 hl (by decide) rfl (fun ls hl => ?_)
    refine lv_aload_n hx hb dL_law_606 rfl (lv_at hl 3 rfl) ?_
    refine z_arg (i := 1) C0 (by omega) hL hS (lv_at hl 1 rfl) (lv_at hl 6 rfl) (by decide) dL_law_607 dL_law_608 dL_law_610 dL_law_611 dL_law_612 ?_
    refine z_callVF (wa := []) (w1 := wM a' y mth (nI t) tb tf ts cap clr mov hom wm (nI nw) wf wt (nI nb) fr bw bl (nI no) od ow ol ork olf oco at_ aw mp mpl msh msl mwa mse) (wb := (wB a y cap clr (nI t) hom mov wm tb tf ts (nI nw) wf wt (nI nb) bw bl bi bb (nI no) od ow ol ork ob olf oco pn pb pm pcd pw pli ++ oL y o1 v1) ++ oD y o2 d0) (As := [Value.int (xs (5 * kq + 1))]) (rest := []) hx hb hml hown hta zm_X6_level wd_11_23 (c_X6_level l D y a' mth t tb tf ts cap clr mov hom wm nw wf wt nb fr bw bl no od ow ol ork olf oco at_ aw mp mpl msh msl mwa mse (xs (5 * kq + 1))) hN hK hP hD hS hA 0 rfl rfl rfl hl rfl (Nat.le_of_ble_eq_true rfl) ⟨Nat.le_of_ble_eq_true rfl, Nat.le_of_ble_eq_true rfl⟩ ⟨by show cells + 1 + 0 ≤ 3144; omega, by show slots + 6 + 0 ≤ 125590; omega⟩ dL_law_613 (fun v w' H locs hq hP hD hS => ?_)
    rcases hq with ⟨hm, rfl, rfl⟩ | ⟨hm, r9, rfl, rfl⟩
    · have hP := z_nil hP
      have hD := z_nilD hD
      obtain ⟨bv, hbv⟩ : ∃ z : Int32, z = lev tb tf ts (xs (5 * kq + 1)) := ⟨_, rfl⟩
      refine zr_top (y := bv) hbv.symm ?_
      refine lv_istore (lv' := [(7, Value.int bv), (6, Value.int 0), (0, Value.ref b), (1, Value.ref (a 0)), (2, Value.ref (a' 0)), (3, Value.ref o1), (4, Value.ref o2), (5, Value.int (nI (5 * kq)))]) hx hb dL_law_616 hl (by decide) rfl (fun ls hl => ?_)
      refine z_tail (P := 618) C0 (c_X6_thrown l D y a' (0 : Int32) t tb tf ts cap clr mov hom wm nw wf wt nb fr bw bl no od ow ol ork olf oco at_ aw mp mpl msh msl mwa mse) rfl hP hD hS hl (lv_at hl 4 rfl) (lv_at hl 1 rfl) (lv_at hl 5 rfl) (lv_at hl 0 rfl) (rfl) (fun _ => hv1.trans (congrArg Int32.toInt64 (hbv.symm))) ⟨by show cells + 1 + 0 ≤ 3144; omega, by show slots + 6 + 0 ≤ 125590; omega⟩ dL_law_618 dL_law_619 dL_law_622 dL_law_624 dL_law_629 dL_law_631 dL_law_634 dL_law_635 dL_law_636 dL_law_637 dL_law_639 dL_law_640 dL_law_641 dL_law_646 (by decide) (fun H locs hP hD hS => ?_)
      refine W.widen (k := cells + 3) (n := slots + 18) (by omega) (by omega) ?_
      exact kk cap clr t hom mov wm tb tf ts nw wf wt nb bw bl bi bb no od ow ol ork ob olf oco pn pb pm pcd pw pli (0 : Int32) fr at_ aw mp mpl msh msl mwa mse _ _ _ _ _ (hR) hP hD hS (lv_sub hl [2, 3, 4, 5, 6, 7] rfl)
    · exact absurd (hc1) hm
  · refine lv_istore (lv' := [(6, Value.int (nI (hoC (xs (5 * kq + 1))))), (0, Value.ref b), (1, Value.ref (a 0)), (2, Value.ref (a' 0)), (3, Value.ref o1), (4, Value.ref o2), (5, Value.int (nI (5 * kq)))]) hx hb dL_law_604 hl (by decide) rfl (fun ls hl => ?_)
    refine lv_aload_n hx hb dL_law_606 rfl (lv_at hl 3 rfl) ?_
    refine z_arg (i := 1) C0 (by omega) hL hS (lv_at hl 1 rfl) (lv_at hl 6 rfl) (by decide) dL_law_607 dL_law_608 dL_law_610 dL_law_611 dL_law_612 ?_
    refine z_callVF (wa := []) (w1 := wM a' y mth (nI t) tb tf ts cap clr mov hom wm (nI nw) wf wt (nI nb) fr bw bl (nI no) od ow ol ork olf oco at_ aw mp mpl msh msl mwa mse) (wb := (wB a y cap clr (nI t) hom mov wm tb tf ts (nI nw) wf wt (nI nb) bw bl bi bb (nI no) od ow ol ork ob olf oco pn pb pm pcd pw pli ++ oL y o1 v0) ++ oD y o2 d0) (As := [Value.int (xs (5 * kq + 1))]) (rest := []) hx hb hml hown hta zm_X6_level wd_11_23 (c_X6_level l D y a' mth t tb tf ts cap clr mov hom wm nw wf wt nb fr bw bl no od ow ol ork olf oco at_ aw mp mpl msh msl mwa mse (xs (5 * kq + 1))) hN hK hP hD hS hA 0 rfl rfl rfl hl rfl (Nat.le_of_ble_eq_true rfl) ⟨Nat.le_of_ble_eq_true rfl, Nat.le_of_ble_eq_true rfl⟩ ⟨by show cells + 1 + 0 ≤ 3144; omega, by show slots + 6 + 0 ≤ 125590; omega⟩ dL_law_613 (fun v w' H locs hq hP hD hS => ?_)
    rcases hq with ⟨hm, rfl, rfl⟩ | ⟨hm, r9, rfl, rfl⟩
    · exact absurd (hm) hc1
    · have hP := z_nil hP
      have hD := z_nilD hD
      refine lv_istore (lv' := [(7, Value.int r9), (6, Value.int (nI (hoC (xs (5 * kq + 1))))), (0, Value.ref b), (1, Value.ref (a 0)), (2, Value.ref (a' 0)), (3, Value.ref o1), (4, Value.ref o2), (5, Value.int (nI (5 * kq)))]) hx hb dL_law_616 hl (by decide) rfl (fun ls hl => ?_)
      refine z_tail (P := 618) C0 (c_X6_thrown l D y a' (nI (hoC (xs (5 * kq + 1)))) t tb tf ts cap clr mov hom wm nw wf wt nb fr bw bl no od ow ol ork olf oco at_ aw mp mpl msh msl mwa mse) rfl hP hD hS hl (lv_at hl 4 rfl) (lv_at hl 1 rfl) (lv_at hl 5 rfl) (lv_at hl 0 rfl) (rfl) (fun z => absurd z (nI_n0 hc1 c4_hoC)) ⟨by show cells + 1 + 0 ≤ 3144; omega, by show slots + 6 + 0 ≤ 125590; omega⟩ dL_law_618 dL_law_619 dL_law_622 dL_law_624 dL_law_629 dL_law_631 dL_law_634 dL_law_635 dL_law_636 dL_law_637 dL_law_639 dL_law_640 dL_law_641 dL_law_646 (by decide) (fun H locs hP hD hS => ?_)
      refine W.widen (k := cells + 3) (n := slots + 18) (by omega) (by omega) ?_
      exact kk cap clr t hom mov wm tb tf ts nw wf wt nb bw bl bi bb no od ow ol ork ob olf oco pn pb pm pcd pw pli (nI (hoC (xs (5 * kq + 1)))) fr at_ aw mp mpl msh msl mwa mse _ _ _ _ _ (hR) hP hD hS (lv_sub hl [2, 3, 4, 5, 6, 7] rfl)
set_option maxHeartbeats 1600000 in
set_option maxRecDepth 100000 in
theorem lc_7 {p : Program} {l : Launch} {e : Env} {s : State} {m : MethodId} {below : List Frame} {meth : Method} {c : Code} {D : va_G} {y : Nat → ClassId} {b L : Nat} {xs : Nat → Int32} {a a' : Nat → Nat} {o1 o2 kq cells slots : Nat} {G : State → Prop} (hlt : l.stackTraces = false) (C0 : LC p s m meth c b L xs D y) (hk : 5 * kq + 5 ≤ L) (hL : L ≤ 2560) (hc : cells + 3 ≤ 3144 ∧ slots + 18 ≤ 125590) (kk : LawK p l e s m below meth c D y b a a' o1 o2 kq (cells + 3) (slots + 18) 2118 G) : LawK p l e s m below meth c D y b a a' o1 o2 kq cells slots 649 G := by
  intro cap clr t hom mov wm tb tf ts nw wf wt nb bw bl bi bb no od ow ol ork ob olf oco pn pb pm pcd pw pli mth fr at_ aw mp mpl msh msl mwa mse v0 d0 H locs ls hR hP hD hS hl
  have C1 := C0
  obtain ⟨hx, hb, hr, hml, hown, hta, hX, hbl, hlocks, hN, hH, hK⟩ := C1
  have hA : ∀ q, s.heap.size ≤ q → lwA s q := fun _ h => h
  have hb8 := hR.1.2.2.2
  have hb6 := hR.1.2.2.1
  have hw := hR.1.2.1
  have ht := hR.1.1
  have hsp := hR.2.1
  have hol := hR.2.2.1
  have hfr := fr_hfr (rel_fr hR)
  have hat := (rel_va hR).1
  refine lv_aload_n hx hb dL_law_649 rfl (lv_at hl 1 rfl) ?_
  refine z_arg (i := 1) C0 (by omega) hL hS (lv_at hl 0 rfl) (lv_at hl 5 rfl) (by decide) dL_law_650 dL_law_651 dL_law_653 dL_law_654 dL_law_655 ?_
  refine lv_aload_n hx hb dL_law_656 rfl (lv_at hl 3 rfl) ?_
  refine z_callWr (wa := wM a' y mth (nI t) tb tf ts cap clr mov hom wm (nI nw) wf wt (nI nb) fr bw bl (nI no) od ow ol ork olf oco at_ aw mp mpl msh msl mwa mse) (w1 := wB a y cap clr (nI t) hom mov wm tb tf ts (nI nw) wf wt (nI nb) bw bl bi bb (nI no) od ow ol ork ob olf oco pn pb pm pcd pw pli ++ oL y o1 v0) (wb := oD y o2 d0) (As := [Value.ref (a 0), Value.int (xs (5 * kq + 1)), Value.ref o1]) (rest := []) hx hb hml hown hta zw_isBad wd_12_3 (c_L_isBad l hlt D y a cap clr t hom mov wm tb tf ts nw wf wt nb bw bl bi bb no od ow ol ork ob olf oco pn pb pm pcd pw pli (xs (5 * kq + 1)) hw o1 v0) hH hN hK hP hD hS hA rfl hl rfl (Nat.le_of_ble_eq_true rfl) ⟨Nat.le_of_ble_eq_true rfl, Nat.le_of_ble_eq_true rfl⟩ ⟨by show cells + 1 ≤ 3144; omega, by show slots + 6 ≤ 125590; omega⟩ dL_law_657 (fun v w' H locs hq hP hD hS => ?_)
  rcases hq with ⟨hc1, v1, hv1, rfl, rfl⟩ | ⟨hc1, rfl, rfl⟩
  · refine lv_istore (lv' := [(6, Value.int 0), (0, Value.ref b), (1, Value.ref (a 0)), (2, Value.ref (a' 0)), (3, Value.ref o1), (4, Value.ref o2), (5, Value.int (nI (5 * kq)))]) hx hb dL_law_660 hl (by decide) rfl (fun ls hl => ?_)
    refine lv_aload_n hx hb dL_law_662 rfl (lv_at hl 3 rfl) ?_
    refine z_arg (i := 1) C0 (by omega) hL hS (lv_at hl 1 rfl) (lv_at hl 6 rfl) (by decide) dL_law_663 dL_law_664 dL_law_666 dL_law_667 dL_law_668 ?_
    refine z_callVF (wa := []) (w1 := wM a' y mth (nI t) tb tf ts cap clr mov hom wm (nI nw) wf wt (nI nb) fr bw bl (nI no) od ow ol ork olf oco at_ aw mp mpl msh msl mwa mse) (wb := (wB a y cap clr (nI t) hom mov wm tb tf ts (nI nw) wf wt (nI nb) bw bl bi bb (nI no) od ow ol ork ob olf oco pn pb pm pcd pw pli ++ oL y o1 v1) ++ oD y o2 d0) (As := [Value.int (xs (5 * kq + 1))]) (rest := []) hx hb hml hown hta zm_X6_isBad wd_12_14 (c_X6_isBad l D y a' mth t tb tf ts cap clr mov hom wm nw wf wt nb fr bw bl no od ow ol ork olf oco at_ aw mp mpl msh msl mwa mse (xs (5 * kq + 1)) hw) hN hK hP hD hS hA 0 rfl rfl rfl hl rfl (Nat.le_of_ble_eq_true rfl) ⟨Nat.le_of_ble_eq_true rfl, Nat.le_of_ble_eq_true rfl⟩ ⟨by show cells + 1 + 0 ≤ 3144; omega, by show slots + 6 + 0 ≤ 125590; omega⟩ dL_law_669 (fun v w' H locs hq hP hD hS => ?_)
    rcases hq with ⟨hm, rfl, rfl⟩ | ⟨hm, r9, rfl, rfl⟩
    · have hP := z_nil hP
      have hD := z_nilD hD
      obtain ⟨bv, hbv⟩ : ∃ z : Int32, z = bI (badF wf wt nw (xs (5 * kq + 1))) := ⟨_, rfl⟩
      refine zr_top (y := bv) hbv.symm ?_
      refine lv_istore (lv' := [(7, Value.int bv), (6, Value.int 0), (0, Value.ref b), (1, Value.ref (a 0)), (2, Value.ref (a' 0)), (3, Value.ref o1), (4, Value.ref o2), (5, Value.int (nI (5 * kq)))]) hx hb dL_law_672 hl (by decide) rfl (fun ls hl => ?_)
      refine z_thr (P := 674) (tg := 709) C0 (c_X6_thrown l D y a' (0 : Int32) t tb tf ts cap clr mov hom wm nw wf wt nb fr bw bl no od ow ol ork olf oco at_ aw mp mpl msh msl mwa mse) rfl hP hD hS hl (lv_at hl 4 rfl) (lv_at hl 1 rfl) (rfl) dL_law_674 dL_law_675 dL_law_678 dL_law_680 dL_law_685 dL_law_687 (by decide) ⟨by show cells + 1 + 0 ≤ 3144; omega, by show slots + 6 + 0 ≤ 125590; omega⟩ (fun hz H locs hP hD hS => ?_) (fun hz H locs hP hD hS => ?_)
      · refine lv_goto (tgt := 2118) hx hb dL_law_709 (by decide) ?_
        refine W.widen (k := cells + 3) (n := slots + 18) (by omega) (by omega) ?_
        exact kk cap clr t hom mov wm tb tf ts nw wf wt nb bw bl bi bb no od ow ol ork ob olf oco pn pb pm pcd pw pli (0 : Int32) fr at_ aw mp mpl msh msl mwa mse _ _ _ _ _ (hR) hP hD hS (lv_sub hl [2, 3, 4, 5, 6, 7] rfl)
      · refine lv_aload_n hx hb dL_law_690 rfl (lv_at hl 5 rfl) ?_
        refine lv_iconst (v := 0) hx hb dL_law_691 (by decide) ?_
        refine z_lld2 hx hb hK hP dL_law_692 ?_
        refine lv_iload hx hb dL_law_693 (lv_at hl 0 rfl) ?_
        refine lv_if_eq (tgt := 702) hx hb dL_law_695 (by decide) (fun c9 => ?_) (fun c9 => ?_)
        · rw [hbv] at c9
          have c9 := bI_0 c9
          refine lv_lconst (v := 0) hx hb dL_law_702 (by decide) ?_
          refine W.lcmp hx hb dL_law_703 ?_
          refine zr_top (y := 0) (by rw [hv1, c9]; decide) ?_
          refine lv_if_eq (tgt := 709) hx hb dL_law_704 (by decide) (fun _ => ?_) (fun z => absurd rfl z)
          refine lv_goto (tgt := 2118) hx hb dL_law_709 (by decide) ?_
          refine W.widen (k := cells + 3) (n := slots + 18) (by omega) (by omega) ?_
          exact kk cap clr t hom mov wm tb tf ts nw wf wt nb bw bl bi bb no od ow ol ork ob olf oco pn pb pm pcd pw pli (0 : Int32) fr at_ aw mp mpl msh msl mwa mse _ _ _ _ _ (hR) hP hD hS (lv_sub hl [2, 3, 4, 5, 6, 7] rfl)
        · rw [hbv] at c9
          have c9 := bI_1 c9
          refine lv_lconst (v := 1) hx hb dL_law_698 (by decide) ?_
          refine lv_goto (tgt := 703) hx hb dL_law_699 (by decide) ?_
          refine W.lcmp hx hb dL_law_703 ?_
          refine zr_top (y := 0) (by rw [hv1, c9]; decide) ?_
          refine lv_if_eq (tgt := 709) hx hb dL_law_704 (by decide) (fun _ => ?_) (fun z => absurd rfl z)
          refine lv_goto (tgt := 2118) hx hb dL_law_709 (by decide) ?_
          refine W.widen (k := cells + 3) (n := slots + 18) (by omega) (by omega) ?_
          exact kk cap clr t hom mov wm tb tf ts nw wf wt nb bw bl bi bb no od ow ol ork ob olf oco pn pb pm pcd pw pli (0 : Int32) fr at_ aw mp mpl msh msl mwa mse _ _ _ _ _ (hR) hP hD hS (lv_sub hl [2, 3, 4, 5, 6, 7] rfl)
    · exact absurd (hc1) hm
  · refine lv_istore (lv' := [(6, Value.int (nI (hoC (xs (5 * kq + 1))))), (0, Value.ref b), (1, Value.ref (a 0)), (2, Value.ref (a' 0)), (3, Value.ref o1), (4, Value.ref o2), (5, Value.int (nI (5 * kq)))]) hx hb dL_law_660 hl (by decide) rfl (fun ls hl => ?_)
    refine lv_aload_n hx hb dL_law_662 rfl (lv_at hl 3 rfl) ?_
    refine z_arg (i := 1) C0 (by omega) hL hS (lv_at hl 1 rfl) (lv_at hl 6 rfl) (by decide) dL_law_663 dL_law_664 dL_law_666 dL_law_667 dL_law_668 ?_
    refine z_callVF (wa := []) (w1 := wM a' y mth (nI t) tb tf ts cap clr mov hom wm (nI nw) wf wt (nI nb) fr bw bl (nI no) od ow ol ork olf oco at_ aw mp mpl msh msl mwa mse) (wb := (wB a y cap clr (nI t) hom mov wm tb tf ts (nI nw) wf wt (nI nb) bw bl bi bb (nI no) od ow ol ork ob olf oco pn pb pm pcd pw pli ++ oL y o1 v0) ++ oD y o2 d0) (As := [Value.int (xs (5 * kq + 1))]) (rest := []) hx hb hml hown hta zm_X6_isBad wd_12_14 (c_X6_isBad l D y a' mth t tb tf ts cap clr mov hom wm nw wf wt nb fr bw bl no od ow ol ork olf oco at_ aw mp mpl msh msl mwa mse (xs (5 * kq + 1)) hw) hN hK hP hD hS hA 0 rfl rfl rfl hl rfl (Nat.le_of_ble_eq_true rfl) ⟨Nat.le_of_ble_eq_true rfl, Nat.le_of_ble_eq_true rfl⟩ ⟨by show cells + 1 + 0 ≤ 3144; omega, by show slots + 6 + 0 ≤ 125590; omega⟩ dL_law_669 (fun v w' H locs hq hP hD hS => ?_)
    rcases hq with ⟨hm, rfl, rfl⟩ | ⟨hm, r9, rfl, rfl⟩
    · exact absurd (hm) hc1
    · have hP := z_nil hP
      have hD := z_nilD hD
      refine lv_istore (lv' := [(7, Value.int r9), (6, Value.int (nI (hoC (xs (5 * kq + 1))))), (0, Value.ref b), (1, Value.ref (a 0)), (2, Value.ref (a' 0)), (3, Value.ref o1), (4, Value.ref o2), (5, Value.int (nI (5 * kq)))]) hx hb dL_law_672 hl (by decide) rfl (fun ls hl => ?_)
      refine z_thr (P := 674) (tg := 709) C0 (c_X6_thrown l D y a' (nI (hoC (xs (5 * kq + 1)))) t tb tf ts cap clr mov hom wm nw wf wt nb fr bw bl no od ow ol ork olf oco at_ aw mp mpl msh msl mwa mse) rfl hP hD hS hl (lv_at hl 4 rfl) (lv_at hl 1 rfl) (rfl) dL_law_674 dL_law_675 dL_law_678 dL_law_680 dL_law_685 dL_law_687 (by decide) ⟨by show cells + 1 + 0 ≤ 3144; omega, by show slots + 6 + 0 ≤ 125590; omega⟩ (fun hz H locs hP hD hS => ?_) (fun hz H locs hP hD hS => ?_)
      · refine lv_goto (tgt := 2118) hx hb dL_law_709 (by decide) ?_
        refine W.widen (k := cells + 3) (n := slots + 18) (by omega) (by omega) ?_
        exact kk cap clr t hom mov wm tb tf ts nw wf wt nb bw bl bi bb no od ow ol ork ob olf oco pn pb pm pcd pw pli (nI (hoC (xs (5 * kq + 1)))) fr at_ aw mp mpl msh msl mwa mse _ _ _ _ _ (hR) hP hD hS (lv_sub hl [2, 3, 4, 5, 6, 7] rfl)
      · exact absurd hz (nI_n0 hc1 c4_hoC)
