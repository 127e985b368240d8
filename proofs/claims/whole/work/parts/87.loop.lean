theorem and63 (x : Int32) : ∃ j, j < 64 ∧ x &&& 63 = nI j := by
  obtain ⟨m, _, hm⟩ := wb_of32 x
  rw [hm]
  exact ⟨m &&& 63, Nat.lt_succ_of_le Nat.and_le_right, nx_and m 63⟩
set_option maxHeartbeats 4000000 in
set_option maxRecDepth 100000 in
/-- THE LAW'S LOOP -/
theorem law_loop {p : Program} {l : Launch} {e : Env} {s : State} {m : MethodId} {below : List Frame} {meth : Method} {c : Code} {D : va_G} {y : Nat → ClassId} {b L : Nat} {xs : Nat → Int32} {a a' : Nat → Nat} {o1 o2 : Nat} (hlt : l.stackTraces = false) (C0 : LC p s m meth c b L xs D y) (hL : L ≤ 2560) : ∀ (n kq : Nat), 5 * kq ≤ L → L + 1 ≤ 5 * kq + n → LawK p l e s m below meth c D y b a a' o1 o2 kq (50 + 3 * kq) (6700 + 18 * kq) 28 (lw_Z below #[Value.ref b] s) := by
  intro n
  induction n with
  | zero => intro kq h1 h2; omega
  | succ n ih =>
    intro kq h1 h2
    have C1 := C0
    obtain ⟨hx, hb, hr, hml, hown, hta, hX, hbl, hlocks, hN, hH, hK⟩ := C1
    have K : 5 * kq + 5 ≤ L → LawK p l e s m below meth c D y b a a' o1 o2 kq (50 + 3 * kq + 3) (6700 + 18 * kq + 18) 2118 (lw_Z below #[Value.ref b] s) := by
      intro hk cap clr t hom mov wm tb tf ts nw wf wt nb bw bl bi bb no od ow ol ork ob olf oco pn pb pm pcd pw pli mth fr at_ aw mp mpl msh msl mwa mse v0 d0 H locs ls hR hP hD hS hl
      refine lv_iinc (v := nI (5 * (kq + 1))) (lv' := [(5, Value.int (nI (5 * (kq + 1)))), (0, Value.ref b), (1, Value.ref (a 0)), (2, Value.ref (a' 0)), (3, Value.ref o1), (4, Value.ref o2)]) hx hb dL_law_2118 hl (k := 5) rfl (by rw [show 5 * (kq + 1) = 5 * kq + 5 by omega]; exact nI_add (5 * kq) 5) (by decide) rfl (fun ls hl => ?_)
      refine lv_goto (tgt := 28) hx hb dL_law_2121 (by decide) ?_
      refine W.widen (k := 50 + 3 * (kq + 1)) (n := 6700 + 18 * (kq + 1)) (by omega) (by omega) ?_
      exact ih (kq + 1) (by omega) (by omega) cap clr t hom mov wm tb tf ts nw wf wt nb bw bl bi bb no od ow ol ork ob olf oco pn pb pm pcd pw pli mth fr at_ aw mp mpl msh msl mwa mse v0 d0 H locs ls hR hP hD hS (lv_sub hl [1, 2, 3, 4, 5, 0] rfl)
    intro cap clr t hom mov wm tb tf ts nw wf wt nb bw bl bi bb no od ow ol ork ob olf oco pn pb pm pcd pw pli mth fr at_ aw mp mpl msh msl mwa mse v0 d0 H locs ls hR hP hD hS hl
    have hbA : ¬ lwA s b := Nat.not_le.mpr hbl
    refine lv_iload hx hb dL_law_28 (lv_at hl 5 rfl) ?_
    refine lv_aload_n hx hb dL_law_30 rfl (lv_at hl 0 rfl) ?_
    refine va_slen hx hb hX hbl hbA hS dL_law_31 ?_
    refine lv_iconst (v := 5) hx hb dL_law_32 (by decide) ?_
    refine lv_isub hx hb dL_law_33 ?_
    have e5 : (Int32.ofNat L - 5).toInt = (L : Int) - 5 := pk_sub_toInt (a := L) (b := 5) (by omega) (by decide)
    have ek : (nI (5 * kq)).toInt = ((5 * kq : Nat) : Int) := nI_toInt (by omega)
    refine lv_icmp_gt (tgt := 2124) hx hb dL_law_34 (by decide) (fun c9 => ?_) (fun c9 => ?_)
    · refine lv_iconst (v := 1) hx hb dL_law_2124 (by decide) ?_
      refine va_forget (fun q hq => hS.2.2 q hq) ?_
      refine W.widen (k := 3144) (n := 125590) (by omega) (by omega) ?_
      refine W.base ?_
      exact lw_ret (Drawn.sameBut.refl s.drawn lw_cs) hx hb hr hlocks dL_law_2125
    · have hk : 5 * kq + 5 ≤ L := by
        rw [Int32.lt_iff_toInt_lt, e5, ek] at c9
        omega
      have K := K hk
      refine lv_aload_n hx hb dL_law_37 rfl (lv_at hl 0 rfl) ?_
      refine lv_iload hx hb dL_law_38 (lv_at hl 5 rfl) ?_
      refine va_sld hx hb hX hbl hbA hS (vp_in_nI (by omega) (by omega)) dL_law_40 ?_
      refine lv_bipush (v := 63) hx hb dL_law_41 (by decide) ?_
      refine lv_iand hx hb dL_law_43 ?_
      obtain ⟨j, hj, ej⟩ := and63 (xs (nI (5 * kq)).toNatClampNeg)
      refine zr_top (y := nI j) ej ?_
      have hc : (50 + 3 * kq) + 3 ≤ 3144 ∧ (6700 + 18 * kq) + 18 ≤ 125590 := ⟨by omega, by omega⟩
      clear ej
      have hd : j = 0 ∨ j = 1 ∨ j = 2 ∨ j = 3 ∨ j = 4 ∨ j = 5 ∨ j = 6 ∨ j = 7 ∨ j = 8 ∨ j = 9 ∨ j = 10 ∨ j = 11 ∨ j = 12 ∨ j = 13 ∨ j = 14 ∨ j = 15 ∨ j = 16 ∨ j = 17 ∨ j = 18 ∨ j = 19 ∨ j = 20 ∨ j = 21 ∨ j = 22 ∨ j = 23 ∨ j = 24 ∨ j = 25 ∨ j = 26 ∨ j = 27 ∨ j = 28 ∨ j = 29 ∨ j = 30 ∨ j = 31 ∨ j = 32 ∨ 33 ≤ j := by omega
      rcases hd with rfl | rfl | rfl | rfl | rfl | rfl | rfl | rfl | rfl | rfl | rfl | rfl | rfl | rfl | rfl | rfl | rfl | rfl | rfl | rfl | rfl | rfl | rfl | rfl | rfl | rfl | rfl | rfl | rfl | rfl | rfl | rfl | rfl | h33
      · refine lv_tableIn (off := 148) (tgt := 192) hx hb dL_law_44 (by decide) (by decide) (by decide) (by decide) ?_
        exact lc_0 hlt C0 hk hL hc K cap clr t hom mov wm tb tf ts nw wf wt nb bw bl bi bb no od ow ol ork ob olf oco pn pb pm pcd pw pli mth fr at_ aw mp mpl msh msl mwa mse v0 d0 H locs ls hR hP hD hS hl
      · refine lv_tableIn (off := 228) (tgt := 272) hx hb dL_law_44 (by decide) (by decide) (by decide) (by decide) ?_
        exact lc_1 hlt C0 hk hL hc K cap clr t hom mov wm tb tf ts nw wf wt nb bw bl bi bb no od ow ol ork ob olf oco pn pb pm pcd pw pli mth fr at_ aw mp mpl msh msl mwa mse v0 d0 H locs ls hR hP hD hS hl
      · refine lv_tableIn (off := 320) (tgt := 364) hx hb dL_law_44 (by decide) (by decide) (by decide) (by decide) ?_
        exact lc_2 hlt C0 hk hL hc K cap clr t hom mov wm tb tf ts nw wf wt nb bw bl bi bb no od ow ol ork ob olf oco pn pb pm pcd pw pli mth fr at_ aw mp mpl msh msl mwa mse v0 d0 H locs ls hR hP hD hS hl
      · refine lv_tableIn (off := 400) (tgt := 444) hx hb dL_law_44 (by decide) (by decide) (by decide) (by decide) ?_
        exact lc_3 hlt C0 hk hL hc K cap clr t hom mov wm tb tf ts nw wf wt nb bw bl bi bb no od ow ol ork ob olf oco pn pb pm pcd pw pli mth fr at_ aw mp mpl msh msl mwa mse v0 d0 H locs ls hR hP hD hS hl
      · refine lv_tableIn (off := 468) (tgt := 512) hx hb dL_law_44 (by decide) (by decide) (by decide) (by decide) ?_
        exact lc_4 hlt C0 hk hL hc K cap clr t hom mov wm tb tf ts nw wf wt nb bw bl bi bb no od ow ol ork ob olf oco pn pb pm pcd pw pli mth fr at_ aw mp mpl msh msl mwa mse v0 d0 H locs ls hR hP hD hS hl
      · refine lv_tableIn (off := 536) (tgt := 580) hx hb dL_law_44 (by decide) (by decide) (by decide) (by decide) ?_
        exact lc_5 hlt C0 hk hL hc K cap clr t hom mov wm tb tf ts nw wf wt nb bw bl bi bb no od ow ol ork ob olf oco pn pb pm pcd pw pli mth fr at_ aw mp mpl msh msl mwa mse v0 d0 H locs ls hR hP hD hS hl
      · refine lv_tableIn (off := 549) (tgt := 593) hx hb dL_law_44 (by decide) (by decide) (by decide) (by decide) ?_
        exact lc_6 hlt C0 hk hL hc K cap clr t hom mov wm tb tf ts nw wf wt nb bw bl bi bb no od ow ol ork ob olf oco pn pb pm pcd pw pli mth fr at_ aw mp mpl msh msl mwa mse v0 d0 H locs ls hR hP hD hS hl
      · refine lv_tableIn (off := 605) (tgt := 649) hx hb dL_law_44 (by decide) (by decide) (by decide) (by decide) ?_
        exact lc_7 hlt C0 hk hL hc K cap clr t hom mov wm tb tf ts nw wf wt nb bw bl bi bb no od ow ol ork ob olf oco pn pb pm pcd pw pli mth fr at_ aw mp mpl msh msl mwa mse v0 d0 H locs ls hR hP hD hS hl
      · refine lv_tableIn (off := 668) (tgt := 712) hx hb dL_law_44 (by decide) (by decide) (by decide) (by decide) ?_
        exact lc_8 hlt C0 hk hL hc K cap clr t hom mov wm tb tf ts nw wf wt nb bw bl bi bb no od ow ol ork ob olf oco pn pb pm pcd pw pli mth fr at_ aw mp mpl msh msl mwa mse v0 d0 H locs ls hR hP hD hS hl
      · refine lv_tableIn (off := 736) (tgt := 780) hx hb dL_law_44 (by decide) (by decide) (by decide) (by decide) ?_
        exact lc_9 hlt C0 hk hL hc K cap clr t hom mov wm tb tf ts nw wf wt nb bw bl bi bb no od ow ol ork ob olf oco pn pb pm pcd pw pli mth fr at_ aw mp mpl msh msl mwa mse v0 d0 H locs ls hR hP hD hS hl
      · refine lv_tableIn (off := 804) (tgt := 848) hx hb dL_law_44 (by decide) (by decide) (by decide) (by decide) ?_
        exact lc_10 hlt C0 hk hL hc K cap clr t hom mov wm tb tf ts nw wf wt nb bw bl bi bb no od ow ol ork ob olf oco pn pb pm pcd pw pli mth fr at_ aw mp mpl msh msl mwa mse v0 d0 H locs ls hR hP hD hS hl
      · refine lv_tableIn (off := 860) (tgt := 904) hx hb dL_law_44 (by decide) (by decide) (by decide) (by decide) ?_
        exact lc_11 hlt C0 hk hL hc K cap clr t hom mov wm tb tf ts nw wf wt nb bw bl bi bb no od ow ol ork ob olf oco pn pb pm pcd pw pli mth fr at_ aw mp mpl msh msl mwa mse v0 d0 H locs ls hR hP hD hS hl
      · refine lv_tableIn (off := 928) (tgt := 972) hx hb dL_law_44 (by decide) (by decide) (by decide) (by decide) ?_
        exact lc_12 hlt C0 hk hL hc K cap clr t hom mov wm tb tf ts nw wf wt nb bw bl bi bb no od ow ol ork ob olf oco pn pb pm pcd pw pli mth fr at_ aw mp mpl msh msl mwa mse v0 d0 H locs ls hR hP hD hS hl
      · refine lv_tableIn (off := 996) (tgt := 1040) hx hb dL_law_44 (by decide) (by decide) (by decide) (by decide) ?_
        exact lc_13 hlt C0 hk hL hc K cap clr t hom mov wm tb tf ts nw wf wt nb bw bl bi bb no od ow ol ork ob olf oco pn pb pm pcd pw pli mth fr at_ aw mp mpl msh msl mwa mse v0 d0 H locs ls hR hP hD hS hl
      · refine lv_tableIn (off := 1052) (tgt := 1096) hx hb dL_law_44 (by decide) (by decide) (by decide) (by decide) ?_
        exact lc_14 hlt C0 hk hL hc K cap clr t hom mov wm tb tf ts nw wf wt nb bw bl bi bb no od ow ol ork ob olf oco pn pb pm pcd pw pli mth fr at_ aw mp mpl msh msl mwa mse v0 d0 H locs ls hR hP hD hS hl
      · refine lv_tableIn (off := 1108) (tgt := 1152) hx hb dL_law_44 (by decide) (by decide) (by decide) (by decide) ?_
        exact lc_15 hlt C0 hk hL hc K cap clr t hom mov wm tb tf ts nw wf wt nb bw bl bi bb no od ow ol ork ob olf oco pn pb pm pcd pw pli mth fr at_ aw mp mpl msh msl mwa mse v0 d0 H locs ls hR hP hD hS hl
      · refine lv_tableIn (off := 1176) (tgt := 1220) hx hb dL_law_44 (by decide) (by decide) (by decide) (by decide) ?_
        exact lc_16 hlt C0 hk hL hc K cap clr t hom mov wm tb tf ts nw wf wt nb bw bl bi bb no od ow ol ork ob olf oco pn pb pm pcd pw pli mth fr at_ aw mp mpl msh msl mwa mse v0 d0 H locs ls hR hP hD hS hl
      · refine lv_tableIn (off := 1244) (tgt := 1288) hx hb dL_law_44 (by decide) (by decide) (by decide) (by decide) ?_
        exact lc_17 hlt C0 hk hL hc K cap clr t hom mov wm tb tf ts nw wf wt nb bw bl bi bb no od ow ol ork ob olf oco pn pb pm pcd pw pli mth fr at_ aw mp mpl msh msl mwa mse v0 d0 H locs ls hR hP hD hS hl
      · refine lv_tableIn (off := 1300) (tgt := 1344) hx hb dL_law_44 (by decide) (by decide) (by decide) (by decide) ?_
        exact lc_18 hlt C0 hk hL hc K cap clr t hom mov wm tb tf ts nw wf wt nb bw bl bi bb no od ow ol ork ob olf oco pn pb pm pcd pw pli mth fr at_ aw mp mpl msh msl mwa mse v0 d0 H locs ls hR hP hD hS hl
      · refine lv_tableIn (off := 1344) (tgt := 1388) hx hb dL_law_44 (by decide) (by decide) (by decide) (by decide) ?_
        exact lc_19 hlt C0 hk hL hc K cap clr t hom mov wm tb tf ts nw wf wt nb bw bl bi bb no od ow ol ork ob olf oco pn pb pm pcd pw pli mth fr at_ aw mp mpl msh msl mwa mse v0 d0 H locs ls hR hP hD hS hl
      · refine lv_tableIn (off := 1400) (tgt := 1444) hx hb dL_law_44 (by decide) (by decide) (by decide) (by decide) ?_
        exact lc_20 hlt C0 hk hL hc K cap clr t hom mov wm tb tf ts nw wf wt nb bw bl bi bb no od ow ol ork ob olf oco pn pb pm pcd pw pli mth fr at_ aw mp mpl msh msl mwa mse v0 d0 H locs ls hR hP hD hS hl
      · refine lv_tableIn (off := 1456) (tgt := 1500) hx hb dL_law_44 (by decide) (by decide) (by decide) (by decide) ?_
        exact lc_21 hlt C0 hk hL hc K cap clr t hom mov wm tb tf ts nw wf wt nb bw bl bi bb no od ow ol ork ob olf oco pn pb pm pcd pw pli mth fr at_ aw mp mpl msh msl mwa mse v0 d0 H locs ls hR hP hD hS hl
      · refine lv_tableIn (off := 1512) (tgt := 1556) hx hb dL_law_44 (by decide) (by decide) (by decide) (by decide) ?_
        exact lc_22 hlt C0 hk hL hc K cap clr t hom mov wm tb tf ts nw wf wt nb bw bl bi bb no od ow ol ork ob olf oco pn pb pm pcd pw pli mth fr at_ aw mp mpl msh msl mwa mse v0 d0 H locs ls hR hP hD hS hl
      · refine lv_tableIn (off := 1580) (tgt := 1624) hx hb dL_law_44 (by decide) (by decide) (by decide) (by decide) ?_
        exact lc_23 hlt C0 hk hL hc K cap clr t hom mov wm tb tf ts nw wf wt nb bw bl bi bb no od ow ol ork ob olf oco pn pb pm pcd pw pli mth fr at_ aw mp mpl msh msl mwa mse v0 d0 H locs ls hR hP hD hS hl
      · refine lv_tableIn (off := 1636) (tgt := 1680) hx hb dL_law_44 (by decide) (by decide) (by decide) (by decide) ?_
        exact lc_24 hlt C0 hk hL hc K cap clr t hom mov wm tb tf ts nw wf wt nb bw bl bi bb no od ow ol ork ob olf oco pn pb pm pcd pw pli mth fr at_ aw mp mpl msh msl mwa mse v0 d0 H locs ls hR hP hD hS hl
      · refine lv_tableIn (off := 1692) (tgt := 1736) hx hb dL_law_44 (by decide) (by decide) (by decide) (by decide) ?_
        exact lc_25 hlt C0 hk hL hc K cap clr t hom mov wm tb tf ts nw wf wt nb bw bl bi bb no od ow ol ork ob olf oco pn pb pm pcd pw pli mth fr at_ aw mp mpl msh msl mwa mse v0 d0 H locs ls hR hP hD hS hl
      · refine lv_tableIn (off := 1748) (tgt := 1792) hx hb dL_law_44 (by decide) (by decide) (by decide) (by decide) ?_
        exact lc_26 hlt C0 hk hL hc K cap clr t hom mov wm tb tf ts nw wf wt nb bw bl bi bb no od ow ol ork ob olf oco pn pb pm pcd pw pli mth fr at_ aw mp mpl msh msl mwa mse v0 d0 H locs ls hR hP hD hS hl
      · refine lv_tableIn (off := 1804) (tgt := 1848) hx hb dL_law_44 (by decide) (by decide) (by decide) (by decide) ?_
        exact lc_27 hlt C0 hk hL hc K cap clr t hom mov wm tb tf ts nw wf wt nb bw bl bi bb no od ow ol ork ob olf oco pn pb pm pcd pw pli mth fr at_ aw mp mpl msh msl mwa mse v0 d0 H locs ls hR hP hD hS hl
      · refine lv_tableIn (off := 1817) (tgt := 1861) hx hb dL_law_44 (by decide) (by decide) (by decide) (by decide) ?_
        exact lc_28 hlt C0 hk hL hc K cap clr t hom mov wm tb tf ts nw wf wt nb bw bl bi bb no od ow ol ork ob olf oco pn pb pm pcd pw pli mth fr at_ aw mp mpl msh msl mwa mse v0 d0 H locs ls hR hP hD hS hl
      · refine lv_tableIn (off := 1873) (tgt := 1917) hx hb dL_law_44 (by decide) (by decide) (by decide) (by decide) ?_
        exact lc_29 hlt C0 hk hL hc K cap clr t hom mov wm tb tf ts nw wf wt nb bw bl bi bb no od ow ol ork ob olf oco pn pb pm pcd pw pli mth fr at_ aw mp mpl msh msl mwa mse v0 d0 H locs ls hR hP hD hS hl
      · refine lv_tableIn (off := 1929) (tgt := 1973) hx hb dL_law_44 (by decide) (by decide) (by decide) (by decide) ?_
        exact lc_30 hlt C0 hk hL hc K cap clr t hom mov wm tb tf ts nw wf wt nb bw bl bi bb no od ow ol ork ob olf oco pn pb pm pcd pw pli mth fr at_ aw mp mpl msh msl mwa mse v0 d0 H locs ls hR hP hD hS hl
      · refine lv_tableIn (off := 1943) (tgt := 1987) hx hb dL_law_44 (by decide) (by decide) (by decide) (by decide) ?_
        exact lc_31 hlt C0 hk hL hc K cap clr t hom mov wm tb tf ts nw wf wt nb bw bl bi bb no od ow ol ork ob olf oco pn pb pm pcd pw pli mth fr at_ aw mp mpl msh msl mwa mse v0 d0 H locs ls hR hP hD hS hl
      · refine lv_tableIn (off := 2009) (tgt := 2053) hx hb dL_law_44 (by decide) (by decide) (by decide) (by decide) ?_
        exact lc_32 hlt C0 hk hL hc K cap clr t hom mov wm tb tf ts nw wf wt nb bw bl bi bb no od ow ol ork ob olf oco pn pb pm pcd pw pli mth fr at_ aw mp mpl msh msl mwa mse v0 d0 H locs ls hR hP hD hS hl
      · refine lv_tableOut (tgt := 2118) hx hb dL_law_44 (Or.inr (by rw [nI_toInt (by omega)]; omega)) (by decide) ?_
        refine W.widen (k := 50 + 3 * kq + 3) (n := 6700 + 18 * kq + 18) (by omega) (by omega) ?_
        exact K cap clr t hom mov wm tb tf ts nw wf wt nb bw bl bi bb no od ow ol ork ob olf oco pn pb pm pcd pw pli mth fr at_ aw mp mpl msh msl mwa mse v0 d0 H locs ls hR hP hD hS hl
