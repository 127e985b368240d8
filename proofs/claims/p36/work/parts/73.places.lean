set_option maxHeartbeats 20000000 in
set_option maxRecDepth 100000 in
theorem c_L_places (l : Launch) (hlt : l.stackTraces = false) (D : va_G) (y : Nat → ClassId) (a : Nat → Nat) (cap clr : Int32) (t : Nat) (hom mov : Int32) (wm : Int64) (tb tf ts : Int32) (nw : Nat) (wf wt bw bl bi bb od ow ol ork ob olf oco : Nat → Int32) (pn pb pm : Int32) (pcd pw pli : Nat → Int32) (hbb : ∀ j, j < 5 → bb j = -1) (hob : ∀ j, j < 6 → ob j = -1) (hol : ∀ j, j < 6 → olf j = 0) (b : Nat) : zL l D y yL_places cL_places 8 (some .boolean) 11 82 492 181 b [Value.ref (a 0), Value.int (nI 5), Value.int (nI 6)] (wB a y cap clr (nI t) hom mov wm tb tf ts (nI nw) wf wt (nI 5) bw bl bi bb (nI 6) od ow ol ork ob olf oco pn pb pm pcd pw pli) (fun o9 w9 => o9 = some (Value.int (nI 1)) ∧ w9 = wB a y cap clr (nI t) hom mov wm tb tf ts (nI nw) wf wt (nI 5) bw bl bi bb (nI 6) od ow ol ork ob olf oco pn pb pm pcd pw pli) 23 := by
  refine zL.of (by decide +kernel) (Nat.le_of_ble_eq_true rfl) ?_
  intro p e s m args below meth c A ls hx hb hr hta hown hlocks hml hH hX hbl hbA hN hK hP hD hS hA hl
  refine z_gen (fun G hG => ?_)
  have hg : s.heap.size + 0 ≤ s.heap.size := Nat.le_refl _
  have hl : lv_has ls 8 [(0, Value.ref (a 0)), (1, Value.int (nI 5)), (2, Value.int (nI 6))] := hl
  refine lv_iconst (v := nI 0) hx hb dL_places_0 (by decide) ?_
  refine lv_istore_n (lv' := [(3, Value.int (nI 0)), (0, Value.ref (a 0)), (1, Value.int (nI 5)), (2, Value.int (nI 6))]) hx hb dL_places_1 rfl hl (by decide) rfl (fun ls hl => ?_)
  refine lv_iload_n hx hb dL_places_2 rfl (lv_at hl 0 rfl) ?_
  refine lv_iload_n hx hb dL_places_3 rfl (lv_at hl 3 rfl) ?_
  refine lv_icmp_ge (tgt := 224) hx hb dL_places_4 (by decide) (fun h9 => absurd h9 (by decide)) (fun _ => ?_)
  refine lv_aload_n hx hb dL_places_7 rfl (lv_at hl 1 rfl) ?_
  refine lv_iload_n hx hb dL_places_8 rfl (lv_at hl 0 rfl) ?_
  refine z_callW (As := [Value.ref (a 0), Value.int (nI 0)]) (rest := []) hx hb hml hown hta zw_state wd_10_8 (c_L_state l hlt D y a cap clr t hom mov wm tb tf ts nw wf wt 5 bw bl bi bb 6 od ow ol ork ob olf oco pn pb pm pcd pw pli (nI 0) (by decide) (by decide +kernel) b) hH hX hbl hbA hN hK hP hD hS hA rfl hl rfl (Nat.le_of_ble_eq_true rfl) ⟨(Nat.le_of_ble_eq_true rfl), (Nat.le_of_ble_eq_true rfl)⟩ ⟨(Nat.le_of_ble_eq_true rfl), (Nat.le_of_ble_eq_true rfl)⟩ dL_places_9 (fun v w' H locs hq hP hD hS hn => ?_)
  obtain ⟨rfl, rfl⟩ := hq
  have hg : s.heap.size + 0 ≤ H.size := Nat.le_trans hg hn
  refine zr_top (y := nI 119) (by show stF ob 0 = nI 119; rw [stF, if_pos (hob 0 (by decide))]; decide) ?_
  refine lv_istore (lv' := [(4, Value.int (nI 119)), (3, Value.int (nI 0)), (0, Value.ref (a 0)), (1, Value.int (nI 5)), (2, Value.int (nI 6))]) hx hb dL_places_12 hl (by decide) rfl (fun ls hl => ?_)
  refine lv_aload_n hx hb dL_places_14 rfl (lv_at hl 2 rfl) ?_
  refine lv_iload_n hx hb dL_places_15 rfl (lv_at hl 1 rfl) ?_
  refine z_callW (As := [Value.ref (a 0), Value.int (nI 0)]) (rest := []) hx hb hml hown hta zw_berthOf wd_11_13 (c_L_berthOf l hlt D y a cap clr t hom mov wm tb tf ts nw wf wt 5 bw bl bi bb 6 od ow ol ork ob olf oco pn pb pm pcd pw pli (nI 0) (by decide) (by decide) (by rw [beC, if_pos (by decide +kernel), if_neg (by rw [show nN (nI 0) = 0 from rfl, hob 0 (by decide)]; decide +kernel)]) b) hH hX hbl hbA hN hK hP hD hS hA rfl hl rfl (Nat.le_of_ble_eq_true rfl) ⟨(Nat.le_of_ble_eq_true rfl), (Nat.le_of_ble_eq_true rfl)⟩ ⟨(Nat.le_of_ble_eq_true rfl), (Nat.le_of_ble_eq_true rfl)⟩ dL_places_16 (fun v w' H locs hq hP hD hS hn => ?_)
  obtain ⟨rfl, rfl⟩ := hq
  have hg : s.heap.size + 1 ≤ H.size := Nat.le_trans (Nat.add_le_add_right hg 1) hn
  refine lv_istore (lv' := [(5, Value.int (-1002 : Int32)), (4, Value.int (nI 119)), (3, Value.int (nI 0)), (0, Value.ref (a 0)), (1, Value.int (nI 5)), (2, Value.int (nI 6))]) hx hb dL_places_19 hl (by decide) rfl (fun ls hl => ?_)
  refine lv_iload hx hb dL_places_21 (lv_at hl 1 rfl) ?_
  refine lv_bipush (v := nI 119) hx hb dL_places_23 (by decide) ?_
  refine lv_icmp_eq (tgt := 42) hx hb dL_places_25 (by decide) (fun _ => ?_) (fun h9 => absurd (by decide) h9)
  refine lv_iload hx hb dL_places_42 (lv_at hl 1 rfl) ?_
  refine lv_bipush (v := nI 98) hx hb dL_places_44 (by decide) ?_
  refine lv_icmp_ne (tgt := 53) hx hb dL_places_46 (by decide) (fun _ => ?_) (fun h9 => absurd h9 (by decide))
  refine lv_iconst (v := nI 0) hx hb dL_places_53 (by decide) ?_
  refine lv_iload hx hb dL_places_54 (lv_at hl 0 rfl) ?_
  refine lv_if_lt (tgt := 63) hx hb dL_places_56 (by decide) (fun _ => ?_) (fun h9 => absurd (by decide) h9)
  refine lv_iconst (v := nI 0) hx hb dL_places_63 (by decide) ?_
  refine lv_icmp_ne (tgt := 97) hx hb dL_places_64 (by decide) (fun h9 => absurd h9 (by decide)) (fun _ => ?_)
  refine lv_iload hx hb dL_places_67 (lv_at hl 0 rfl) ?_
  refine lv_if_lt (tgt := 82) hx hb dL_places_69 (by decide) (fun _ => ?_) (fun h9 => absurd (by decide) h9)
  refine lv_iload hx hb dL_places_82 (lv_at hl 1 rfl) ?_
  refine lv_bipush (v := nI 98) hx hb dL_places_84 (by decide) ?_
  refine lv_icmp_eq (tgt := 99) hx hb dL_places_86 (by decide) (fun h9 => absurd h9 (by decide)) (fun _ => ?_)
  refine lv_aload_n hx hb dL_places_89 rfl (lv_at hl 3 rfl) ?_
  refine lv_iload_n hx hb dL_places_90 rfl (lv_at hl 2 rfl) ?_
  refine z_callW (As := [Value.ref (a 0), Value.int (nI 0)]) (rest := []) hx hb hml hown hta zw_dryLeft wd_11_20 (c_L_dryLeft l hlt D y a cap clr t hom mov wm tb tf ts nw wf wt 5 bw bl bi bb 6 od ow ol ork ob olf oco pn pb pm pcd pw pli (nI 0) (by decide) (by decide +kernel) b) hH hX hbl hbA hN hK hP hD hS hA rfl hl rfl (Nat.le_of_ble_eq_true rfl) ⟨(Nat.le_of_ble_eq_true rfl), (Nat.le_of_ble_eq_true rfl)⟩ ⟨(Nat.le_of_ble_eq_true rfl), (Nat.le_of_ble_eq_true rfl)⟩ dL_places_91 (fun v w' H locs hq hP hD hS hn => ?_)
  obtain ⟨rfl, rfl⟩ := hq
  have hg : s.heap.size + 1 ≤ H.size := Nat.le_trans hg hn
  refine zr_top (y := nI 0) (hol 0 (by decide)) ?_
  refine lv_if_eq (tgt := 99) hx hb dL_places_94 (by decide) (fun _ => ?_) (fun h9 => absurd (by decide) h9)
  refine lv_aload_n hx hb dL_places_99 rfl (lv_at hl 3 rfl) ?_
  refine lv_iload_n hx hb dL_places_100 rfl (lv_at hl 2 rfl) ?_
  refine z_callW (As := [Value.ref (a 0), Value.int (nI 0)]) (rest := []) hx hb hml hown hta zw_dryAt wd_21_16 (c_L_dryAt l hlt D y a cap clr t hom mov wm tb tf ts nw wf wt 5 bw bl bi bb 6 od ow ol ork ob olf oco pn pb pm pcd pw pli (nI 0) (by decide) (hol 0 (by decide)) (by decide +kernel) b) hH hX hbl hbA hN hK hP hD hS hA rfl hl rfl (Nat.le_of_ble_eq_true rfl) ⟨(Nat.le_of_ble_eq_true rfl), (Nat.le_of_ble_eq_true rfl)⟩ ⟨(Nat.le_of_ble_eq_true rfl), (Nat.le_of_ble_eq_true rfl)⟩ dL_places_101 (fun v w' H locs hq hP hD hS hn => ?_)
  obtain ⟨rfl, rfl⟩ := hq
  have hg : s.heap.size + 1 ≤ H.size := Nat.le_trans hg hn
  refine lv_istore (lv' := [(6, Value.int (nI t)), (5, Value.int (-1002 : Int32)), (4, Value.int (nI 119)), (3, Value.int (nI 0)), (0, Value.ref (a 0)), (1, Value.int (nI 5)), (2, Value.int (nI 6))]) hx hb dL_places_104 hl (by decide) rfl (fun ls hl => ?_)
  refine lv_iload hx hb dL_places_106 (lv_at hl 0 rfl) ?_
  refine lv_aload_n hx hb dL_places_108 rfl (lv_at hl 4 rfl) ?_
  refine lv_iload_n hx hb dL_places_109 rfl (lv_at hl 3 rfl) ?_
  refine z_callW (As := [Value.ref (a 0), Value.int (nI 0)]) (rest := [Value.int (nI t)]) hx hb hml hown hta zw_dryByHours wd_22_15 (c_L_dryByHours l hlt D y a cap clr t hom mov wm tb tf ts nw wf wt 5 bw bl bi bb 6 od ow ol ork ob olf oco pn pb pm pcd pw pli (nI 0) (by decide) (hol 0 (by decide)) (by decide +kernel) b) hH hX hbl hbA hN hK hP hD hS hA rfl hl rfl (Nat.le_of_ble_eq_true rfl) ⟨(Nat.le_of_ble_eq_true rfl), (Nat.le_of_ble_eq_true rfl)⟩ ⟨(Nat.le_of_ble_eq_true rfl), (Nat.le_of_ble_eq_true rfl)⟩ dL_places_110 (fun v w' H locs hq hP hD hS hn => ?_)
  obtain ⟨rfl, rfl⟩ := hq
  have hg : s.heap.size + 1 ≤ H.size := Nat.le_trans hg hn
  refine lv_icmp_ne (tgt := 161) hx hb dL_places_113 (by decide) (fun h9 => absurd rfl h9) (fun _ => ?_)
  refine lv_iload hx hb dL_places_116 (lv_at hl 0 rfl) ?_
  refine lv_aload_n hx hb dL_places_118 rfl (lv_at hl 4 rfl) ?_
  refine z_callVg (As := []) (rest := [Value.int (nI t)]) hx hb hml hown hta zm_X5_time wd_19_1 (c_X5_time l D y a cap clr t hom mov wm tb tf ts nw wf wt 5 bw bl bi bb 6 od ow ol ork ob olf oco pn pb pm pcd pw pli) hN hK hP hD hS hA 0 rfl rfl rfl hl rfl (Nat.le_of_ble_eq_true rfl) ⟨(Nat.le_of_ble_eq_true rfl), (Nat.le_of_ble_eq_true rfl)⟩ ⟨(Nat.le_of_ble_eq_true rfl), (Nat.le_of_ble_eq_true rfl)⟩ dL_places_119 (fun v w' H locs hq hP hD hS hn => ?_)
  obtain ⟨rfl, rfl⟩ := hq
  have hg : s.heap.size + 1 ≤ H.size := Nat.le_trans hg hn
  refine lv_aload_n hx hb dL_places_122 rfl (lv_at hl 4 rfl) ?_
  refine lv_iload_n hx hb dL_places_123 rfl (lv_at hl 3 rfl) ?_
  refine z_callW (As := [Value.ref (a 0), Value.int (nI 0)]) (rest := [Value.int (nI t), Value.int (nI t)]) hx hb hml hown hta zw_dryLeft wd_11_20 (c_L_dryLeft l hlt D y a cap clr t hom mov wm tb tf ts nw wf wt 5 bw bl bi bb 6 od ow ol ork ob olf oco pn pb pm pcd pw pli (nI 0) (by decide) (by decide +kernel) b) hH hX hbl hbA hN hK hP hD hS hA rfl hl rfl (Nat.le_of_ble_eq_true rfl) ⟨(Nat.le_of_ble_eq_true rfl), (Nat.le_of_ble_eq_true rfl)⟩ ⟨(Nat.le_of_ble_eq_true rfl), (Nat.le_of_ble_eq_true rfl)⟩ dL_places_124 (fun v w' H locs hq hP hD hS hn => ?_)
  obtain ⟨rfl, rfl⟩ := hq
  have hg : s.heap.size + 1 ≤ H.size := Nat.le_trans hg hn
  refine zr_top (y := nI 0) (hol 0 (by decide)) ?_
  refine lv_iadd hx hb dL_places_127 ?_
  refine zr_top (y := nI t) (nI_add t 0) ?_
  refine lv_icmp_lt (tgt := 161) hx hb dL_places_128 (by decide) (fun h9 => (Int32.lt_irrefl h9).elim) (fun _ => ?_)
  refine lv_iload hx hb dL_places_131 (lv_at hl 0 rfl) ?_
  refine lv_aload_n hx hb dL_places_133 rfl (lv_at hl 4 rfl) ?_
  refine z_callVg (As := []) (rest := [Value.int (nI t)]) hx hb hml hown hta zm_X5_time wd_19_1 (c_X5_time l D y a cap clr t hom mov wm tb tf ts nw wf wt 5 bw bl bi bb 6 od ow ol ork ob olf oco pn pb pm pcd pw pli) hN hK hP hD hS hA 0 rfl rfl rfl hl rfl (Nat.le_of_ble_eq_true rfl) ⟨(Nat.le_of_ble_eq_true rfl), (Nat.le_of_ble_eq_true rfl)⟩ ⟨(Nat.le_of_ble_eq_true rfl), (Nat.le_of_ble_eq_true rfl)⟩ dL_places_134 (fun v w' H locs hq hP hD hS hn => ?_)
  obtain ⟨rfl, rfl⟩ := hq
  have hg : s.heap.size + 1 ≤ H.size := Nat.le_trans hg hn
  refine lv_icmp_ne (tgt := 144) hx hb dL_places_137 (by decide) (fun h9 => absurd rfl h9) (fun _ => ?_)
  refine lv_iconst (v := nI 1) hx hb dL_places_140 (by decide) ?_
  refine lv_goto (tgt := 145) hx hb dL_places_141 (by decide) ?_
  refine lv_aload_n hx hb dL_places_145 rfl (lv_at hl 4 rfl) ?_
  refine lv_iload_n hx hb dL_places_146 rfl (lv_at hl 3 rfl) ?_
  refine z_callW (As := [Value.ref (a 0), Value.int (nI 0)]) (rest := [Value.int (nI 1)]) hx hb hml hown hta zw_dryLeft wd_11_20 (c_L_dryLeft l hlt D y a cap clr t hom mov wm tb tf ts nw wf wt 5 bw bl bi bb 6 od ow ol ork ob olf oco pn pb pm pcd pw pli (nI 0) (by decide) (by decide +kernel) b) hH hX hbl hbA hN hK hP hD hS hA rfl hl rfl (Nat.le_of_ble_eq_true rfl) ⟨(Nat.le_of_ble_eq_true rfl), (Nat.le_of_ble_eq_true rfl)⟩ ⟨(Nat.le_of_ble_eq_true rfl), (Nat.le_of_ble_eq_true rfl)⟩ dL_places_147 (fun v w' H locs hq hP hD hS hn => ?_)
  obtain ⟨rfl, rfl⟩ := hq
  have hg : s.heap.size + 1 ≤ H.size := Nat.le_trans hg hn
  refine zr_top (y := nI 0) (hol 0 (by decide)) ?_
  refine lv_if_ne (tgt := 157) hx hb dL_places_150 (by decide) (fun h9 => absurd h9 (by decide)) (fun _ => ?_)
  refine lv_iconst (v := nI 1) hx hb dL_places_153 (by decide) ?_
  refine lv_goto (tgt := 158) hx hb dL_places_154 (by decide) ?_
  refine lv_icmp_eq (tgt := 163) hx hb dL_places_158 (by decide) (fun _ => ?_) (fun h9 => absurd (by decide) h9)
  refine lv_aload_n hx hb dL_places_163 rfl (lv_at hl 4 rfl) ?_
  refine lv_iload_n hx hb dL_places_164 rfl (lv_at hl 3 rfl) ?_
  refine z_callW (As := [Value.ref (a 0), Value.int (nI 0)]) (rest := []) hx hb hml hown hta zw_leastShifted wd_12_4 (c_L_leastShifted l hlt D y a cap clr t hom mov wm tb tf ts nw wf wt 5 bw bl bi bb 6 od ow ol ork ob olf oco pn pb pm pcd pw pli (nI 0) (by decide) (by decide) (by decide +kernel) (fun j9 h8 h9 => by rw [hob j9 h8]; decide +kernel) b) hH hX hbl hbA hN hK hP hD hS hA rfl hl rfl (Nat.le_of_ble_eq_true rfl) ⟨(Nat.le_of_ble_eq_true rfl), (Nat.le_of_ble_eq_true rfl)⟩ ⟨(Nat.le_of_ble_eq_true rfl), (Nat.le_of_ble_eq_true rfl)⟩ dL_places_165 (fun v w' H locs hq hP hD hS hn => ?_)
  obtain ⟨rfl, rfl⟩ := hq
  have hg : s.heap.size + 2 ≤ H.size := Nat.le_trans (Nat.add_le_add_right hg 1) hn
  refine lv_istore (lv' := [(7, Value.int (-1002 : Int32)), (6, Value.int (nI t)), (5, Value.int (-1002 : Int32)), (4, Value.int (nI 119)), (3, Value.int (nI 0)), (0, Value.ref (a 0)), (1, Value.int (nI 5)), (2, Value.int (nI 6))]) hx hb dL_places_168 hl (by decide) rfl (fun ls hl => ?_)
  refine lv_iload hx hb dL_places_170 (lv_at hl 0 rfl) ?_
  refine lv_aload_n hx hb dL_places_172 rfl (lv_at hl 5 rfl) ?_
  refine lv_iload_n hx hb dL_places_173 rfl (lv_at hl 4 rfl) ?_
  refine z_callW (As := [Value.ref (a 0), Value.int (nI 0)]) (rest := [Value.int (-1002 : Int32)]) hx hb hml hown hta zw_leastByRounds wd_23_3 (c_L_leastByRounds l hlt D y a cap clr t hom mov wm tb tf ts nw wf wt 5 bw bl bi bb 6 od ow ol ork ob olf oco pn pb pm pcd pw pli (nI 0) (by decide) (by decide) (by decide +kernel) (fun j9 h8 h9 => by rw [hob j9 h8]; decide +kernel) b) hH hX hbl hbA hN hK hP hD hS hA rfl hl rfl (Nat.le_of_ble_eq_true rfl) ⟨(Nat.le_of_ble_eq_true rfl), (Nat.le_of_ble_eq_true rfl)⟩ ⟨(Nat.le_of_ble_eq_true rfl), (Nat.le_of_ble_eq_true rfl)⟩ dL_places_174 (fun v w' H locs hq hP hD hS hn => ?_)
  obtain ⟨rfl, rfl⟩ := hq
  have hg : s.heap.size + 3 ≤ H.size := Nat.le_trans (Nat.add_le_add_right hg 1) hn
  refine lv_icmp_ne (tgt := 216) hx hb dL_places_177 (by decide) (fun h9 => absurd h9 (by decide)) (fun _ => ?_)
  refine lv_iload hx hb dL_places_180 (lv_at hl 0 rfl) ?_
  refine lv_sipush (v := (-1002 : Int32)) hx hb dL_places_182 (by decide) ?_
  refine lv_icmp_ne (tgt := 192) hx hb dL_places_185 (by decide) (fun h9 => absurd h9 (by decide)) (fun _ => ?_)
  refine lv_iconst (v := nI 1) hx hb dL_places_188 (by decide) ?_
  refine lv_goto (tgt := 193) hx hb dL_places_189 (by decide) ?_
  refine lv_iload hx hb dL_places_193 (lv_at hl 3 rfl) ?_
  refine lv_bipush (v := nI 98) hx hb dL_places_195 (by decide) ?_
  refine lv_icmp_eq (tgt := 204) hx hb dL_places_197 (by decide) (fun h9 => absurd h9 (by decide)) (fun _ => ?_)
  refine lv_iconst (v := nI 1) hx hb dL_places_200 (by decide) ?_
  refine lv_goto (tgt := 205) hx hb dL_places_201 (by decide) ?_
  refine lv_icmp_ne (tgt := 216) hx hb dL_places_205 (by decide) (fun h9 => absurd h9 (by decide)) (fun _ => ?_)
  refine lv_iload hx hb dL_places_208 (lv_at hl 0 rfl) ?_
  refine lv_sipush (v := (-1003 : Int32)) hx hb dL_places_210 (by decide) ?_
  refine lv_icmp_ge (tgt := 218) hx hb dL_places_213 (by decide) (fun _ => ?_) (fun h9 => absurd (by decide) h9)
  refine lv_iinc (v := nI 1) (lv' := [(3, Value.int (nI 1)), (7, Value.int (-1002 : Int32)), (6, Value.int (nI t)), (5, Value.int (-1002 : Int32)), (4, Value.int (nI 119)), (0, Value.ref (a 0)), (1, Value.int (nI 5)), (2, Value.int (nI 6))]) hx hb dL_places_218 hl (k := 4) rfl (nI_add 0 1) (by decide) rfl (fun ls hl => ?_)
  refine lv_goto (tgt := 2) hx hb dL_places_221 (by decide) ?_
  refine lv_iload_n hx hb dL_places_2 rfl (lv_at hl 0 rfl) ?_
  refine lv_iload_n hx hb dL_places_3 rfl (lv_at hl 7 rfl) ?_
  refine lv_icmp_ge (tgt := 224) hx hb dL_places_4 (by decide) (fun h9 => absurd h9 (by decide)) (fun _ => ?_)
  refine lv_aload_n hx hb dL_places_7 rfl (lv_at hl 5 rfl) ?_
  refine lv_iload_n hx hb dL_places_8 rfl (lv_at hl 0 rfl) ?_
  refine z_callW (As := [Value.ref (a 0), Value.int (nI 1)]) (rest := []) hx hb hml hown hta zw_state wd_10_8 (c_L_state l hlt D y a cap clr t hom mov wm tb tf ts nw wf wt 5 bw bl bi bb 6 od ow ol ork ob olf oco pn pb pm pcd pw pli (nI 1) (by decide) (by decide +kernel) b) hH hX hbl hbA hN hK hP hD hS hA rfl hl rfl (Nat.le_of_ble_eq_true rfl) ⟨(Nat.le_of_ble_eq_true rfl), (Nat.le_of_ble_eq_true rfl)⟩ ⟨(Nat.le_of_ble_eq_true rfl), (Nat.le_of_ble_eq_true rfl)⟩ dL_places_9 (fun v w' H locs hq hP hD hS hn => ?_)
  obtain ⟨rfl, rfl⟩ := hq
  have hg : s.heap.size + 3 ≤ H.size := Nat.le_trans hg hn
  refine zr_top (y := nI 119) (by show stF ob 1 = nI 119; rw [stF, if_pos (hob 1 (by decide))]; decide) ?_
  refine lv_istore (lv' := [(4, Value.int (nI 119)), (3, Value.int (nI 1)), (7, Value.int (-1002 : Int32)), (6, Value.int (nI t)), (5, Value.int (-1002 : Int32)), (0, Value.ref (a 0)), (1, Value.int (nI 5)), (2, Value.int (nI 6))]) hx hb dL_places_12 hl (by decide) rfl (fun ls hl => ?_)
  refine lv_aload_n hx hb dL_places_14 rfl (lv_at hl 5 rfl) ?_
  refine lv_iload_n hx hb dL_places_15 rfl (lv_at hl 1 rfl) ?_
  refine z_callW (As := [Value.ref (a 0), Value.int (nI 1)]) (rest := []) hx hb hml hown hta zw_berthOf wd_11_13 (c_L_berthOf l hlt D y a cap clr t hom mov wm tb tf ts nw wf wt 5 bw bl bi bb 6 od ow ol ork ob olf oco pn pb pm pcd pw pli (nI 1) (by decide) (by decide) (by rw [beC, if_pos (by decide +kernel), if_neg (by rw [show nN (nI 1) = 1 from rfl, hob 1 (by decide)]; decide +kernel)]) b) hH hX hbl hbA hN hK hP hD hS hA rfl hl rfl (Nat.le_of_ble_eq_true rfl) ⟨(Nat.le_of_ble_eq_true rfl), (Nat.le_of_ble_eq_true rfl)⟩ ⟨(Nat.le_of_ble_eq_true rfl), (Nat.le_of_ble_eq_true rfl)⟩ dL_places_16 (fun v w' H locs hq hP hD hS hn => ?_)
  obtain ⟨rfl, rfl⟩ := hq
  have hg : s.heap.size + 4 ≤ H.size := Nat.le_trans (Nat.add_le_add_right hg 1) hn
  refine lv_istore (lv' := [(5, Value.int (-1002 : Int32)), (4, Value.int (nI 119)), (3, Value.int (nI 1)), (7, Value.int (-1002 : Int32)), (6, Value.int (nI t)), (0, Value.ref (a 0)), (1, Value.int (nI 5)), (2, Value.int (nI 6))]) hx hb dL_places_19 hl (by decide) rfl (fun ls hl => ?_)
  refine lv_iload hx hb dL_places_21 (lv_at hl 1 rfl) ?_
  refine lv_bipush (v := nI 119) hx hb dL_places_23 (by decide) ?_
  refine lv_icmp_eq (tgt := 42) hx hb dL_places_25 (by decide) (fun _ => ?_) (fun h9 => absurd (by decide) h9)
  refine lv_iload hx hb dL_places_42 (lv_at hl 1 rfl) ?_
  refine lv_bipush (v := nI 98) hx hb dL_places_44 (by decide) ?_
  refine lv_icmp_ne (tgt := 53) hx hb dL_places_46 (by decide) (fun _ => ?_) (fun h9 => absurd h9 (by decide))
  refine lv_iconst (v := nI 0) hx hb dL_places_53 (by decide) ?_
  refine lv_iload hx hb dL_places_54 (lv_at hl 0 rfl) ?_
  refine lv_if_lt (tgt := 63) hx hb dL_places_56 (by decide) (fun _ => ?_) (fun h9 => absurd (by decide) h9)
  refine lv_iconst (v := nI 0) hx hb dL_places_63 (by decide) ?_
  refine lv_icmp_ne (tgt := 97) hx hb dL_places_64 (by decide) (fun h9 => absurd h9 (by decide)) (fun _ => ?_)
  refine lv_iload hx hb dL_places_67 (lv_at hl 0 rfl) ?_
  refine lv_if_lt (tgt := 82) hx hb dL_places_69 (by decide) (fun _ => ?_) (fun h9 => absurd (by decide) h9)
  refine lv_iload hx hb dL_places_82 (lv_at hl 1 rfl) ?_
  refine lv_bipush (v := nI 98) hx hb dL_places_84 (by decide) ?_
  refine lv_icmp_eq (tgt := 99) hx hb dL_places_86 (by decide) (fun h9 => absurd h9 (by decide)) (fun _ => ?_)
  refine lv_aload_n hx hb dL_places_89 rfl (lv_at hl 5 rfl) ?_
  refine lv_iload_n hx hb dL_places_90 rfl (lv_at hl 2 rfl) ?_
  refine z_callW (As := [Value.ref (a 0), Value.int (nI 1)]) (rest := []) hx hb hml hown hta zw_dryLeft wd_11_20 (c_L_dryLeft l hlt D y a cap clr t hom mov wm tb tf ts nw wf wt 5 bw bl bi bb 6 od ow ol ork ob olf oco pn pb pm pcd pw pli (nI 1) (by decide) (by decide +kernel) b) hH hX hbl hbA hN hK hP hD hS hA rfl hl rfl (Nat.le_of_ble_eq_true rfl) ⟨(Nat.le_of_ble_eq_true rfl), (Nat.le_of_ble_eq_true rfl)⟩ ⟨(Nat.le_of_ble_eq_true rfl), (Nat.le_of_ble_eq_true rfl)⟩ dL_places_91 (fun v w' H locs hq hP hD hS hn => ?_)
  obtain ⟨rfl, rfl⟩ := hq
  have hg : s.heap.size + 4 ≤ H.size := Nat.le_trans hg hn
  refine zr_top (y := nI 0) (hol 1 (by decide)) ?_
  refine lv_if_eq (tgt := 99) hx hb dL_places_94 (by decide) (fun _ => ?_) (fun h9 => absurd (by decide) h9)
  refine lv_aload_n hx hb dL_places_99 rfl (lv_at hl 5 rfl) ?_
  refine lv_iload_n hx hb dL_places_100 rfl (lv_at hl 2 rfl) ?_
  refine z_callW (As := [Value.ref (a 0), Value.int (nI 1)]) (rest := []) hx hb hml hown hta zw_dryAt wd_21_16 (c_L_dryAt l hlt D y a cap clr t hom mov wm tb tf ts nw wf wt 5 bw bl bi bb 6 od ow ol ork ob olf oco pn pb pm pcd pw pli (nI 1) (by decide) (hol 1 (by decide)) (by decide +kernel) b) hH hX hbl hbA hN hK hP hD hS hA rfl hl rfl (Nat.le_of_ble_eq_true rfl) ⟨(Nat.le_of_ble_eq_true rfl), (Nat.le_of_ble_eq_true rfl)⟩ ⟨(Nat.le_of_ble_eq_true rfl), (Nat.le_of_ble_eq_true rfl)⟩ dL_places_101 (fun v w' H locs hq hP hD hS hn => ?_)
  obtain ⟨rfl, rfl⟩ := hq
  have hg : s.heap.size + 4 ≤ H.size := Nat.le_trans hg hn
  refine lv_istore (lv' := [(6, Value.int (nI t)), (5, Value.int (-1002 : Int32)), (4, Value.int (nI 119)), (3, Value.int (nI 1)), (7, Value.int (-1002 : Int32)), (0, Value.ref (a 0)), (1, Value.int (nI 5)), (2, Value.int (nI 6))]) hx hb dL_places_104 hl (by decide) rfl (fun ls hl => ?_)
  refine lv_iload hx hb dL_places_106 (lv_at hl 0 rfl) ?_
  refine lv_aload_n hx hb dL_places_108 rfl (lv_at hl 5 rfl) ?_
  refine lv_iload_n hx hb dL_places_109 rfl (lv_at hl 3 rfl) ?_
  refine z_callW (As := [Value.ref (a 0), Value.int (nI 1)]) (rest := [Value.int (nI t)]) hx hb hml hown hta zw_dryByHours wd_22_15 (c_L_dryByHours l hlt D y a cap clr t hom mov wm tb tf ts nw wf wt 5 bw bl bi bb 6 od ow ol ork ob olf oco pn pb pm pcd pw pli (nI 1) (by decide) (hol 1 (by decide)) (by decide +kernel) b) hH hX hbl hbA hN hK hP hD hS hA rfl hl rfl (Nat.le_of_ble_eq_true rfl) ⟨(Nat.le_of_ble_eq_true rfl), (Nat.le_of_ble_eq_true rfl)⟩ ⟨(Nat.le_of_ble_eq_true rfl), (Nat.le_of_ble_eq_true rfl)⟩ dL_places_110 (fun v w' H locs hq hP hD hS hn => ?_)
  obtain ⟨rfl, rfl⟩ := hq
  have hg : s.heap.size + 4 ≤ H.size := Nat.le_trans hg hn
  refine lv_icmp_ne (tgt := 161) hx hb dL_places_113 (by decide) (fun h9 => absurd rfl h9) (fun _ => ?_)
  refine lv_iload hx hb dL_places_116 (lv_at hl 0 rfl) ?_
  refine lv_aload_n hx hb dL_places_118 rfl (lv_at hl 5 rfl) ?_
  refine z_callVg (As := []) (rest := [Value.int (nI t)]) hx hb hml hown hta zm_X5_time wd_19_1 (c_X5_time l D y a cap clr t hom mov wm tb tf ts nw wf wt 5 bw bl bi bb 6 od ow ol ork ob olf oco pn pb pm pcd pw pli) hN hK hP hD hS hA 0 rfl rfl rfl hl rfl (Nat.le_of_ble_eq_true rfl) ⟨(Nat.le_of_ble_eq_true rfl), (Nat.le_of_ble_eq_true rfl)⟩ ⟨(Nat.le_of_ble_eq_true rfl), (Nat.le_of_ble_eq_true rfl)⟩ dL_places_119 (fun v w' H locs hq hP hD hS hn => ?_)
  obtain ⟨rfl, rfl⟩ := hq
  have hg : s.heap.size + 4 ≤ H.size := Nat.le_trans hg hn
  refine lv_aload_n hx hb dL_places_122 rfl (lv_at hl 5 rfl) ?_
  refine lv_iload_n hx hb dL_places_123 rfl (lv_at hl 3 rfl) ?_
  refine z_callW (As := [Value.ref (a 0), Value.int (nI 1)]) (rest := [Value.int (nI t), Value.int (nI t)]) hx hb hml hown hta zw_dryLeft wd_11_20 (c_L_dryLeft l hlt D y a cap clr t hom mov wm tb tf ts nw wf wt 5 bw bl bi bb 6 od ow ol ork ob olf oco pn pb pm pcd pw pli (nI 1) (by decide) (by decide +kernel) b) hH hX hbl hbA hN hK hP hD hS hA rfl hl rfl (Nat.le_of_ble_eq_true rfl) ⟨(Nat.le_of_ble_eq_true rfl), (Nat.le_of_ble_eq_true rfl)⟩ ⟨(Nat.le_of_ble_eq_true rfl), (Nat.le_of_ble_eq_true rfl)⟩ dL_places_124 (fun v w' H locs hq hP hD hS hn => ?_)
  obtain ⟨rfl, rfl⟩ := hq
  have hg : s.heap.size + 4 ≤ H.size := Nat.le_trans hg hn
  refine zr_top (y := nI 0) (hol 1 (by decide)) ?_
  refine lv_iadd hx hb dL_places_127 ?_
  refine zr_top (y := nI t) (nI_add t 0) ?_
  refine lv_icmp_lt (tgt := 161) hx hb dL_places_128 (by decide) (fun h9 => (Int32.lt_irrefl h9).elim) (fun _ => ?_)
  refine lv_iload hx hb dL_places_131 (lv_at hl 0 rfl) ?_
  refine lv_aload_n hx hb dL_places_133 rfl (lv_at hl 5 rfl) ?_
  refine z_callVg (As := []) (rest := [Value.int (nI t)]) hx hb hml hown hta zm_X5_time wd_19_1 (c_X5_time l D y a cap clr t hom mov wm tb tf ts nw wf wt 5 bw bl bi bb 6 od ow ol ork ob olf oco pn pb pm pcd pw pli) hN hK hP hD hS hA 0 rfl rfl rfl hl rfl (Nat.le_of_ble_eq_true rfl) ⟨(Nat.le_of_ble_eq_true rfl), (Nat.le_of_ble_eq_true rfl)⟩ ⟨(Nat.le_of_ble_eq_true rfl), (Nat.le_of_ble_eq_true rfl)⟩ dL_places_134 (fun v w' H locs hq hP hD hS hn => ?_)
  obtain ⟨rfl, rfl⟩ := hq
  have hg : s.heap.size + 4 ≤ H.size := Nat.le_trans hg hn
  refine lv_icmp_ne (tgt := 144) hx hb dL_places_137 (by decide) (fun h9 => absurd rfl h9) (fun _ => ?_)
  refine lv_iconst (v := nI 1) hx hb dL_places_140 (by decide) ?_
  refine lv_goto (tgt := 145) hx hb dL_places_141 (by decide) ?_
  refine lv_aload_n hx hb dL_places_145 rfl (lv_at hl 5 rfl) ?_
  refine lv_iload_n hx hb dL_places_146 rfl (lv_at hl 3 rfl) ?_
  refine z_callW (As := [Value.ref (a 0), Value.int (nI 1)]) (rest := [Value.int (nI 1)]) hx hb hml hown hta zw_dryLeft wd_11_20 (c_L_dryLeft l hlt D y a cap clr t hom mov wm tb tf ts nw wf wt 5 bw bl bi bb 6 od ow ol ork ob olf oco pn pb pm pcd pw pli (nI 1) (by decide) (by decide +kernel) b) hH hX hbl hbA hN hK hP hD hS hA rfl hl rfl (Nat.le_of_ble_eq_true rfl) ⟨(Nat.le_of_ble_eq_true rfl), (Nat.le_of_ble_eq_true rfl)⟩ ⟨(Nat.le_of_ble_eq_true rfl), (Nat.le_of_ble_eq_true rfl)⟩ dL_places_147 (fun v w' H locs hq hP hD hS hn => ?_)
  obtain ⟨rfl, rfl⟩ := hq
  have hg : s.heap.size + 4 ≤ H.size := Nat.le_trans hg hn
  refine zr_top (y := nI 0) (hol 1 (by decide)) ?_
  refine lv_if_ne (tgt := 157) hx hb dL_places_150 (by decide) (fun h9 => absurd h9 (by decide)) (fun _ => ?_)
  refine lv_iconst (v := nI 1) hx hb dL_places_153 (by decide) ?_
  refine lv_goto (tgt := 158) hx hb dL_places_154 (by decide) ?_
  refine lv_icmp_eq (tgt := 163) hx hb dL_places_158 (by decide) (fun _ => ?_) (fun h9 => absurd (by decide) h9)
  refine lv_aload_n hx hb dL_places_163 rfl (lv_at hl 5 rfl) ?_
  refine lv_iload_n hx hb dL_places_164 rfl (lv_at hl 3 rfl) ?_
  refine z_callW (As := [Value.ref (a 0), Value.int (nI 1)]) (rest := []) hx hb hml hown hta zw_leastShifted wd_12_4 (c_L_leastShifted l hlt D y a cap clr t hom mov wm tb tf ts nw wf wt 5 bw bl bi bb 6 od ow ol ork ob olf oco pn pb pm pcd pw pli (nI 1) (by decide) (by decide) (by decide +kernel) (fun j9 h8 h9 => by rw [hob j9 h8]; decide +kernel) b) hH hX hbl hbA hN hK hP hD hS hA rfl hl rfl (Nat.le_of_ble_eq_true rfl) ⟨(Nat.le_of_ble_eq_true rfl), (Nat.le_of_ble_eq_true rfl)⟩ ⟨(Nat.le_of_ble_eq_true rfl), (Nat.le_of_ble_eq_true rfl)⟩ dL_places_165 (fun v w' H locs hq hP hD hS hn => ?_)
  obtain ⟨rfl, rfl⟩ := hq
  have hg : s.heap.size + 5 ≤ H.size := Nat.le_trans (Nat.add_le_add_right hg 1) hn
  refine lv_istore (lv' := [(7, Value.int (-1002 : Int32)), (6, Value.int (nI t)), (5, Value.int (-1002 : Int32)), (4, Value.int (nI 119)), (3, Value.int (nI 1)), (0, Value.ref (a 0)), (1, Value.int (nI 5)), (2, Value.int (nI 6))]) hx hb dL_places_168 hl (by decide) rfl (fun ls hl => ?_)
  refine lv_iload hx hb dL_places_170 (lv_at hl 0 rfl) ?_
  refine lv_aload_n hx hb dL_places_172 rfl (lv_at hl 5 rfl) ?_
  refine lv_iload_n hx hb dL_places_173 rfl (lv_at hl 4 rfl) ?_
  refine z_callW (As := [Value.ref (a 0), Value.int (nI 1)]) (rest := [Value.int (-1002 : Int32)]) hx hb hml hown hta zw_leastByRounds wd_23_3 (c_L_leastByRounds l hlt D y a cap clr t hom mov wm tb tf ts nw wf wt 5 bw bl bi bb 6 od ow ol ork ob olf oco pn pb pm pcd pw pli (nI 1) (by decide) (by decide) (by decide +kernel) (fun j9 h8 h9 => by rw [hob j9 h8]; decide +kernel) b) hH hX hbl hbA hN hK hP hD hS hA rfl hl rfl (Nat.le_of_ble_eq_true rfl) ⟨(Nat.le_of_ble_eq_true rfl), (Nat.le_of_ble_eq_true rfl)⟩ ⟨(Nat.le_of_ble_eq_true rfl), (Nat.le_of_ble_eq_true rfl)⟩ dL_places_174 (fun v w' H locs hq hP hD hS hn => ?_)
  obtain ⟨rfl, rfl⟩ := hq
  have hg : s.heap.size + 6 ≤ H.size := Nat.le_trans (Nat.add_le_add_right hg 1) hn
  refine lv_icmp_ne (tgt := 216) hx hb dL_places_177 (by decide) (fun h9 => absurd h9 (by decide)) (fun _ => ?_)
  refine lv_iload hx hb dL_places_180 (lv_at hl 0 rfl) ?_
  refine lv_sipush (v := (-1002 : Int32)) hx hb dL_places_182 (by decide) ?_
  refine lv_icmp_ne (tgt := 192) hx hb dL_places_185 (by decide) (fun h9 => absurd h9 (by decide)) (fun _ => ?_)
  refine lv_iconst (v := nI 1) hx hb dL_places_188 (by decide) ?_
  refine lv_goto (tgt := 193) hx hb dL_places_189 (by decide) ?_
  refine lv_iload hx hb dL_places_193 (lv_at hl 3 rfl) ?_
  refine lv_bipush (v := nI 98) hx hb dL_places_195 (by decide) ?_
  refine lv_icmp_eq (tgt := 204) hx hb dL_places_197 (by decide) (fun h9 => absurd h9 (by decide)) (fun _ => ?_)
  refine lv_iconst (v := nI 1) hx hb dL_places_200 (by decide) ?_
  refine lv_goto (tgt := 205) hx hb dL_places_201 (by decide) ?_
  refine lv_icmp_ne (tgt := 216) hx hb dL_places_205 (by decide) (fun h9 => absurd h9 (by decide)) (fun _ => ?_)
  refine lv_iload hx hb dL_places_208 (lv_at hl 0 rfl) ?_
  refine lv_sipush (v := (-1003 : Int32)) hx hb dL_places_210 (by decide) ?_
  refine lv_icmp_ge (tgt := 218) hx hb dL_places_213 (by decide) (fun _ => ?_) (fun h9 => absurd (by decide) h9)
  refine lv_iinc (v := nI 2) (lv' := [(3, Value.int (nI 2)), (7, Value.int (-1002 : Int32)), (6, Value.int (nI t)), (5, Value.int (-1002 : Int32)), (4, Value.int (nI 119)), (0, Value.ref (a 0)), (1, Value.int (nI 5)), (2, Value.int (nI 6))]) hx hb dL_places_218 hl (k := 4) rfl (nI_add 1 1) (by decide) rfl (fun ls hl => ?_)
  refine lv_goto (tgt := 2) hx hb dL_places_221 (by decide) ?_
  refine lv_iload_n hx hb dL_places_2 rfl (lv_at hl 0 rfl) ?_
  refine lv_iload_n hx hb dL_places_3 rfl (lv_at hl 7 rfl) ?_
  refine lv_icmp_ge (tgt := 224) hx hb dL_places_4 (by decide) (fun h9 => absurd h9 (by decide)) (fun _ => ?_)
  refine lv_aload_n hx hb dL_places_7 rfl (lv_at hl 5 rfl) ?_
  refine lv_iload_n hx hb dL_places_8 rfl (lv_at hl 0 rfl) ?_
  refine z_callW (As := [Value.ref (a 0), Value.int (nI 2)]) (rest := []) hx hb hml hown hta zw_state wd_10_8 (c_L_state l hlt D y a cap clr t hom mov wm tb tf ts nw wf wt 5 bw bl bi bb 6 od ow ol ork ob olf oco pn pb pm pcd pw pli (nI 2) (by decide) (by decide +kernel) b) hH hX hbl hbA hN hK hP hD hS hA rfl hl rfl (Nat.le_of_ble_eq_true rfl) ⟨(Nat.le_of_ble_eq_true rfl), (Nat.le_of_ble_eq_true rfl)⟩ ⟨(Nat.le_of_ble_eq_true rfl), (Nat.le_of_ble_eq_true rfl)⟩ dL_places_9 (fun v w' H locs hq hP hD hS hn => ?_)
  obtain ⟨rfl, rfl⟩ := hq
  have hg : s.heap.size + 6 ≤ H.size := Nat.le_trans hg hn
  refine zr_top (y := nI 119) (by show stF ob 2 = nI 119; rw [stF, if_pos (hob 2 (by decide))]; decide) ?_
  refine lv_istore (lv' := [(4, Value.int (nI 119)), (3, Value.int (nI 2)), (7, Value.int (-1002 : Int32)), (6, Value.int (nI t)), (5, Value.int (-1002 : Int32)), (0, Value.ref (a 0)), (1, Value.int (nI 5)), (2, Value.int (nI 6))]) hx hb dL_places_12 hl (by decide) rfl (fun ls hl => ?_)
  refine lv_aload_n hx hb dL_places_14 rfl (lv_at hl 5 rfl) ?_
  refine lv_iload_n hx hb dL_places_15 rfl (lv_at hl 1 rfl) ?_
  refine z_callW (As := [Value.ref (a 0), Value.int (nI 2)]) (rest := []) hx hb hml hown hta zw_berthOf wd_11_13 (c_L_berthOf l hlt D y a cap clr t hom mov wm tb tf ts nw wf wt 5 bw bl bi bb 6 od ow ol ork ob olf oco pn pb pm pcd pw pli (nI 2) (by decide) (by decide) (by rw [beC, if_pos (by decide +kernel), if_neg (by rw [show nN (nI 2) = 2 from rfl, hob 2 (by decide)]; decide +kernel)]) b) hH hX hbl hbA hN hK hP hD hS hA rfl hl rfl (Nat.le_of_ble_eq_true rfl) ⟨(Nat.le_of_ble_eq_true rfl), (Nat.le_of_ble_eq_true rfl)⟩ ⟨(Nat.le_of_ble_eq_true rfl), (Nat.le_of_ble_eq_true rfl)⟩ dL_places_16 (fun v w' H locs hq hP hD hS hn => ?_)
  obtain ⟨rfl, rfl⟩ := hq
  have hg : s.heap.size + 7 ≤ H.size := Nat.le_trans (Nat.add_le_add_right hg 1) hn
  refine lv_istore (lv' := [(5, Value.int (-1002 : Int32)), (4, Value.int (nI 119)), (3, Value.int (nI 2)), (7, Value.int (-1002 : Int32)), (6, Value.int (nI t)), (0, Value.ref (a 0)), (1, Value.int (nI 5)), (2, Value.int (nI 6))]) hx hb dL_places_19 hl (by decide) rfl (fun ls hl => ?_)
  refine lv_iload hx hb dL_places_21 (lv_at hl 1 rfl) ?_
  refine lv_bipush (v := nI 119) hx hb dL_places_23 (by decide) ?_
  refine lv_icmp_eq (tgt := 42) hx hb dL_places_25 (by decide) (fun _ => ?_) (fun h9 => absurd (by decide) h9)
  refine lv_iload hx hb dL_places_42 (lv_at hl 1 rfl) ?_
  refine lv_bipush (v := nI 98) hx hb dL_places_44 (by decide) ?_
  refine lv_icmp_ne (tgt := 53) hx hb dL_places_46 (by decide) (fun _ => ?_) (fun h9 => absurd h9 (by decide))
  refine lv_iconst (v := nI 0) hx hb dL_places_53 (by decide) ?_
  refine lv_iload hx hb dL_places_54 (lv_at hl 0 rfl) ?_
  refine lv_if_lt (tgt := 63) hx hb dL_places_56 (by decide) (fun _ => ?_) (fun h9 => absurd (by decide) h9)
  refine lv_iconst (v := nI 0) hx hb dL_places_63 (by decide) ?_
  refine lv_icmp_ne (tgt := 97) hx hb dL_places_64 (by decide) (fun h9 => absurd h9 (by decide)) (fun _ => ?_)
  refine lv_iload hx hb dL_places_67 (lv_at hl 0 rfl) ?_
  refine lv_if_lt (tgt := 82) hx hb dL_places_69 (by decide) (fun _ => ?_) (fun h9 => absurd (by decide) h9)
  refine lv_iload hx hb dL_places_82 (lv_at hl 1 rfl) ?_
  refine lv_bipush (v := nI 98) hx hb dL_places_84 (by decide) ?_
  refine lv_icmp_eq (tgt := 99) hx hb dL_places_86 (by decide) (fun h9 => absurd h9 (by decide)) (fun _ => ?_)
  refine lv_aload_n hx hb dL_places_89 rfl (lv_at hl 5 rfl) ?_
  refine lv_iload_n hx hb dL_places_90 rfl (lv_at hl 2 rfl) ?_
  refine z_callW (As := [Value.ref (a 0), Value.int (nI 2)]) (rest := []) hx hb hml hown hta zw_dryLeft wd_11_20 (c_L_dryLeft l hlt D y a cap clr t hom mov wm tb tf ts nw wf wt 5 bw bl bi bb 6 od ow ol ork ob olf oco pn pb pm pcd pw pli (nI 2) (by decide) (by decide +kernel) b) hH hX hbl hbA hN hK hP hD hS hA rfl hl rfl (Nat.le_of_ble_eq_true rfl) ⟨(Nat.le_of_ble_eq_true rfl), (Nat.le_of_ble_eq_true rfl)⟩ ⟨(Nat.le_of_ble_eq_true rfl), (Nat.le_of_ble_eq_true rfl)⟩ dL_places_91 (fun v w' H locs hq hP hD hS hn => ?_)
  obtain ⟨rfl, rfl⟩ := hq
  have hg : s.heap.size + 7 ≤ H.size := Nat.le_trans hg hn
  refine zr_top (y := nI 0) (hol 2 (by decide)) ?_
  refine lv_if_eq (tgt := 99) hx hb dL_places_94 (by decide) (fun _ => ?_) (fun h9 => absurd (by decide) h9)
  refine lv_aload_n hx hb dL_places_99 rfl (lv_at hl 5 rfl) ?_
  refine lv_iload_n hx hb dL_places_100 rfl (lv_at hl 2 rfl) ?_
  refine z_callW (As := [Value.ref (a 0), Value.int (nI 2)]) (rest := []) hx hb hml hown hta zw_dryAt wd_21_16 (c_L_dryAt l hlt D y a cap clr t hom mov wm tb tf ts nw wf wt 5 bw bl bi bb 6 od ow ol ork ob olf oco pn pb pm pcd pw pli (nI 2) (by decide) (hol 2 (by decide)) (by decide +kernel) b) hH hX hbl hbA hN hK hP hD hS hA rfl hl rfl (Nat.le_of_ble_eq_true rfl) ⟨(Nat.le_of_ble_eq_true rfl), (Nat.le_of_ble_eq_true rfl)⟩ ⟨(Nat.le_of_ble_eq_true rfl), (Nat.le_of_ble_eq_true rfl)⟩ dL_places_101 (fun v w' H locs hq hP hD hS hn => ?_)
  obtain ⟨rfl, rfl⟩ := hq
  have hg : s.heap.size + 7 ≤ H.size := Nat.le_trans hg hn
  refine lv_istore (lv' := [(6, Value.int (nI t)), (5, Value.int (-1002 : Int32)), (4, Value.int (nI 119)), (3, Value.int (nI 2)), (7, Value.int (-1002 : Int32)), (0, Value.ref (a 0)), (1, Value.int (nI 5)), (2, Value.int (nI 6))]) hx hb dL_places_104 hl (by decide) rfl (fun ls hl => ?_)
  refine lv_iload hx hb dL_places_106 (lv_at hl 0 rfl) ?_
  refine lv_aload_n hx hb dL_places_108 rfl (lv_at hl 5 rfl) ?_
  refine lv_iload_n hx hb dL_places_109 rfl (lv_at hl 3 rfl) ?_
  refine z_callW (As := [Value.ref (a 0), Value.int (nI 2)]) (rest := [Value.int (nI t)]) hx hb hml hown hta zw_dryByHours wd_22_15 (c_L_dryByHours l hlt D y a cap clr t hom mov wm tb tf ts nw wf wt 5 bw bl bi bb 6 od ow ol ork ob olf oco pn pb pm pcd pw pli (nI 2) (by decide) (hol 2 (by decide)) (by decide +kernel) b) hH hX hbl hbA hN hK hP hD hS hA rfl hl rfl (Nat.le_of_ble_eq_true rfl) ⟨(Nat.le_of_ble_eq_true rfl), (Nat.le_of_ble_eq_true rfl)⟩ ⟨(Nat.le_of_ble_eq_true rfl), (Nat.le_of_ble_eq_true rfl)⟩ dL_places_110 (fun v w' H locs hq hP hD hS hn => ?_)
  obtain ⟨rfl, rfl⟩ := hq
  have hg : s.heap.size + 7 ≤ H.size := Nat.le_trans hg hn
  refine lv_icmp_ne (tgt := 161) hx hb dL_places_113 (by decide) (fun h9 => absurd rfl h9) (fun _ => ?_)
  refine lv_iload hx hb dL_places_116 (lv_at hl 0 rfl) ?_
  refine lv_aload_n hx hb dL_places_118 rfl (lv_at hl 5 rfl) ?_
  refine z_callVg (As := []) (rest := [Value.int (nI t)]) hx hb hml hown hta zm_X5_time wd_19_1 (c_X5_time l D y a cap clr t hom mov wm tb tf ts nw wf wt 5 bw bl bi bb 6 od ow ol ork ob olf oco pn pb pm pcd pw pli) hN hK hP hD hS hA 0 rfl rfl rfl hl rfl (Nat.le_of_ble_eq_true rfl) ⟨(Nat.le_of_ble_eq_true rfl), (Nat.le_of_ble_eq_true rfl)⟩ ⟨(Nat.le_of_ble_eq_true rfl), (Nat.le_of_ble_eq_true rfl)⟩ dL_places_119 (fun v w' H locs hq hP hD hS hn => ?_)
  obtain ⟨rfl, rfl⟩ := hq
  have hg : s.heap.size + 7 ≤ H.size := Nat.le_trans hg hn
  refine lv_aload_n hx hb dL_places_122 rfl (lv_at hl 5 rfl) ?_
  refine lv_iload_n hx hb dL_places_123 rfl (lv_at hl 3 rfl) ?_
  refine z_callW (As := [Value.ref (a 0), Value.int (nI 2)]) (rest := [Value.int (nI t), Value.int (nI t)]) hx hb hml hown hta zw_dryLeft wd_11_20 (c_L_dryLeft l hlt D y a cap clr t hom mov wm tb tf ts nw wf wt 5 bw bl bi bb 6 od ow ol ork ob olf oco pn pb pm pcd pw pli (nI 2) (by decide) (by decide +kernel) b) hH hX hbl hbA hN hK hP hD hS hA rfl hl rfl (Nat.le_of_ble_eq_true rfl) ⟨(Nat.le_of_ble_eq_true rfl), (Nat.le_of_ble_eq_true rfl)⟩ ⟨(Nat.le_of_ble_eq_true rfl), (Nat.le_of_ble_eq_true rfl)⟩ dL_places_124 (fun v w' H locs hq hP hD hS hn => ?_)
  obtain ⟨rfl, rfl⟩ := hq
  have hg : s.heap.size + 7 ≤ H.size := Nat.le_trans hg hn
  refine zr_top (y := nI 0) (hol 2 (by decide)) ?_
  refine lv_iadd hx hb dL_places_127 ?_
  refine zr_top (y := nI t) (nI_add t 0) ?_
  refine lv_icmp_lt (tgt := 161) hx hb dL_places_128 (by decide) (fun h9 => (Int32.lt_irrefl h9).elim) (fun _ => ?_)
  refine lv_iload hx hb dL_places_131 (lv_at hl 0 rfl) ?_
  refine lv_aload_n hx hb dL_places_133 rfl (lv_at hl 5 rfl) ?_
  refine z_callVg (As := []) (rest := [Value.int (nI t)]) hx hb hml hown hta zm_X5_time wd_19_1 (c_X5_time l D y a cap clr t hom mov wm tb tf ts nw wf wt 5 bw bl bi bb 6 od ow ol ork ob olf oco pn pb pm pcd pw pli) hN hK hP hD hS hA 0 rfl rfl rfl hl rfl (Nat.le_of_ble_eq_true rfl) ⟨(Nat.le_of_ble_eq_true rfl), (Nat.le_of_ble_eq_true rfl)⟩ ⟨(Nat.le_of_ble_eq_true rfl), (Nat.le_of_ble_eq_true rfl)⟩ dL_places_134 (fun v w' H locs hq hP hD hS hn => ?_)
  obtain ⟨rfl, rfl⟩ := hq
  have hg : s.heap.size + 7 ≤ H.size := Nat.le_trans hg hn
  refine lv_icmp_ne (tgt := 144) hx hb dL_places_137 (by decide) (fun h9 => absurd rfl h9) (fun _ => ?_)
  refine lv_iconst (v := nI 1) hx hb dL_places_140 (by decide) ?_
  refine lv_goto (tgt := 145) hx hb dL_places_141 (by decide) ?_
  refine lv_aload_n hx hb dL_places_145 rfl (lv_at hl 5 rfl) ?_
  refine lv_iload_n hx hb dL_places_146 rfl (lv_at hl 3 rfl) ?_
  refine z_callW (As := [Value.ref (a 0), Value.int (nI 2)]) (rest := [Value.int (nI 1)]) hx hb hml hown hta zw_dryLeft wd_11_20 (c_L_dryLeft l hlt D y a cap clr t hom mov wm tb tf ts nw wf wt 5 bw bl bi bb 6 od ow ol ork ob olf oco pn pb pm pcd pw pli (nI 2) (by decide) (by decide +kernel) b) hH hX hbl hbA hN hK hP hD hS hA rfl hl rfl (Nat.le_of_ble_eq_true rfl) ⟨(Nat.le_of_ble_eq_true rfl), (Nat.le_of_ble_eq_true rfl)⟩ ⟨(Nat.le_of_ble_eq_true rfl), (Nat.le_of_ble_eq_true rfl)⟩ dL_places_147 (fun v w' H locs hq hP hD hS hn => ?_)
  obtain ⟨rfl, rfl⟩ := hq
  have hg : s.heap.size + 7 ≤ H.size := Nat.le_trans hg hn
  refine zr_top (y := nI 0) (hol 2 (by decide)) ?_
  refine lv_if_ne (tgt := 157) hx hb dL_places_150 (by decide) (fun h9 => absurd h9 (by decide)) (fun _ => ?_)
  refine lv_iconst (v := nI 1) hx hb dL_places_153 (by decide) ?_
  refine lv_goto (tgt := 158) hx hb dL_places_154 (by decide) ?_
  refine lv_icmp_eq (tgt := 163) hx hb dL_places_158 (by decide) (fun _ => ?_) (fun h9 => absurd (by decide) h9)
  refine lv_aload_n hx hb dL_places_163 rfl (lv_at hl 5 rfl) ?_
  refine lv_iload_n hx hb dL_places_164 rfl (lv_at hl 3 rfl) ?_
  refine z_callW (As := [Value.ref (a 0), Value.int (nI 2)]) (rest := []) hx hb hml hown hta zw_leastShifted wd_12_4 (c_L_leastShifted l hlt D y a cap clr t hom mov wm tb tf ts nw wf wt 5 bw bl bi bb 6 od ow ol ork ob olf oco pn pb pm pcd pw pli (nI 2) (by decide) (by decide) (by decide +kernel) (fun j9 h8 h9 => by rw [hob j9 h8]; decide +kernel) b) hH hX hbl hbA hN hK hP hD hS hA rfl hl rfl (Nat.le_of_ble_eq_true rfl) ⟨(Nat.le_of_ble_eq_true rfl), (Nat.le_of_ble_eq_true rfl)⟩ ⟨(Nat.le_of_ble_eq_true rfl), (Nat.le_of_ble_eq_true rfl)⟩ dL_places_165 (fun v w' H locs hq hP hD hS hn => ?_)
  obtain ⟨rfl, rfl⟩ := hq
  have hg : s.heap.size + 8 ≤ H.size := Nat.le_trans (Nat.add_le_add_right hg 1) hn
  refine lv_istore (lv' := [(7, Value.int (-1002 : Int32)), (6, Value.int (nI t)), (5, Value.int (-1002 : Int32)), (4, Value.int (nI 119)), (3, Value.int (nI 2)), (0, Value.ref (a 0)), (1, Value.int (nI 5)), (2, Value.int (nI 6))]) hx hb dL_places_168 hl (by decide) rfl (fun ls hl => ?_)
  refine lv_iload hx hb dL_places_170 (lv_at hl 0 rfl) ?_
  refine lv_aload_n hx hb dL_places_172 rfl (lv_at hl 5 rfl) ?_
  refine lv_iload_n hx hb dL_places_173 rfl (lv_at hl 4 rfl) ?_
  refine z_callW (As := [Value.ref (a 0), Value.int (nI 2)]) (rest := [Value.int (-1002 : Int32)]) hx hb hml hown hta zw_leastByRounds wd_23_3 (c_L_leastByRounds l hlt D y a cap clr t hom mov wm tb tf ts nw wf wt 5 bw bl bi bb 6 od ow ol ork ob olf oco pn pb pm pcd pw pli (nI 2) (by decide) (by decide) (by decide +kernel) (fun j9 h8 h9 => by rw [hob j9 h8]; decide +kernel) b) hH hX hbl hbA hN hK hP hD hS hA rfl hl rfl (Nat.le_of_ble_eq_true rfl) ⟨(Nat.le_of_ble_eq_true rfl), (Nat.le_of_ble_eq_true rfl)⟩ ⟨(Nat.le_of_ble_eq_true rfl), (Nat.le_of_ble_eq_true rfl)⟩ dL_places_174 (fun v w' H locs hq hP hD hS hn => ?_)
  obtain ⟨rfl, rfl⟩ := hq
  have hg : s.heap.size + 9 ≤ H.size := Nat.le_trans (Nat.add_le_add_right hg 1) hn
  refine lv_icmp_ne (tgt := 216) hx hb dL_places_177 (by decide) (fun h9 => absurd h9 (by decide)) (fun _ => ?_)
  refine lv_iload hx hb dL_places_180 (lv_at hl 0 rfl) ?_
  refine lv_sipush (v := (-1002 : Int32)) hx hb dL_places_182 (by decide) ?_
  refine lv_icmp_ne (tgt := 192) hx hb dL_places_185 (by decide) (fun h9 => absurd h9 (by decide)) (fun _ => ?_)
  refine lv_iconst (v := nI 1) hx hb dL_places_188 (by decide) ?_
  refine lv_goto (tgt := 193) hx hb dL_places_189 (by decide) ?_
  refine lv_iload hx hb dL_places_193 (lv_at hl 3 rfl) ?_
  refine lv_bipush (v := nI 98) hx hb dL_places_195 (by decide) ?_
  refine lv_icmp_eq (tgt := 204) hx hb dL_places_197 (by decide) (fun h9 => absurd h9 (by decide)) (fun _ => ?_)
  refine lv_iconst (v := nI 1) hx hb dL_places_200 (by decide) ?_
  refine lv_goto (tgt := 205) hx hb dL_places_201 (by decide) ?_
  refine lv_icmp_ne (tgt := 216) hx hb dL_places_205 (by decide) (fun h9 => absurd h9 (by decide)) (fun _ => ?_)
  refine lv_iload hx hb dL_places_208 (lv_at hl 0 rfl) ?_
  refine lv_sipush (v := (-1003 : Int32)) hx hb dL_places_210 (by decide) ?_
  refine lv_icmp_ge (tgt := 218) hx hb dL_places_213 (by decide) (fun _ => ?_) (fun h9 => absurd (by decide) h9)
  refine lv_iinc (v := nI 3) (lv' := [(3, Value.int (nI 3)), (7, Value.int (-1002 : Int32)), (6, Value.int (nI t)), (5, Value.int (-1002 : Int32)), (4, Value.int (nI 119)), (0, Value.ref (a 0)), (1, Value.int (nI 5)), (2, Value.int (nI 6))]) hx hb dL_places_218 hl (k := 4) rfl (nI_add 2 1) (by decide) rfl (fun ls hl => ?_)
  refine lv_goto (tgt := 2) hx hb dL_places_221 (by decide) ?_
  refine lv_iload_n hx hb dL_places_2 rfl (lv_at hl 0 rfl) ?_
  refine lv_iload_n hx hb dL_places_3 rfl (lv_at hl 7 rfl) ?_
  refine lv_icmp_ge (tgt := 224) hx hb dL_places_4 (by decide) (fun h9 => absurd h9 (by decide)) (fun _ => ?_)
  refine lv_aload_n hx hb dL_places_7 rfl (lv_at hl 5 rfl) ?_
  refine lv_iload_n hx hb dL_places_8 rfl (lv_at hl 0 rfl) ?_
  refine z_callW (As := [Value.ref (a 0), Value.int (nI 3)]) (rest := []) hx hb hml hown hta zw_state wd_10_8 (c_L_state l hlt D y a cap clr t hom mov wm tb tf ts nw wf wt 5 bw bl bi bb 6 od ow ol ork ob olf oco pn pb pm pcd pw pli (nI 3) (by decide) (by decide +kernel) b) hH hX hbl hbA hN hK hP hD hS hA rfl hl rfl (Nat.le_of_ble_eq_true rfl) ⟨(Nat.le_of_ble_eq_true rfl), (Nat.le_of_ble_eq_true rfl)⟩ ⟨(Nat.le_of_ble_eq_true rfl), (Nat.le_of_ble_eq_true rfl)⟩ dL_places_9 (fun v w' H locs hq hP hD hS hn => ?_)
  obtain ⟨rfl, rfl⟩ := hq
  have hg : s.heap.size + 9 ≤ H.size := Nat.le_trans hg hn
  refine zr_top (y := nI 119) (by show stF ob 3 = nI 119; rw [stF, if_pos (hob 3 (by decide))]; decide) ?_
  refine lv_istore (lv' := [(4, Value.int (nI 119)), (3, Value.int (nI 3)), (7, Value.int (-1002 : Int32)), (6, Value.int (nI t)), (5, Value.int (-1002 : Int32)), (0, Value.ref (a 0)), (1, Value.int (nI 5)), (2, Value.int (nI 6))]) hx hb dL_places_12 hl (by decide) rfl (fun ls hl => ?_)
  refine lv_aload_n hx hb dL_places_14 rfl (lv_at hl 5 rfl) ?_
  refine lv_iload_n hx hb dL_places_15 rfl (lv_at hl 1 rfl) ?_
  refine z_callW (As := [Value.ref (a 0), Value.int (nI 3)]) (rest := []) hx hb hml hown hta zw_berthOf wd_11_13 (c_L_berthOf l hlt D y a cap clr t hom mov wm tb tf ts nw wf wt 5 bw bl bi bb 6 od ow ol ork ob olf oco pn pb pm pcd pw pli (nI 3) (by decide) (by decide) (by rw [beC, if_pos (by decide +kernel), if_neg (by rw [show nN (nI 3) = 3 from rfl, hob 3 (by decide)]; decide +kernel)]) b) hH hX hbl hbA hN hK hP hD hS hA rfl hl rfl (Nat.le_of_ble_eq_true rfl) ⟨(Nat.le_of_ble_eq_true rfl), (Nat.le_of_ble_eq_true rfl)⟩ ⟨(Nat.le_of_ble_eq_true rfl), (Nat.le_of_ble_eq_true rfl)⟩ dL_places_16 (fun v w' H locs hq hP hD hS hn => ?_)
  obtain ⟨rfl, rfl⟩ := hq
  have hg : s.heap.size + 10 ≤ H.size := Nat.le_trans (Nat.add_le_add_right hg 1) hn
  refine lv_istore (lv' := [(5, Value.int (-1002 : Int32)), (4, Value.int (nI 119)), (3, Value.int (nI 3)), (7, Value.int (-1002 : Int32)), (6, Value.int (nI t)), (0, Value.ref (a 0)), (1, Value.int (nI 5)), (2, Value.int (nI 6))]) hx hb dL_places_19 hl (by decide) rfl (fun ls hl => ?_)
  refine lv_iload hx hb dL_places_21 (lv_at hl 1 rfl) ?_
  refine lv_bipush (v := nI 119) hx hb dL_places_23 (by decide) ?_
  refine lv_icmp_eq (tgt := 42) hx hb dL_places_25 (by decide) (fun _ => ?_) (fun h9 => absurd (by decide) h9)
  refine lv_iload hx hb dL_places_42 (lv_at hl 1 rfl) ?_
  refine lv_bipush (v := nI 98) hx hb dL_places_44 (by decide) ?_
  refine lv_icmp_ne (tgt := 53) hx hb dL_places_46 (by decide) (fun _ => ?_) (fun h9 => absurd h9 (by decide))
  refine lv_iconst (v := nI 0) hx hb dL_places_53 (by decide) ?_
  refine lv_iload hx hb dL_places_54 (lv_at hl 0 rfl) ?_
  refine lv_if_lt (tgt := 63) hx hb dL_places_56 (by decide) (fun _ => ?_) (fun h9 => absurd (by decide) h9)
  refine lv_iconst (v := nI 0) hx hb dL_places_63 (by decide) ?_
  refine lv_icmp_ne (tgt := 97) hx hb dL_places_64 (by decide) (fun h9 => absurd h9 (by decide)) (fun _ => ?_)
  refine lv_iload hx hb dL_places_67 (lv_at hl 0 rfl) ?_
  refine lv_if_lt (tgt := 82) hx hb dL_places_69 (by decide) (fun _ => ?_) (fun h9 => absurd (by decide) h9)
  refine lv_iload hx hb dL_places_82 (lv_at hl 1 rfl) ?_
  refine lv_bipush (v := nI 98) hx hb dL_places_84 (by decide) ?_
  refine lv_icmp_eq (tgt := 99) hx hb dL_places_86 (by decide) (fun h9 => absurd h9 (by decide)) (fun _ => ?_)
  refine lv_aload_n hx hb dL_places_89 rfl (lv_at hl 5 rfl) ?_
  refine lv_iload_n hx hb dL_places_90 rfl (lv_at hl 2 rfl) ?_
  refine z_callW (As := [Value.ref (a 0), Value.int (nI 3)]) (rest := []) hx hb hml hown hta zw_dryLeft wd_11_20 (c_L_dryLeft l hlt D y a cap clr t hom mov wm tb tf ts nw wf wt 5 bw bl bi bb 6 od ow ol ork ob olf oco pn pb pm pcd pw pli (nI 3) (by decide) (by decide +kernel) b) hH hX hbl hbA hN hK hP hD hS hA rfl hl rfl (Nat.le_of_ble_eq_true rfl) ⟨(Nat.le_of_ble_eq_true rfl), (Nat.le_of_ble_eq_true rfl)⟩ ⟨(Nat.le_of_ble_eq_true rfl), (Nat.le_of_ble_eq_true rfl)⟩ dL_places_91 (fun v w' H locs hq hP hD hS hn => ?_)
  obtain ⟨rfl, rfl⟩ := hq
  have hg : s.heap.size + 10 ≤ H.size := Nat.le_trans hg hn
  refine zr_top (y := nI 0) (hol 3 (by decide)) ?_
  refine lv_if_eq (tgt := 99) hx hb dL_places_94 (by decide) (fun _ => ?_) (fun h9 => absurd (by decide) h9)
  refine lv_aload_n hx hb dL_places_99 rfl (lv_at hl 5 rfl) ?_
  refine lv_iload_n hx hb dL_places_100 rfl (lv_at hl 2 rfl) ?_
  refine z_callW (As := [Value.ref (a 0), Value.int (nI 3)]) (rest := []) hx hb hml hown hta zw_dryAt wd_21_16 (c_L_dryAt l hlt D y a cap clr t hom mov wm tb tf ts nw wf wt 5 bw bl bi bb 6 od ow ol ork ob olf oco pn pb pm pcd pw pli (nI 3) (by decide) (hol 3 (by decide)) (by decide +kernel) b) hH hX hbl hbA hN hK hP hD hS hA rfl hl rfl (Nat.le_of_ble_eq_true rfl) ⟨(Nat.le_of_ble_eq_true rfl), (Nat.le_of_ble_eq_true rfl)⟩ ⟨(Nat.le_of_ble_eq_true rfl), (Nat.le_of_ble_eq_true rfl)⟩ dL_places_101 (fun v w' H locs hq hP hD hS hn => ?_)
  obtain ⟨rfl, rfl⟩ := hq
  have hg : s.heap.size + 10 ≤ H.size := Nat.le_trans hg hn
  refine lv_istore (lv' := [(6, Value.int (nI t)), (5, Value.int (-1002 : Int32)), (4, Value.int (nI 119)), (3, Value.int (nI 3)), (7, Value.int (-1002 : Int32)), (0, Value.ref (a 0)), (1, Value.int (nI 5)), (2, Value.int (nI 6))]) hx hb dL_places_104 hl (by decide) rfl (fun ls hl => ?_)
  refine lv_iload hx hb dL_places_106 (lv_at hl 0 rfl) ?_
  refine lv_aload_n hx hb dL_places_108 rfl (lv_at hl 5 rfl) ?_
  refine lv_iload_n hx hb dL_places_109 rfl (lv_at hl 3 rfl) ?_
  refine z_callW (As := [Value.ref (a 0), Value.int (nI 3)]) (rest := [Value.int (nI t)]) hx hb hml hown hta zw_dryByHours wd_22_15 (c_L_dryByHours l hlt D y a cap clr t hom mov wm tb tf ts nw wf wt 5 bw bl bi bb 6 od ow ol ork ob olf oco pn pb pm pcd pw pli (nI 3) (by decide) (hol 3 (by decide)) (by decide +kernel) b) hH hX hbl hbA hN hK hP hD hS hA rfl hl rfl (Nat.le_of_ble_eq_true rfl) ⟨(Nat.le_of_ble_eq_true rfl), (Nat.le_of_ble_eq_true rfl)⟩ ⟨(Nat.le_of_ble_eq_true rfl), (Nat.le_of_ble_eq_true rfl)⟩ dL_places_110 (fun v w' H locs hq hP hD hS hn => ?_)
  obtain ⟨rfl, rfl⟩ := hq
  have hg : s.heap.size + 10 ≤ H.size := Nat.le_trans hg hn
  refine lv_icmp_ne (tgt := 161) hx hb dL_places_113 (by decide) (fun h9 => absurd rfl h9) (fun _ => ?_)
  refine lv_iload hx hb dL_places_116 (lv_at hl 0 rfl) ?_
  refine lv_aload_n hx hb dL_places_118 rfl (lv_at hl 5 rfl) ?_
  refine z_callVg (As := []) (rest := [Value.int (nI t)]) hx hb hml hown hta zm_X5_time wd_19_1 (c_X5_time l D y a cap clr t hom mov wm tb tf ts nw wf wt 5 bw bl bi bb 6 od ow ol ork ob olf oco pn pb pm pcd pw pli) hN hK hP hD hS hA 0 rfl rfl rfl hl rfl (Nat.le_of_ble_eq_true rfl) ⟨(Nat.le_of_ble_eq_true rfl), (Nat.le_of_ble_eq_true rfl)⟩ ⟨(Nat.le_of_ble_eq_true rfl), (Nat.le_of_ble_eq_true rfl)⟩ dL_places_119 (fun v w' H locs hq hP hD hS hn => ?_)
  obtain ⟨rfl, rfl⟩ := hq
  have hg : s.heap.size + 10 ≤ H.size := Nat.le_trans hg hn
  refine lv_aload_n hx hb dL_places_122 rfl (lv_at hl 5 rfl) ?_
  refine lv_iload_n hx hb dL_places_123 rfl (lv_at hl 3 rfl) ?_
  refine z_callW (As := [Value.ref (a 0), Value.int (nI 3)]) (rest := [Value.int (nI t), Value.int (nI t)]) hx hb hml hown hta zw_dryLeft wd_11_20 (c_L_dryLeft l hlt D y a cap clr t hom mov wm tb tf ts nw wf wt 5 bw bl bi bb 6 od ow ol ork ob olf oco pn pb pm pcd pw pli (nI 3) (by decide) (by decide +kernel) b) hH hX hbl hbA hN hK hP hD hS hA rfl hl rfl (Nat.le_of_ble_eq_true rfl) ⟨(Nat.le_of_ble_eq_true rfl), (Nat.le_of_ble_eq_true rfl)⟩ ⟨(Nat.le_of_ble_eq_true rfl), (Nat.le_of_ble_eq_true rfl)⟩ dL_places_124 (fun v w' H locs hq hP hD hS hn => ?_)
  obtain ⟨rfl, rfl⟩ := hq
  have hg : s.heap.size + 10 ≤ H.size := Nat.le_trans hg hn
  refine zr_top (y := nI 0) (hol 3 (by decide)) ?_
  refine lv_iadd hx hb dL_places_127 ?_
  refine zr_top (y := nI t) (nI_add t 0) ?_
  refine lv_icmp_lt (tgt := 161) hx hb dL_places_128 (by decide) (fun h9 => (Int32.lt_irrefl h9).elim) (fun _ => ?_)
  refine lv_iload hx hb dL_places_131 (lv_at hl 0 rfl) ?_
  refine lv_aload_n hx hb dL_places_133 rfl (lv_at hl 5 rfl) ?_
  refine z_callVg (As := []) (rest := [Value.int (nI t)]) hx hb hml hown hta zm_X5_time wd_19_1 (c_X5_time l D y a cap clr t hom mov wm tb tf ts nw wf wt 5 bw bl bi bb 6 od ow ol ork ob olf oco pn pb pm pcd pw pli) hN hK hP hD hS hA 0 rfl rfl rfl hl rfl (Nat.le_of_ble_eq_true rfl) ⟨(Nat.le_of_ble_eq_true rfl), (Nat.le_of_ble_eq_true rfl)⟩ ⟨(Nat.le_of_ble_eq_true rfl), (Nat.le_of_ble_eq_true rfl)⟩ dL_places_134 (fun v w' H locs hq hP hD hS hn => ?_)
  obtain ⟨rfl, rfl⟩ := hq
  have hg : s.heap.size + 10 ≤ H.size := Nat.le_trans hg hn
  refine lv_icmp_ne (tgt := 144) hx hb dL_places_137 (by decide) (fun h9 => absurd rfl h9) (fun _ => ?_)
  refine lv_iconst (v := nI 1) hx hb dL_places_140 (by decide) ?_
  refine lv_goto (tgt := 145) hx hb dL_places_141 (by decide) ?_
  refine lv_aload_n hx hb dL_places_145 rfl (lv_at hl 5 rfl) ?_
  refine lv_iload_n hx hb dL_places_146 rfl (lv_at hl 3 rfl) ?_
  refine z_callW (As := [Value.ref (a 0), Value.int (nI 3)]) (rest := [Value.int (nI 1)]) hx hb hml hown hta zw_dryLeft wd_11_20 (c_L_dryLeft l hlt D y a cap clr t hom mov wm tb tf ts nw wf wt 5 bw bl bi bb 6 od ow ol ork ob olf oco pn pb pm pcd pw pli (nI 3) (by decide) (by decide +kernel) b) hH hX hbl hbA hN hK hP hD hS hA rfl hl rfl (Nat.le_of_ble_eq_true rfl) ⟨(Nat.le_of_ble_eq_true rfl), (Nat.le_of_ble_eq_true rfl)⟩ ⟨(Nat.le_of_ble_eq_true rfl), (Nat.le_of_ble_eq_true rfl)⟩ dL_places_147 (fun v w' H locs hq hP hD hS hn => ?_)
  obtain ⟨rfl, rfl⟩ := hq
  have hg : s.heap.size + 10 ≤ H.size := Nat.le_trans hg hn
  refine zr_top (y := nI 0) (hol 3 (by decide)) ?_
  refine lv_if_ne (tgt := 157) hx hb dL_places_150 (by decide) (fun h9 => absurd h9 (by decide)) (fun _ => ?_)
  refine lv_iconst (v := nI 1) hx hb dL_places_153 (by decide) ?_
  refine lv_goto (tgt := 158) hx hb dL_places_154 (by decide) ?_
  refine lv_icmp_eq (tgt := 163) hx hb dL_places_158 (by decide) (fun _ => ?_) (fun h9 => absurd (by decide) h9)
  refine lv_aload_n hx hb dL_places_163 rfl (lv_at hl 5 rfl) ?_
  refine lv_iload_n hx hb dL_places_164 rfl (lv_at hl 3 rfl) ?_
  refine z_callW (As := [Value.ref (a 0), Value.int (nI 3)]) (rest := []) hx hb hml hown hta zw_leastShifted wd_12_4 (c_L_leastShifted l hlt D y a cap clr t hom mov wm tb tf ts nw wf wt 5 bw bl bi bb 6 od ow ol ork ob olf oco pn pb pm pcd pw pli (nI 3) (by decide) (by decide) (by decide +kernel) (fun j9 h8 h9 => by rw [hob j9 h8]; decide +kernel) b) hH hX hbl hbA hN hK hP hD hS hA rfl hl rfl (Nat.le_of_ble_eq_true rfl) ⟨(Nat.le_of_ble_eq_true rfl), (Nat.le_of_ble_eq_true rfl)⟩ ⟨(Nat.le_of_ble_eq_true rfl), (Nat.le_of_ble_eq_true rfl)⟩ dL_places_165 (fun v w' H locs hq hP hD hS hn => ?_)
  obtain ⟨rfl, rfl⟩ := hq
  have hg : s.heap.size + 11 ≤ H.size := Nat.le_trans (Nat.add_le_add_right hg 1) hn
  refine lv_istore (lv' := [(7, Value.int (-1002 : Int32)), (6, Value.int (nI t)), (5, Value.int (-1002 : Int32)), (4, Value.int (nI 119)), (3, Value.int (nI 3)), (0, Value.ref (a 0)), (1, Value.int (nI 5)), (2, Value.int (nI 6))]) hx hb dL_places_168 hl (by decide) rfl (fun ls hl => ?_)
  refine lv_iload hx hb dL_places_170 (lv_at hl 0 rfl) ?_
  refine lv_aload_n hx hb dL_places_172 rfl (lv_at hl 5 rfl) ?_
  refine lv_iload_n hx hb dL_places_173 rfl (lv_at hl 4 rfl) ?_
  refine z_callW (As := [Value.ref (a 0), Value.int (nI 3)]) (rest := [Value.int (-1002 : Int32)]) hx hb hml hown hta zw_leastByRounds wd_23_3 (c_L_leastByRounds l hlt D y a cap clr t hom mov wm tb tf ts nw wf wt 5 bw bl bi bb 6 od ow ol ork ob olf oco pn pb pm pcd pw pli (nI 3) (by decide) (by decide) (by decide +kernel) (fun j9 h8 h9 => by rw [hob j9 h8]; decide +kernel) b) hH hX hbl hbA hN hK hP hD hS hA rfl hl rfl (Nat.le_of_ble_eq_true rfl) ⟨(Nat.le_of_ble_eq_true rfl), (Nat.le_of_ble_eq_true rfl)⟩ ⟨(Nat.le_of_ble_eq_true rfl), (Nat.le_of_ble_eq_true rfl)⟩ dL_places_174 (fun v w' H locs hq hP hD hS hn => ?_)
  obtain ⟨rfl, rfl⟩ := hq
  have hg : s.heap.size + 12 ≤ H.size := Nat.le_trans (Nat.add_le_add_right hg 1) hn
  refine lv_icmp_ne (tgt := 216) hx hb dL_places_177 (by decide) (fun h9 => absurd h9 (by decide)) (fun _ => ?_)
  refine lv_iload hx hb dL_places_180 (lv_at hl 0 rfl) ?_
  refine lv_sipush (v := (-1002 : Int32)) hx hb dL_places_182 (by decide) ?_
  refine lv_icmp_ne (tgt := 192) hx hb dL_places_185 (by decide) (fun h9 => absurd h9 (by decide)) (fun _ => ?_)
  refine lv_iconst (v := nI 1) hx hb dL_places_188 (by decide) ?_
  refine lv_goto (tgt := 193) hx hb dL_places_189 (by decide) ?_
  refine lv_iload hx hb dL_places_193 (lv_at hl 3 rfl) ?_
  refine lv_bipush (v := nI 98) hx hb dL_places_195 (by decide) ?_
  refine lv_icmp_eq (tgt := 204) hx hb dL_places_197 (by decide) (fun h9 => absurd h9 (by decide)) (fun _ => ?_)
  refine lv_iconst (v := nI 1) hx hb dL_places_200 (by decide) ?_
  refine lv_goto (tgt := 205) hx hb dL_places_201 (by decide) ?_
  refine lv_icmp_ne (tgt := 216) hx hb dL_places_205 (by decide) (fun h9 => absurd h9 (by decide)) (fun _ => ?_)
  refine lv_iload hx hb dL_places_208 (lv_at hl 0 rfl) ?_
  refine lv_sipush (v := (-1003 : Int32)) hx hb dL_places_210 (by decide) ?_
  refine lv_icmp_ge (tgt := 218) hx hb dL_places_213 (by decide) (fun _ => ?_) (fun h9 => absurd (by decide) h9)
  refine lv_iinc (v := nI 4) (lv' := [(3, Value.int (nI 4)), (7, Value.int (-1002 : Int32)), (6, Value.int (nI t)), (5, Value.int (-1002 : Int32)), (4, Value.int (nI 119)), (0, Value.ref (a 0)), (1, Value.int (nI 5)), (2, Value.int (nI 6))]) hx hb dL_places_218 hl (k := 4) rfl (nI_add 3 1) (by decide) rfl (fun ls hl => ?_)
  refine lv_goto (tgt := 2) hx hb dL_places_221 (by decide) ?_
  refine lv_iload_n hx hb dL_places_2 rfl (lv_at hl 0 rfl) ?_
  refine lv_iload_n hx hb dL_places_3 rfl (lv_at hl 7 rfl) ?_
  refine lv_icmp_ge (tgt := 224) hx hb dL_places_4 (by decide) (fun h9 => absurd h9 (by decide)) (fun _ => ?_)
  refine lv_aload_n hx hb dL_places_7 rfl (lv_at hl 5 rfl) ?_
  refine lv_iload_n hx hb dL_places_8 rfl (lv_at hl 0 rfl) ?_
  refine z_callW (As := [Value.ref (a 0), Value.int (nI 4)]) (rest := []) hx hb hml hown hta zw_state wd_10_8 (c_L_state l hlt D y a cap clr t hom mov wm tb tf ts nw wf wt 5 bw bl bi bb 6 od ow ol ork ob olf oco pn pb pm pcd pw pli (nI 4) (by decide) (by decide +kernel) b) hH hX hbl hbA hN hK hP hD hS hA rfl hl rfl (Nat.le_of_ble_eq_true rfl) ⟨(Nat.le_of_ble_eq_true rfl), (Nat.le_of_ble_eq_true rfl)⟩ ⟨(Nat.le_of_ble_eq_true rfl), (Nat.le_of_ble_eq_true rfl)⟩ dL_places_9 (fun v w' H locs hq hP hD hS hn => ?_)
  obtain ⟨rfl, rfl⟩ := hq
  have hg : s.heap.size + 12 ≤ H.size := Nat.le_trans hg hn
  refine zr_top (y := nI 119) (by show stF ob 4 = nI 119; rw [stF, if_pos (hob 4 (by decide))]; decide) ?_
  refine lv_istore (lv' := [(4, Value.int (nI 119)), (3, Value.int (nI 4)), (7, Value.int (-1002 : Int32)), (6, Value.int (nI t)), (5, Value.int (-1002 : Int32)), (0, Value.ref (a 0)), (1, Value.int (nI 5)), (2, Value.int (nI 6))]) hx hb dL_places_12 hl (by decide) rfl (fun ls hl => ?_)
  refine lv_aload_n hx hb dL_places_14 rfl (lv_at hl 5 rfl) ?_
  refine lv_iload_n hx hb dL_places_15 rfl (lv_at hl 1 rfl) ?_
  refine z_callW (As := [Value.ref (a 0), Value.int (nI 4)]) (rest := []) hx hb hml hown hta zw_berthOf wd_11_13 (c_L_berthOf l hlt D y a cap clr t hom mov wm tb tf ts nw wf wt 5 bw bl bi bb 6 od ow ol ork ob olf oco pn pb pm pcd pw pli (nI 4) (by decide) (by decide) (by rw [beC, if_pos (by decide +kernel), if_neg (by rw [show nN (nI 4) = 4 from rfl, hob 4 (by decide)]; decide +kernel)]) b) hH hX hbl hbA hN hK hP hD hS hA rfl hl rfl (Nat.le_of_ble_eq_true rfl) ⟨(Nat.le_of_ble_eq_true rfl), (Nat.le_of_ble_eq_true rfl)⟩ ⟨(Nat.le_of_ble_eq_true rfl), (Nat.le_of_ble_eq_true rfl)⟩ dL_places_16 (fun v w' H locs hq hP hD hS hn => ?_)
  obtain ⟨rfl, rfl⟩ := hq
  have hg : s.heap.size + 13 ≤ H.size := Nat.le_trans (Nat.add_le_add_right hg 1) hn
  refine lv_istore (lv' := [(5, Value.int (-1002 : Int32)), (4, Value.int (nI 119)), (3, Value.int (nI 4)), (7, Value.int (-1002 : Int32)), (6, Value.int (nI t)), (0, Value.ref (a 0)), (1, Value.int (nI 5)), (2, Value.int (nI 6))]) hx hb dL_places_19 hl (by decide) rfl (fun ls hl => ?_)
  refine lv_iload hx hb dL_places_21 (lv_at hl 1 rfl) ?_
  refine lv_bipush (v := nI 119) hx hb dL_places_23 (by decide) ?_
  refine lv_icmp_eq (tgt := 42) hx hb dL_places_25 (by decide) (fun _ => ?_) (fun h9 => absurd (by decide) h9)
  refine lv_iload hx hb dL_places_42 (lv_at hl 1 rfl) ?_
  refine lv_bipush (v := nI 98) hx hb dL_places_44 (by decide) ?_
  refine lv_icmp_ne (tgt := 53) hx hb dL_places_46 (by decide) (fun _ => ?_) (fun h9 => absurd h9 (by decide))
  refine lv_iconst (v := nI 0) hx hb dL_places_53 (by decide) ?_
  refine lv_iload hx hb dL_places_54 (lv_at hl 0 rfl) ?_
  refine lv_if_lt (tgt := 63) hx hb dL_places_56 (by decide) (fun _ => ?_) (fun h9 => absurd (by decide) h9)
  refine lv_iconst (v := nI 0) hx hb dL_places_63 (by decide) ?_
  refine lv_icmp_ne (tgt := 97) hx hb dL_places_64 (by decide) (fun h9 => absurd h9 (by decide)) (fun _ => ?_)
  refine lv_iload hx hb dL_places_67 (lv_at hl 0 rfl) ?_
  refine lv_if_lt (tgt := 82) hx hb dL_places_69 (by decide) (fun _ => ?_) (fun h9 => absurd (by decide) h9)
  refine lv_iload hx hb dL_places_82 (lv_at hl 1 rfl) ?_
  refine lv_bipush (v := nI 98) hx hb dL_places_84 (by decide) ?_
  refine lv_icmp_eq (tgt := 99) hx hb dL_places_86 (by decide) (fun h9 => absurd h9 (by decide)) (fun _ => ?_)
  refine lv_aload_n hx hb dL_places_89 rfl (lv_at hl 5 rfl) ?_
  refine lv_iload_n hx hb dL_places_90 rfl (lv_at hl 2 rfl) ?_
  refine z_callW (As := [Value.ref (a 0), Value.int (nI 4)]) (rest := []) hx hb hml hown hta zw_dryLeft wd_11_20 (c_L_dryLeft l hlt D y a cap clr t hom mov wm tb tf ts nw wf wt 5 bw bl bi bb 6 od ow ol ork ob olf oco pn pb pm pcd pw pli (nI 4) (by decide) (by decide +kernel) b) hH hX hbl hbA hN hK hP hD hS hA rfl hl rfl (Nat.le_of_ble_eq_true rfl) ⟨(Nat.le_of_ble_eq_true rfl), (Nat.le_of_ble_eq_true rfl)⟩ ⟨(Nat.le_of_ble_eq_true rfl), (Nat.le_of_ble_eq_true rfl)⟩ dL_places_91 (fun v w' H locs hq hP hD hS hn => ?_)
  obtain ⟨rfl, rfl⟩ := hq
  have hg : s.heap.size + 13 ≤ H.size := Nat.le_trans hg hn
  refine zr_top (y := nI 0) (hol 4 (by decide)) ?_
  refine lv_if_eq (tgt := 99) hx hb dL_places_94 (by decide) (fun _ => ?_) (fun h9 => absurd (by decide) h9)
  refine lv_aload_n hx hb dL_places_99 rfl (lv_at hl 5 rfl) ?_
  refine lv_iload_n hx hb dL_places_100 rfl (lv_at hl 2 rfl) ?_
  refine z_callW (As := [Value.ref (a 0), Value.int (nI 4)]) (rest := []) hx hb hml hown hta zw_dryAt wd_21_16 (c_L_dryAt l hlt D y a cap clr t hom mov wm tb tf ts nw wf wt 5 bw bl bi bb 6 od ow ol ork ob olf oco pn pb pm pcd pw pli (nI 4) (by decide) (hol 4 (by decide)) (by decide +kernel) b) hH hX hbl hbA hN hK hP hD hS hA rfl hl rfl (Nat.le_of_ble_eq_true rfl) ⟨(Nat.le_of_ble_eq_true rfl), (Nat.le_of_ble_eq_true rfl)⟩ ⟨(Nat.le_of_ble_eq_true rfl), (Nat.le_of_ble_eq_true rfl)⟩ dL_places_101 (fun v w' H locs hq hP hD hS hn => ?_)
  obtain ⟨rfl, rfl⟩ := hq
  have hg : s.heap.size + 13 ≤ H.size := Nat.le_trans hg hn
  refine lv_istore (lv' := [(6, Value.int (nI t)), (5, Value.int (-1002 : Int32)), (4, Value.int (nI 119)), (3, Value.int (nI 4)), (7, Value.int (-1002 : Int32)), (0, Value.ref (a 0)), (1, Value.int (nI 5)), (2, Value.int (nI 6))]) hx hb dL_places_104 hl (by decide) rfl (fun ls hl => ?_)
  refine lv_iload hx hb dL_places_106 (lv_at hl 0 rfl) ?_
  refine lv_aload_n hx hb dL_places_108 rfl (lv_at hl 5 rfl) ?_
  refine lv_iload_n hx hb dL_places_109 rfl (lv_at hl 3 rfl) ?_
  refine z_callW (As := [Value.ref (a 0), Value.int (nI 4)]) (rest := [Value.int (nI t)]) hx hb hml hown hta zw_dryByHours wd_22_15 (c_L_dryByHours l hlt D y a cap clr t hom mov wm tb tf ts nw wf wt 5 bw bl bi bb 6 od ow ol ork ob olf oco pn pb pm pcd pw pli (nI 4) (by decide) (hol 4 (by decide)) (by decide +kernel) b) hH hX hbl hbA hN hK hP hD hS hA rfl hl rfl (Nat.le_of_ble_eq_true rfl) ⟨(Nat.le_of_ble_eq_true rfl), (Nat.le_of_ble_eq_true rfl)⟩ ⟨(Nat.le_of_ble_eq_true rfl), (Nat.le_of_ble_eq_true rfl)⟩ dL_places_110 (fun v w' H locs hq hP hD hS hn => ?_)
  obtain ⟨rfl, rfl⟩ := hq
  have hg : s.heap.size + 13 ≤ H.size := Nat.le_trans hg hn
  refine lv_icmp_ne (tgt := 161) hx hb dL_places_113 (by decide) (fun h9 => absurd rfl h9) (fun _ => ?_)
  refine lv_iload hx hb dL_places_116 (lv_at hl 0 rfl) ?_
  refine lv_aload_n hx hb dL_places_118 rfl (lv_at hl 5 rfl) ?_
  refine z_callVg (As := []) (rest := [Value.int (nI t)]) hx hb hml hown hta zm_X5_time wd_19_1 (c_X5_time l D y a cap clr t hom mov wm tb tf ts nw wf wt 5 bw bl bi bb 6 od ow ol ork ob olf oco pn pb pm pcd pw pli) hN hK hP hD hS hA 0 rfl rfl rfl hl rfl (Nat.le_of_ble_eq_true rfl) ⟨(Nat.le_of_ble_eq_true rfl), (Nat.le_of_ble_eq_true rfl)⟩ ⟨(Nat.le_of_ble_eq_true rfl), (Nat.le_of_ble_eq_true rfl)⟩ dL_places_119 (fun v w' H locs hq hP hD hS hn => ?_)
  obtain ⟨rfl, rfl⟩ := hq
  have hg : s.heap.size + 13 ≤ H.size := Nat.le_trans hg hn
  refine lv_aload_n hx hb dL_places_122 rfl (lv_at hl 5 rfl) ?_
  refine lv_iload_n hx hb dL_places_123 rfl (lv_at hl 3 rfl) ?_
  refine z_callW (As := [Value.ref (a 0), Value.int (nI 4)]) (rest := [Value.int (nI t), Value.int (nI t)]) hx hb hml hown hta zw_dryLeft wd_11_20 (c_L_dryLeft l hlt D y a cap clr t hom mov wm tb tf ts nw wf wt 5 bw bl bi bb 6 od ow ol ork ob olf oco pn pb pm pcd pw pli (nI 4) (by decide) (by decide +kernel) b) hH hX hbl hbA hN hK hP hD hS hA rfl hl rfl (Nat.le_of_ble_eq_true rfl) ⟨(Nat.le_of_ble_eq_true rfl), (Nat.le_of_ble_eq_true rfl)⟩ ⟨(Nat.le_of_ble_eq_true rfl), (Nat.le_of_ble_eq_true rfl)⟩ dL_places_124 (fun v w' H locs hq hP hD hS hn => ?_)
  obtain ⟨rfl, rfl⟩ := hq
  have hg : s.heap.size + 13 ≤ H.size := Nat.le_trans hg hn
  refine zr_top (y := nI 0) (hol 4 (by decide)) ?_
  refine lv_iadd hx hb dL_places_127 ?_
  refine zr_top (y := nI t) (nI_add t 0) ?_
  refine lv_icmp_lt (tgt := 161) hx hb dL_places_128 (by decide) (fun h9 => (Int32.lt_irrefl h9).elim) (fun _ => ?_)
  refine lv_iload hx hb dL_places_131 (lv_at hl 0 rfl) ?_
  refine lv_aload_n hx hb dL_places_133 rfl (lv_at hl 5 rfl) ?_
  refine z_callVg (As := []) (rest := [Value.int (nI t)]) hx hb hml hown hta zm_X5_time wd_19_1 (c_X5_time l D y a cap clr t hom mov wm tb tf ts nw wf wt 5 bw bl bi bb 6 od ow ol ork ob olf oco pn pb pm pcd pw pli) hN hK hP hD hS hA 0 rfl rfl rfl hl rfl (Nat.le_of_ble_eq_true rfl) ⟨(Nat.le_of_ble_eq_true rfl), (Nat.le_of_ble_eq_true rfl)⟩ ⟨(Nat.le_of_ble_eq_true rfl), (Nat.le_of_ble_eq_true rfl)⟩ dL_places_134 (fun v w' H locs hq hP hD hS hn => ?_)
  obtain ⟨rfl, rfl⟩ := hq
  have hg : s.heap.size + 13 ≤ H.size := Nat.le_trans hg hn
  refine lv_icmp_ne (tgt := 144) hx hb dL_places_137 (by decide) (fun h9 => absurd rfl h9) (fun _ => ?_)
  refine lv_iconst (v := nI 1) hx hb dL_places_140 (by decide) ?_
  refine lv_goto (tgt := 145) hx hb dL_places_141 (by decide) ?_
  refine lv_aload_n hx hb dL_places_145 rfl (lv_at hl 5 rfl) ?_
  refine lv_iload_n hx hb dL_places_146 rfl (lv_at hl 3 rfl) ?_
  refine z_callW (As := [Value.ref (a 0), Value.int (nI 4)]) (rest := [Value.int (nI 1)]) hx hb hml hown hta zw_dryLeft wd_11_20 (c_L_dryLeft l hlt D y a cap clr t hom mov wm tb tf ts nw wf wt 5 bw bl bi bb 6 od ow ol ork ob olf oco pn pb pm pcd pw pli (nI 4) (by decide) (by decide +kernel) b) hH hX hbl hbA hN hK hP hD hS hA rfl hl rfl (Nat.le_of_ble_eq_true rfl) ⟨(Nat.le_of_ble_eq_true rfl), (Nat.le_of_ble_eq_true rfl)⟩ ⟨(Nat.le_of_ble_eq_true rfl), (Nat.le_of_ble_eq_true rfl)⟩ dL_places_147 (fun v w' H locs hq hP hD hS hn => ?_)
  obtain ⟨rfl, rfl⟩ := hq
  have hg : s.heap.size + 13 ≤ H.size := Nat.le_trans hg hn
  refine zr_top (y := nI 0) (hol 4 (by decide)) ?_
  refine lv_if_ne (tgt := 157) hx hb dL_places_150 (by decide) (fun h9 => absurd h9 (by decide)) (fun _ => ?_)
  refine lv_iconst (v := nI 1) hx hb dL_places_153 (by decide) ?_
  refine lv_goto (tgt := 158) hx hb dL_places_154 (by decide) ?_
  refine lv_icmp_eq (tgt := 163) hx hb dL_places_158 (by decide) (fun _ => ?_) (fun h9 => absurd (by decide) h9)
  refine lv_aload_n hx hb dL_places_163 rfl (lv_at hl 5 rfl) ?_
  refine lv_iload_n hx hb dL_places_164 rfl (lv_at hl 3 rfl) ?_
  refine z_callW (As := [Value.ref (a 0), Value.int (nI 4)]) (rest := []) hx hb hml hown hta zw_leastShifted wd_12_4 (c_L_leastShifted l hlt D y a cap clr t hom mov wm tb tf ts nw wf wt 5 bw bl bi bb 6 od ow ol ork ob olf oco pn pb pm pcd pw pli (nI 4) (by decide) (by decide) (by decide +kernel) (fun j9 h8 h9 => by rw [hob j9 h8]; decide +kernel) b) hH hX hbl hbA hN hK hP hD hS hA rfl hl rfl (Nat.le_of_ble_eq_true rfl) ⟨(Nat.le_of_ble_eq_true rfl), (Nat.le_of_ble_eq_true rfl)⟩ ⟨(Nat.le_of_ble_eq_true rfl), (Nat.le_of_ble_eq_true rfl)⟩ dL_places_165 (fun v w' H locs hq hP hD hS hn => ?_)
  obtain ⟨rfl, rfl⟩ := hq
  have hg : s.heap.size + 14 ≤ H.size := Nat.le_trans (Nat.add_le_add_right hg 1) hn
  refine lv_istore (lv' := [(7, Value.int (-1002 : Int32)), (6, Value.int (nI t)), (5, Value.int (-1002 : Int32)), (4, Value.int (nI 119)), (3, Value.int (nI 4)), (0, Value.ref (a 0)), (1, Value.int (nI 5)), (2, Value.int (nI 6))]) hx hb dL_places_168 hl (by decide) rfl (fun ls hl => ?_)
  refine lv_iload hx hb dL_places_170 (lv_at hl 0 rfl) ?_
  refine lv_aload_n hx hb dL_places_172 rfl (lv_at hl 5 rfl) ?_
  refine lv_iload_n hx hb dL_places_173 rfl (lv_at hl 4 rfl) ?_
  refine z_callW (As := [Value.ref (a 0), Value.int (nI 4)]) (rest := [Value.int (-1002 : Int32)]) hx hb hml hown hta zw_leastByRounds wd_23_3 (c_L_leastByRounds l hlt D y a cap clr t hom mov wm tb tf ts nw wf wt 5 bw bl bi bb 6 od ow ol ork ob olf oco pn pb pm pcd pw pli (nI 4) (by decide) (by decide) (by decide +kernel) (fun j9 h8 h9 => by rw [hob j9 h8]; decide +kernel) b) hH hX hbl hbA hN hK hP hD hS hA rfl hl rfl (Nat.le_of_ble_eq_true rfl) ⟨(Nat.le_of_ble_eq_true rfl), (Nat.le_of_ble_eq_true rfl)⟩ ⟨(Nat.le_of_ble_eq_true rfl), (Nat.le_of_ble_eq_true rfl)⟩ dL_places_174 (fun v w' H locs hq hP hD hS hn => ?_)
  obtain ⟨rfl, rfl⟩ := hq
  have hg : s.heap.size + 15 ≤ H.size := Nat.le_trans (Nat.add_le_add_right hg 1) hn
  refine lv_icmp_ne (tgt := 216) hx hb dL_places_177 (by decide) (fun h9 => absurd h9 (by decide)) (fun _ => ?_)
  refine lv_iload hx hb dL_places_180 (lv_at hl 0 rfl) ?_
  refine lv_sipush (v := (-1002 : Int32)) hx hb dL_places_182 (by decide) ?_
  refine lv_icmp_ne (tgt := 192) hx hb dL_places_185 (by decide) (fun h9 => absurd h9 (by decide)) (fun _ => ?_)
  refine lv_iconst (v := nI 1) hx hb dL_places_188 (by decide) ?_
  refine lv_goto (tgt := 193) hx hb dL_places_189 (by decide) ?_
  refine lv_iload hx hb dL_places_193 (lv_at hl 3 rfl) ?_
  refine lv_bipush (v := nI 98) hx hb dL_places_195 (by decide) ?_
  refine lv_icmp_eq (tgt := 204) hx hb dL_places_197 (by decide) (fun h9 => absurd h9 (by decide)) (fun _ => ?_)
  refine lv_iconst (v := nI 1) hx hb dL_places_200 (by decide) ?_
  refine lv_goto (tgt := 205) hx hb dL_places_201 (by decide) ?_
  refine lv_icmp_ne (tgt := 216) hx hb dL_places_205 (by decide) (fun h9 => absurd h9 (by decide)) (fun _ => ?_)
  refine lv_iload hx hb dL_places_208 (lv_at hl 0 rfl) ?_
  refine lv_sipush (v := (-1003 : Int32)) hx hb dL_places_210 (by decide) ?_
  refine lv_icmp_ge (tgt := 218) hx hb dL_places_213 (by decide) (fun _ => ?_) (fun h9 => absurd (by decide) h9)
  refine lv_iinc (v := nI 5) (lv' := [(3, Value.int (nI 5)), (7, Value.int (-1002 : Int32)), (6, Value.int (nI t)), (5, Value.int (-1002 : Int32)), (4, Value.int (nI 119)), (0, Value.ref (a 0)), (1, Value.int (nI 5)), (2, Value.int (nI 6))]) hx hb dL_places_218 hl (k := 4) rfl (nI_add 4 1) (by decide) rfl (fun ls hl => ?_)
  refine lv_goto (tgt := 2) hx hb dL_places_221 (by decide) ?_
  refine lv_iload_n hx hb dL_places_2 rfl (lv_at hl 0 rfl) ?_
  refine lv_iload_n hx hb dL_places_3 rfl (lv_at hl 7 rfl) ?_
  refine lv_icmp_ge (tgt := 224) hx hb dL_places_4 (by decide) (fun h9 => absurd h9 (by decide)) (fun _ => ?_)
  refine lv_aload_n hx hb dL_places_7 rfl (lv_at hl 5 rfl) ?_
  refine lv_iload_n hx hb dL_places_8 rfl (lv_at hl 0 rfl) ?_
  refine z_callW (As := [Value.ref (a 0), Value.int (nI 5)]) (rest := []) hx hb hml hown hta zw_state wd_10_8 (c_L_state l hlt D y a cap clr t hom mov wm tb tf ts nw wf wt 5 bw bl bi bb 6 od ow ol ork ob olf oco pn pb pm pcd pw pli (nI 5) (by decide) (by decide +kernel) b) hH hX hbl hbA hN hK hP hD hS hA rfl hl rfl (Nat.le_of_ble_eq_true rfl) ⟨(Nat.le_of_ble_eq_true rfl), (Nat.le_of_ble_eq_true rfl)⟩ ⟨(Nat.le_of_ble_eq_true rfl), (Nat.le_of_ble_eq_true rfl)⟩ dL_places_9 (fun v w' H locs hq hP hD hS hn => ?_)
  obtain ⟨rfl, rfl⟩ := hq
  have hg : s.heap.size + 15 ≤ H.size := Nat.le_trans hg hn
  refine zr_top (y := nI 119) (by show stF ob 5 = nI 119; rw [stF, if_pos (hob 5 (by decide))]; decide) ?_
  refine lv_istore (lv' := [(4, Value.int (nI 119)), (3, Value.int (nI 5)), (7, Value.int (-1002 : Int32)), (6, Value.int (nI t)), (5, Value.int (-1002 : Int32)), (0, Value.ref (a 0)), (1, Value.int (nI 5)), (2, Value.int (nI 6))]) hx hb dL_places_12 hl (by decide) rfl (fun ls hl => ?_)
  refine lv_aload_n hx hb dL_places_14 rfl (lv_at hl 5 rfl) ?_
  refine lv_iload_n hx hb dL_places_15 rfl (lv_at hl 1 rfl) ?_
  refine z_callW (As := [Value.ref (a 0), Value.int (nI 5)]) (rest := []) hx hb hml hown hta zw_berthOf wd_11_13 (c_L_berthOf l hlt D y a cap clr t hom mov wm tb tf ts nw wf wt 5 bw bl bi bb 6 od ow ol ork ob olf oco pn pb pm pcd pw pli (nI 5) (by decide) (by decide) (by rw [beC, if_pos (by decide +kernel), if_neg (by rw [show nN (nI 5) = 5 from rfl, hob 5 (by decide)]; decide +kernel)]) b) hH hX hbl hbA hN hK hP hD hS hA rfl hl rfl (Nat.le_of_ble_eq_true rfl) ⟨(Nat.le_of_ble_eq_true rfl), (Nat.le_of_ble_eq_true rfl)⟩ ⟨(Nat.le_of_ble_eq_true rfl), (Nat.le_of_ble_eq_true rfl)⟩ dL_places_16 (fun v w' H locs hq hP hD hS hn => ?_)
  obtain ⟨rfl, rfl⟩ := hq
  have hg : s.heap.size + 16 ≤ H.size := Nat.le_trans (Nat.add_le_add_right hg 1) hn
  refine lv_istore (lv' := [(5, Value.int (-1002 : Int32)), (4, Value.int (nI 119)), (3, Value.int (nI 5)), (7, Value.int (-1002 : Int32)), (6, Value.int (nI t)), (0, Value.ref (a 0)), (1, Value.int (nI 5)), (2, Value.int (nI 6))]) hx hb dL_places_19 hl (by decide) rfl (fun ls hl => ?_)
  refine lv_iload hx hb dL_places_21 (lv_at hl 1 rfl) ?_
  refine lv_bipush (v := nI 119) hx hb dL_places_23 (by decide) ?_
  refine lv_icmp_eq (tgt := 42) hx hb dL_places_25 (by decide) (fun _ => ?_) (fun h9 => absurd (by decide) h9)
  refine lv_iload hx hb dL_places_42 (lv_at hl 1 rfl) ?_
  refine lv_bipush (v := nI 98) hx hb dL_places_44 (by decide) ?_
  refine lv_icmp_ne (tgt := 53) hx hb dL_places_46 (by decide) (fun _ => ?_) (fun h9 => absurd h9 (by decide))
  refine lv_iconst (v := nI 0) hx hb dL_places_53 (by decide) ?_
  refine lv_iload hx hb dL_places_54 (lv_at hl 0 rfl) ?_
  refine lv_if_lt (tgt := 63) hx hb dL_places_56 (by decide) (fun _ => ?_) (fun h9 => absurd (by decide) h9)
  refine lv_iconst (v := nI 0) hx hb dL_places_63 (by decide) ?_
  refine lv_icmp_ne (tgt := 97) hx hb dL_places_64 (by decide) (fun h9 => absurd h9 (by decide)) (fun _ => ?_)
  refine lv_iload hx hb dL_places_67 (lv_at hl 0 rfl) ?_
  refine lv_if_lt (tgt := 82) hx hb dL_places_69 (by decide) (fun _ => ?_) (fun h9 => absurd (by decide) h9)
  refine lv_iload hx hb dL_places_82 (lv_at hl 1 rfl) ?_
  refine lv_bipush (v := nI 98) hx hb dL_places_84 (by decide) ?_
  refine lv_icmp_eq (tgt := 99) hx hb dL_places_86 (by decide) (fun h9 => absurd h9 (by decide)) (fun _ => ?_)
  refine lv_aload_n hx hb dL_places_89 rfl (lv_at hl 5 rfl) ?_
  refine lv_iload_n hx hb dL_places_90 rfl (lv_at hl 2 rfl) ?_
  refine z_callW (As := [Value.ref (a 0), Value.int (nI 5)]) (rest := []) hx hb hml hown hta zw_dryLeft wd_11_20 (c_L_dryLeft l hlt D y a cap clr t hom mov wm tb tf ts nw wf wt 5 bw bl bi bb 6 od ow ol ork ob olf oco pn pb pm pcd pw pli (nI 5) (by decide) (by decide +kernel) b) hH hX hbl hbA hN hK hP hD hS hA rfl hl rfl (Nat.le_of_ble_eq_true rfl) ⟨(Nat.le_of_ble_eq_true rfl), (Nat.le_of_ble_eq_true rfl)⟩ ⟨(Nat.le_of_ble_eq_true rfl), (Nat.le_of_ble_eq_true rfl)⟩ dL_places_91 (fun v w' H locs hq hP hD hS hn => ?_)
  obtain ⟨rfl, rfl⟩ := hq
  have hg : s.heap.size + 16 ≤ H.size := Nat.le_trans hg hn
  refine zr_top (y := nI 0) (hol 5 (by decide)) ?_
  refine lv_if_eq (tgt := 99) hx hb dL_places_94 (by decide) (fun _ => ?_) (fun h9 => absurd (by decide) h9)
  refine lv_aload_n hx hb dL_places_99 rfl (lv_at hl 5 rfl) ?_
  refine lv_iload_n hx hb dL_places_100 rfl (lv_at hl 2 rfl) ?_
  refine z_callW (As := [Value.ref (a 0), Value.int (nI 5)]) (rest := []) hx hb hml hown hta zw_dryAt wd_21_16 (c_L_dryAt l hlt D y a cap clr t hom mov wm tb tf ts nw wf wt 5 bw bl bi bb 6 od ow ol ork ob olf oco pn pb pm pcd pw pli (nI 5) (by decide) (hol 5 (by decide)) (by decide +kernel) b) hH hX hbl hbA hN hK hP hD hS hA rfl hl rfl (Nat.le_of_ble_eq_true rfl) ⟨(Nat.le_of_ble_eq_true rfl), (Nat.le_of_ble_eq_true rfl)⟩ ⟨(Nat.le_of_ble_eq_true rfl), (Nat.le_of_ble_eq_true rfl)⟩ dL_places_101 (fun v w' H locs hq hP hD hS hn => ?_)
  obtain ⟨rfl, rfl⟩ := hq
  have hg : s.heap.size + 16 ≤ H.size := Nat.le_trans hg hn
  refine lv_istore (lv' := [(6, Value.int (nI t)), (5, Value.int (-1002 : Int32)), (4, Value.int (nI 119)), (3, Value.int (nI 5)), (7, Value.int (-1002 : Int32)), (0, Value.ref (a 0)), (1, Value.int (nI 5)), (2, Value.int (nI 6))]) hx hb dL_places_104 hl (by decide) rfl (fun ls hl => ?_)
  refine lv_iload hx hb dL_places_106 (lv_at hl 0 rfl) ?_
  refine lv_aload_n hx hb dL_places_108 rfl (lv_at hl 5 rfl) ?_
  refine lv_iload_n hx hb dL_places_109 rfl (lv_at hl 3 rfl) ?_
  refine z_callW (As := [Value.ref (a 0), Value.int (nI 5)]) (rest := [Value.int (nI t)]) hx hb hml hown hta zw_dryByHours wd_22_15 (c_L_dryByHours l hlt D y a cap clr t hom mov wm tb tf ts nw wf wt 5 bw bl bi bb 6 od ow ol ork ob olf oco pn pb pm pcd pw pli (nI 5) (by decide) (hol 5 (by decide)) (by decide +kernel) b) hH hX hbl hbA hN hK hP hD hS hA rfl hl rfl (Nat.le_of_ble_eq_true rfl) ⟨(Nat.le_of_ble_eq_true rfl), (Nat.le_of_ble_eq_true rfl)⟩ ⟨(Nat.le_of_ble_eq_true rfl), (Nat.le_of_ble_eq_true rfl)⟩ dL_places_110 (fun v w' H locs hq hP hD hS hn => ?_)
  obtain ⟨rfl, rfl⟩ := hq
  have hg : s.heap.size + 16 ≤ H.size := Nat.le_trans hg hn
  refine lv_icmp_ne (tgt := 161) hx hb dL_places_113 (by decide) (fun h9 => absurd rfl h9) (fun _ => ?_)
  refine lv_iload hx hb dL_places_116 (lv_at hl 0 rfl) ?_
  refine lv_aload_n hx hb dL_places_118 rfl (lv_at hl 5 rfl) ?_
  refine z_callVg (As := []) (rest := [Value.int (nI t)]) hx hb hml hown hta zm_X5_time wd_19_1 (c_X5_time l D y a cap clr t hom mov wm tb tf ts nw wf wt 5 bw bl bi bb 6 od ow ol ork ob olf oco pn pb pm pcd pw pli) hN hK hP hD hS hA 0 rfl rfl rfl hl rfl (Nat.le_of_ble_eq_true rfl) ⟨(Nat.le_of_ble_eq_true rfl), (Nat.le_of_ble_eq_true rfl)⟩ ⟨(Nat.le_of_ble_eq_true rfl), (Nat.le_of_ble_eq_true rfl)⟩ dL_places_119 (fun v w' H locs hq hP hD hS hn => ?_)
  obtain ⟨rfl, rfl⟩ := hq
  have hg : s.heap.size + 16 ≤ H.size := Nat.le_trans hg hn
  refine lv_aload_n hx hb dL_places_122 rfl (lv_at hl 5 rfl) ?_
  refine lv_iload_n hx hb dL_places_123 rfl (lv_at hl 3 rfl) ?_
  refine z_callW (As := [Value.ref (a 0), Value.int (nI 5)]) (rest := [Value.int (nI t), Value.int (nI t)]) hx hb hml hown hta zw_dryLeft wd_11_20 (c_L_dryLeft l hlt D y a cap clr t hom mov wm tb tf ts nw wf wt 5 bw bl bi bb 6 od ow ol ork ob olf oco pn pb pm pcd pw pli (nI 5) (by decide) (by decide +kernel) b) hH hX hbl hbA hN hK hP hD hS hA rfl hl rfl (Nat.le_of_ble_eq_true rfl) ⟨(Nat.le_of_ble_eq_true rfl), (Nat.le_of_ble_eq_true rfl)⟩ ⟨(Nat.le_of_ble_eq_true rfl), (Nat.le_of_ble_eq_true rfl)⟩ dL_places_124 (fun v w' H locs hq hP hD hS hn => ?_)
  obtain ⟨rfl, rfl⟩ := hq
  have hg : s.heap.size + 16 ≤ H.size := Nat.le_trans hg hn
  refine zr_top (y := nI 0) (hol 5 (by decide)) ?_
  refine lv_iadd hx hb dL_places_127 ?_
  refine zr_top (y := nI t) (nI_add t 0) ?_
  refine lv_icmp_lt (tgt := 161) hx hb dL_places_128 (by decide) (fun h9 => (Int32.lt_irrefl h9).elim) (fun _ => ?_)
  refine lv_iload hx hb dL_places_131 (lv_at hl 0 rfl) ?_
  refine lv_aload_n hx hb dL_places_133 rfl (lv_at hl 5 rfl) ?_
  refine z_callVg (As := []) (rest := [Value.int (nI t)]) hx hb hml hown hta zm_X5_time wd_19_1 (c_X5_time l D y a cap clr t hom mov wm tb tf ts nw wf wt 5 bw bl bi bb 6 od ow ol ork ob olf oco pn pb pm pcd pw pli) hN hK hP hD hS hA 0 rfl rfl rfl hl rfl (Nat.le_of_ble_eq_true rfl) ⟨(Nat.le_of_ble_eq_true rfl), (Nat.le_of_ble_eq_true rfl)⟩ ⟨(Nat.le_of_ble_eq_true rfl), (Nat.le_of_ble_eq_true rfl)⟩ dL_places_134 (fun v w' H locs hq hP hD hS hn => ?_)
  obtain ⟨rfl, rfl⟩ := hq
  have hg : s.heap.size + 16 ≤ H.size := Nat.le_trans hg hn
  refine lv_icmp_ne (tgt := 144) hx hb dL_places_137 (by decide) (fun h9 => absurd rfl h9) (fun _ => ?_)
  refine lv_iconst (v := nI 1) hx hb dL_places_140 (by decide) ?_
  refine lv_goto (tgt := 145) hx hb dL_places_141 (by decide) ?_
  refine lv_aload_n hx hb dL_places_145 rfl (lv_at hl 5 rfl) ?_
  refine lv_iload_n hx hb dL_places_146 rfl (lv_at hl 3 rfl) ?_
  refine z_callW (As := [Value.ref (a 0), Value.int (nI 5)]) (rest := [Value.int (nI 1)]) hx hb hml hown hta zw_dryLeft wd_11_20 (c_L_dryLeft l hlt D y a cap clr t hom mov wm tb tf ts nw wf wt 5 bw bl bi bb 6 od ow ol ork ob olf oco pn pb pm pcd pw pli (nI 5) (by decide) (by decide +kernel) b) hH hX hbl hbA hN hK hP hD hS hA rfl hl rfl (Nat.le_of_ble_eq_true rfl) ⟨(Nat.le_of_ble_eq_true rfl), (Nat.le_of_ble_eq_true rfl)⟩ ⟨(Nat.le_of_ble_eq_true rfl), (Nat.le_of_ble_eq_true rfl)⟩ dL_places_147 (fun v w' H locs hq hP hD hS hn => ?_)
  obtain ⟨rfl, rfl⟩ := hq
  have hg : s.heap.size + 16 ≤ H.size := Nat.le_trans hg hn
  refine zr_top (y := nI 0) (hol 5 (by decide)) ?_
  refine lv_if_ne (tgt := 157) hx hb dL_places_150 (by decide) (fun h9 => absurd h9 (by decide)) (fun _ => ?_)
  refine lv_iconst (v := nI 1) hx hb dL_places_153 (by decide) ?_
  refine lv_goto (tgt := 158) hx hb dL_places_154 (by decide) ?_
  refine lv_icmp_eq (tgt := 163) hx hb dL_places_158 (by decide) (fun _ => ?_) (fun h9 => absurd (by decide) h9)
  refine lv_aload_n hx hb dL_places_163 rfl (lv_at hl 5 rfl) ?_
  refine lv_iload_n hx hb dL_places_164 rfl (lv_at hl 3 rfl) ?_
  refine z_callW (As := [Value.ref (a 0), Value.int (nI 5)]) (rest := []) hx hb hml hown hta zw_leastShifted wd_12_4 (c_L_leastShifted l hlt D y a cap clr t hom mov wm tb tf ts nw wf wt 5 bw bl bi bb 6 od ow ol ork ob olf oco pn pb pm pcd pw pli (nI 5) (by decide) (by decide) (by decide +kernel) (fun j9 h8 h9 => by rw [hob j9 h8]; decide +kernel) b) hH hX hbl hbA hN hK hP hD hS hA rfl hl rfl (Nat.le_of_ble_eq_true rfl) ⟨(Nat.le_of_ble_eq_true rfl), (Nat.le_of_ble_eq_true rfl)⟩ ⟨(Nat.le_of_ble_eq_true rfl), (Nat.le_of_ble_eq_true rfl)⟩ dL_places_165 (fun v w' H locs hq hP hD hS hn => ?_)
  obtain ⟨rfl, rfl⟩ := hq
  have hg : s.heap.size + 17 ≤ H.size := Nat.le_trans (Nat.add_le_add_right hg 1) hn
  refine lv_istore (lv' := [(7, Value.int (-1002 : Int32)), (6, Value.int (nI t)), (5, Value.int (-1002 : Int32)), (4, Value.int (nI 119)), (3, Value.int (nI 5)), (0, Value.ref (a 0)), (1, Value.int (nI 5)), (2, Value.int (nI 6))]) hx hb dL_places_168 hl (by decide) rfl (fun ls hl => ?_)
  refine lv_iload hx hb dL_places_170 (lv_at hl 0 rfl) ?_
  refine lv_aload_n hx hb dL_places_172 rfl (lv_at hl 5 rfl) ?_
  refine lv_iload_n hx hb dL_places_173 rfl (lv_at hl 4 rfl) ?_
  refine z_callW (As := [Value.ref (a 0), Value.int (nI 5)]) (rest := [Value.int (-1002 : Int32)]) hx hb hml hown hta zw_leastByRounds wd_23_3 (c_L_leastByRounds l hlt D y a cap clr t hom mov wm tb tf ts nw wf wt 5 bw bl bi bb 6 od ow ol ork ob olf oco pn pb pm pcd pw pli (nI 5) (by decide) (by decide) (by decide +kernel) (fun j9 h8 h9 => by rw [hob j9 h8]; decide +kernel) b) hH hX hbl hbA hN hK hP hD hS hA rfl hl rfl (Nat.le_of_ble_eq_true rfl) ⟨(Nat.le_of_ble_eq_true rfl), (Nat.le_of_ble_eq_true rfl)⟩ ⟨(Nat.le_of_ble_eq_true rfl), (Nat.le_of_ble_eq_true rfl)⟩ dL_places_174 (fun v w' H locs hq hP hD hS hn => ?_)
  obtain ⟨rfl, rfl⟩ := hq
  have hg : s.heap.size + 18 ≤ H.size := Nat.le_trans (Nat.add_le_add_right hg 1) hn
  refine lv_icmp_ne (tgt := 216) hx hb dL_places_177 (by decide) (fun h9 => absurd h9 (by decide)) (fun _ => ?_)
  refine lv_iload hx hb dL_places_180 (lv_at hl 0 rfl) ?_
  refine lv_sipush (v := (-1002 : Int32)) hx hb dL_places_182 (by decide) ?_
  refine lv_icmp_ne (tgt := 192) hx hb dL_places_185 (by decide) (fun h9 => absurd h9 (by decide)) (fun _ => ?_)
  refine lv_iconst (v := nI 1) hx hb dL_places_188 (by decide) ?_
  refine lv_goto (tgt := 193) hx hb dL_places_189 (by decide) ?_
  refine lv_iload hx hb dL_places_193 (lv_at hl 3 rfl) ?_
  refine lv_bipush (v := nI 98) hx hb dL_places_195 (by decide) ?_
  refine lv_icmp_eq (tgt := 204) hx hb dL_places_197 (by decide) (fun h9 => absurd h9 (by decide)) (fun _ => ?_)
  refine lv_iconst (v := nI 1) hx hb dL_places_200 (by decide) ?_
  refine lv_goto (tgt := 205) hx hb dL_places_201 (by decide) ?_
  refine lv_icmp_ne (tgt := 216) hx hb dL_places_205 (by decide) (fun h9 => absurd h9 (by decide)) (fun _ => ?_)
  refine lv_iload hx hb dL_places_208 (lv_at hl 0 rfl) ?_
  refine lv_sipush (v := (-1003 : Int32)) hx hb dL_places_210 (by decide) ?_
  refine lv_icmp_ge (tgt := 218) hx hb dL_places_213 (by decide) (fun _ => ?_) (fun h9 => absurd (by decide) h9)
  refine lv_iinc (v := nI 6) (lv' := [(3, Value.int (nI 6)), (7, Value.int (-1002 : Int32)), (6, Value.int (nI t)), (5, Value.int (-1002 : Int32)), (4, Value.int (nI 119)), (0, Value.ref (a 0)), (1, Value.int (nI 5)), (2, Value.int (nI 6))]) hx hb dL_places_218 hl (k := 4) rfl (nI_add 5 1) (by decide) rfl (fun ls hl => ?_)
  refine lv_goto (tgt := 2) hx hb dL_places_221 (by decide) ?_
  refine lv_iload_n hx hb dL_places_2 rfl (lv_at hl 0 rfl) ?_
  refine lv_iload_n hx hb dL_places_3 rfl (lv_at hl 7 rfl) ?_
  refine lv_icmp_ge (tgt := 224) hx hb dL_places_4 (by decide) (fun _ => ?_) (fun h9 => absurd (by decide) h9)
  refine lv_iconst (v := nI 0) hx hb dL_places_224 (by decide) ?_
  refine lv_istore_n (lv' := [(3, Value.int (nI 0)), (7, Value.int (-1002 : Int32)), (6, Value.int (nI t)), (5, Value.int (-1002 : Int32)), (4, Value.int (nI 119)), (0, Value.ref (a 0)), (1, Value.int (nI 5)), (2, Value.int (nI 6))]) hx hb dL_places_225 rfl hl (by decide) rfl (fun ls hl => ?_)
  refine lv_iload_n hx hb dL_places_226 rfl (lv_at hl 0 rfl) ?_
  refine lv_iload_n hx hb dL_places_227 rfl (lv_at hl 6 rfl) ?_
  refine lv_icmp_ge (tgt := 260) hx hb dL_places_228 (by decide) (fun h9 => absurd h9 (by decide)) (fun _ => ?_)
  refine lv_aload_n hx hb dL_places_231 rfl (lv_at hl 5 rfl) ?_
  refine lv_iload_n hx hb dL_places_232 rfl (lv_at hl 0 rfl) ?_
  refine z_callW (As := [Value.ref (a 0), Value.int (nI 0)]) (rest := []) hx hb hml hown hta zw_boatIn wd_10_15 (c_L_boatIn l hlt D y a cap clr t hom mov wm tb tf ts nw wf wt 5 bw bl bi bb 6 od ow ol ork ob olf oco pn pb pm pcd pw pli (nI 0) (by decide) (by rw [bnC, if_pos (by decide +kernel), if_pos (by rw [show nN (nI 0) = 0 from rfl]; exact hbb 0 (by decide))]) b) hH hX hbl hbA hN hK hP hD hS hA rfl hl rfl (Nat.le_of_ble_eq_true rfl) ⟨(Nat.le_of_ble_eq_true rfl), (Nat.le_of_ble_eq_true rfl)⟩ ⟨(Nat.le_of_ble_eq_true rfl), (Nat.le_of_ble_eq_true rfl)⟩ dL_places_233 (fun v w' H locs hq hP hD hS hn => ?_)
  obtain ⟨rfl, rfl⟩ := hq
  have hg : s.heap.size + 19 ≤ H.size := Nat.le_trans (Nat.add_le_add_right hg 1) hn
  refine lv_if_lt (tgt := 254) hx hb dL_places_236 (by decide) (fun _ => ?_) (fun h9 => absurd (by decide) h9)
  refine lv_iinc (v := nI 1) (lv' := [(3, Value.int (nI 1)), (7, Value.int (-1002 : Int32)), (6, Value.int (nI t)), (5, Value.int (-1002 : Int32)), (4, Value.int (nI 119)), (0, Value.ref (a 0)), (1, Value.int (nI 5)), (2, Value.int (nI 6))]) hx hb dL_places_254 hl (k := 0) rfl (nI_add 0 1) (by decide) rfl (fun ls hl => ?_)
  refine lv_goto (tgt := 226) hx hb dL_places_257 (by decide) ?_
  refine lv_iload_n hx hb dL_places_226 rfl (lv_at hl 0 rfl) ?_
  refine lv_iload_n hx hb dL_places_227 rfl (lv_at hl 6 rfl) ?_
  refine lv_icmp_ge (tgt := 260) hx hb dL_places_228 (by decide) (fun h9 => absurd h9 (by decide)) (fun _ => ?_)
  refine lv_aload_n hx hb dL_places_231 rfl (lv_at hl 5 rfl) ?_
  refine lv_iload_n hx hb dL_places_232 rfl (lv_at hl 0 rfl) ?_
  refine z_callW (As := [Value.ref (a 0), Value.int (nI 1)]) (rest := []) hx hb hml hown hta zw_boatIn wd_10_15 (c_L_boatIn l hlt D y a cap clr t hom mov wm tb tf ts nw wf wt 5 bw bl bi bb 6 od ow ol ork ob olf oco pn pb pm pcd pw pli (nI 1) (by decide) (by rw [bnC, if_pos (by decide +kernel), if_pos (by rw [show nN (nI 1) = 1 from rfl]; exact hbb 1 (by decide))]) b) hH hX hbl hbA hN hK hP hD hS hA rfl hl rfl (Nat.le_of_ble_eq_true rfl) ⟨(Nat.le_of_ble_eq_true rfl), (Nat.le_of_ble_eq_true rfl)⟩ ⟨(Nat.le_of_ble_eq_true rfl), (Nat.le_of_ble_eq_true rfl)⟩ dL_places_233 (fun v w' H locs hq hP hD hS hn => ?_)
  obtain ⟨rfl, rfl⟩ := hq
  have hg : s.heap.size + 20 ≤ H.size := Nat.le_trans (Nat.add_le_add_right hg 1) hn
  refine lv_if_lt (tgt := 254) hx hb dL_places_236 (by decide) (fun _ => ?_) (fun h9 => absurd (by decide) h9)
  refine lv_iinc (v := nI 2) (lv' := [(3, Value.int (nI 2)), (7, Value.int (-1002 : Int32)), (6, Value.int (nI t)), (5, Value.int (-1002 : Int32)), (4, Value.int (nI 119)), (0, Value.ref (a 0)), (1, Value.int (nI 5)), (2, Value.int (nI 6))]) hx hb dL_places_254 hl (k := 0) rfl (nI_add 1 1) (by decide) rfl (fun ls hl => ?_)
  refine lv_goto (tgt := 226) hx hb dL_places_257 (by decide) ?_
  refine lv_iload_n hx hb dL_places_226 rfl (lv_at hl 0 rfl) ?_
  refine lv_iload_n hx hb dL_places_227 rfl (lv_at hl 6 rfl) ?_
  refine lv_icmp_ge (tgt := 260) hx hb dL_places_228 (by decide) (fun h9 => absurd h9 (by decide)) (fun _ => ?_)
  refine lv_aload_n hx hb dL_places_231 rfl (lv_at hl 5 rfl) ?_
  refine lv_iload_n hx hb dL_places_232 rfl (lv_at hl 0 rfl) ?_
  refine z_callW (As := [Value.ref (a 0), Value.int (nI 2)]) (rest := []) hx hb hml hown hta zw_boatIn wd_10_15 (c_L_boatIn l hlt D y a cap clr t hom mov wm tb tf ts nw wf wt 5 bw bl bi bb 6 od ow ol ork ob olf oco pn pb pm pcd pw pli (nI 2) (by decide) (by rw [bnC, if_pos (by decide +kernel), if_pos (by rw [show nN (nI 2) = 2 from rfl]; exact hbb 2 (by decide))]) b) hH hX hbl hbA hN hK hP hD hS hA rfl hl rfl (Nat.le_of_ble_eq_true rfl) ⟨(Nat.le_of_ble_eq_true rfl), (Nat.le_of_ble_eq_true rfl)⟩ ⟨(Nat.le_of_ble_eq_true rfl), (Nat.le_of_ble_eq_true rfl)⟩ dL_places_233 (fun v w' H locs hq hP hD hS hn => ?_)
  obtain ⟨rfl, rfl⟩ := hq
  have hg : s.heap.size + 21 ≤ H.size := Nat.le_trans (Nat.add_le_add_right hg 1) hn
  refine lv_if_lt (tgt := 254) hx hb dL_places_236 (by decide) (fun _ => ?_) (fun h9 => absurd (by decide) h9)
  refine lv_iinc (v := nI 3) (lv' := [(3, Value.int (nI 3)), (7, Value.int (-1002 : Int32)), (6, Value.int (nI t)), (5, Value.int (-1002 : Int32)), (4, Value.int (nI 119)), (0, Value.ref (a 0)), (1, Value.int (nI 5)), (2, Value.int (nI 6))]) hx hb dL_places_254 hl (k := 0) rfl (nI_add 2 1) (by decide) rfl (fun ls hl => ?_)
  refine lv_goto (tgt := 226) hx hb dL_places_257 (by decide) ?_
  refine lv_iload_n hx hb dL_places_226 rfl (lv_at hl 0 rfl) ?_
  refine lv_iload_n hx hb dL_places_227 rfl (lv_at hl 6 rfl) ?_
  refine lv_icmp_ge (tgt := 260) hx hb dL_places_228 (by decide) (fun h9 => absurd h9 (by decide)) (fun _ => ?_)
  refine lv_aload_n hx hb dL_places_231 rfl (lv_at hl 5 rfl) ?_
  refine lv_iload_n hx hb dL_places_232 rfl (lv_at hl 0 rfl) ?_
  refine z_callW (As := [Value.ref (a 0), Value.int (nI 3)]) (rest := []) hx hb hml hown hta zw_boatIn wd_10_15 (c_L_boatIn l hlt D y a cap clr t hom mov wm tb tf ts nw wf wt 5 bw bl bi bb 6 od ow ol ork ob olf oco pn pb pm pcd pw pli (nI 3) (by decide) (by rw [bnC, if_pos (by decide +kernel), if_pos (by rw [show nN (nI 3) = 3 from rfl]; exact hbb 3 (by decide))]) b) hH hX hbl hbA hN hK hP hD hS hA rfl hl rfl (Nat.le_of_ble_eq_true rfl) ⟨(Nat.le_of_ble_eq_true rfl), (Nat.le_of_ble_eq_true rfl)⟩ ⟨(Nat.le_of_ble_eq_true rfl), (Nat.le_of_ble_eq_true rfl)⟩ dL_places_233 (fun v w' H locs hq hP hD hS hn => ?_)
  obtain ⟨rfl, rfl⟩ := hq
  have hg : s.heap.size + 22 ≤ H.size := Nat.le_trans (Nat.add_le_add_right hg 1) hn
  refine lv_if_lt (tgt := 254) hx hb dL_places_236 (by decide) (fun _ => ?_) (fun h9 => absurd (by decide) h9)
  refine lv_iinc (v := nI 4) (lv' := [(3, Value.int (nI 4)), (7, Value.int (-1002 : Int32)), (6, Value.int (nI t)), (5, Value.int (-1002 : Int32)), (4, Value.int (nI 119)), (0, Value.ref (a 0)), (1, Value.int (nI 5)), (2, Value.int (nI 6))]) hx hb dL_places_254 hl (k := 0) rfl (nI_add 3 1) (by decide) rfl (fun ls hl => ?_)
  refine lv_goto (tgt := 226) hx hb dL_places_257 (by decide) ?_
  refine lv_iload_n hx hb dL_places_226 rfl (lv_at hl 0 rfl) ?_
  refine lv_iload_n hx hb dL_places_227 rfl (lv_at hl 6 rfl) ?_
  refine lv_icmp_ge (tgt := 260) hx hb dL_places_228 (by decide) (fun h9 => absurd h9 (by decide)) (fun _ => ?_)
  refine lv_aload_n hx hb dL_places_231 rfl (lv_at hl 5 rfl) ?_
  refine lv_iload_n hx hb dL_places_232 rfl (lv_at hl 0 rfl) ?_
  refine z_callW (As := [Value.ref (a 0), Value.int (nI 4)]) (rest := []) hx hb hml hown hta zw_boatIn wd_10_15 (c_L_boatIn l hlt D y a cap clr t hom mov wm tb tf ts nw wf wt 5 bw bl bi bb 6 od ow ol ork ob olf oco pn pb pm pcd pw pli (nI 4) (by decide) (by rw [bnC, if_pos (by decide +kernel), if_pos (by rw [show nN (nI 4) = 4 from rfl]; exact hbb 4 (by decide))]) b) hH hX hbl hbA hN hK hP hD hS hA rfl hl rfl (Nat.le_of_ble_eq_true rfl) ⟨(Nat.le_of_ble_eq_true rfl), (Nat.le_of_ble_eq_true rfl)⟩ ⟨(Nat.le_of_ble_eq_true rfl), (Nat.le_of_ble_eq_true rfl)⟩ dL_places_233 (fun v w' H locs hq hP hD hS hn => ?_)
  obtain ⟨rfl, rfl⟩ := hq
  have hg : s.heap.size + 23 ≤ H.size := Nat.le_trans (Nat.add_le_add_right hg 1) hn
  refine lv_if_lt (tgt := 254) hx hb dL_places_236 (by decide) (fun _ => ?_) (fun h9 => absurd (by decide) h9)
  refine lv_iinc (v := nI 5) (lv' := [(3, Value.int (nI 5)), (7, Value.int (-1002 : Int32)), (6, Value.int (nI t)), (5, Value.int (-1002 : Int32)), (4, Value.int (nI 119)), (0, Value.ref (a 0)), (1, Value.int (nI 5)), (2, Value.int (nI 6))]) hx hb dL_places_254 hl (k := 0) rfl (nI_add 4 1) (by decide) rfl (fun ls hl => ?_)
  refine lv_goto (tgt := 226) hx hb dL_places_257 (by decide) ?_
  refine lv_iload_n hx hb dL_places_226 rfl (lv_at hl 0 rfl) ?_
  refine lv_iload_n hx hb dL_places_227 rfl (lv_at hl 6 rfl) ?_
  refine lv_icmp_ge (tgt := 260) hx hb dL_places_228 (by decide) (fun _ => ?_) (fun h9 => absurd (by decide) h9)
  refine lv_iconst (v := nI 1) hx hb dL_places_260 (by decide) ?_
  exact z_zretG hG hx hb hr hlocks hP hD hS (Nat.le_of_ble_eq_true rfl) (Nat.le_of_ble_eq_true rfl) dL_places_261 (by decide) ⟨rfl, rfl⟩ hg
