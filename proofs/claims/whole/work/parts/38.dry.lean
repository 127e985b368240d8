set_option maxHeartbeats 800000 in
set_option maxRecDepth 100000 in
theorem c_X4_nextGood (l : Launch) (D : va_G) (y : Nat → ClassId) (a : Nat → Nat) (cap clr : Int32) (t : Nat) (hom mov : Int32) (wm : Int64) (tb tf ts : Int32) (nw : Nat) (wf wt : Nat → Int32) (nb : Nat) (bw bl bi bb : Nat → Int32) (no : Nat) (od ow ol ork ob olf oco : Nat → Int32) (pn pb pm : Int32) (pcd pw pli : Nat → Int32) (x0 : Nat) (hw : nw ≤ 6) (hsp : spOk wf wt nw) (hn : x0 ≤ 12000) : zP l D y yX4_nextGood cX4_nextGood 5 (some .int) 0 0 0 0 [Value.ref (a 2), Value.int (nI x0)] (wB a y cap clr (nI t) hom mov wm tb tf ts (nI nw) wf wt (nI nb) bw bl bi bb (nI no) od ow ol ork ob olf oco pn pb pm pcd pw pli) (fun o9 w9 => ∃ (g : Nat), (x0 ≤ g ∧ (g ≤ x0 ∨ g ≤ 10000) ∧ (∀ i, x0 ≤ i → i < g → bdN wf wt nw i = true) ∧ bdN wf wt nw g = false) ∧ o9 = some (Value.int (nI g)) ∧ w9 = wB a y cap clr (nI t) hom mov wm tb tf ts (nI nw) wf wt (nI nb) bw bl bi bb (nI no) od ow ol ork ob olf oco pn pb pm pcd pw pli) := by
  refine zP.of (by decide +kernel) (Nat.le_of_ble_eq_true rfl) ?_
  intro p e s m args below meth c A ls hx hb hr hta hown hlocks hml hin hN hK hP hD hS hA hl
  refine z_gen (fun G hG => ?_)
  have hl : lv_has ls 5 [(0, Value.ref (a 2)), (1, Value.int (nI x0))] := hl
  refine lv_iload_n hx hb dX4_nextGood_0 rfl (lv_at hl 1 rfl) ?_
  refine lv_istore_n (lv' := [(2, Value.int (nI x0)), (0, Value.ref (a 2)), (1, Value.int (nI x0))]) hx hb dX4_nextGood_1 rfl hl (by decide) rfl (fun ls hl => ?_)
  refine lv_iconst (v := (0 : Int32)) hx hb dX4_nextGood_2 (by decide) ?_
  refine lv_istore_n (lv' := [(3, Value.int (0 : Int32)), (2, Value.int (nI x0)), (0, Value.ref (a 2)), (1, Value.int (nI x0))]) hx hb dX4_nextGood_3 rfl hl (by decide) rfl (fun ls hl => ?_)
  have LP4 : ∀ (n : Nat) (i : Nat) (g : Nat), (i ≤ nw) → (x0 ≤ g) → (g ≤ x0 ∨ g ≤ 10000) → (∀ x, x0 ≤ x → x < g → bdN wf wt nw x = true) → (bdN wf wt nw g = false ∨ i ≤ cBe wt nw g) → nw - i < n → ∀ (H : Heap) (locs : List Loc) (ls : Array Slot), va_P D vwCl (wB a y cap clr (nI t) hom mov wm tb tf ts (nI nw) wf wt (nI nb) bw bl bi bb (nI no) od ow ol ork ob olf oco pn pb pm pcd pw pli) H → va_D A (wB a y cap clr (nI t) hom mov wm tb tf ts (nI nw) wf wt (nI nb) bw bl bi bb (nI no) od ow ol ork ob olf oco pn pb pm pcd pw pli) → va_S A s.heap H locs → lv_has ls 5 [(3, Value.int (nI i)), (2, Value.int (nI g)), (0, Value.ref (a 2)), (1, Value.int (nI x0))] → W p l e ({ frames := 0, cells := 0, slots := 0, locals := 0 } : Room) s m args below meth c H locs 0 0 G (F0 m 4 ls []) := by
    intro n
    induction n with
    | zero => intro i g hi hng hgm hbd hor hn; exact absurd hn (Nat.not_lt_zero _)
    | succ n ih4 =>
      intro i g hi hng hgm hbd hor hn H locs ls hP hD hS hl
      refine lv_iload_n hx hb dX4_nextGood_4 rfl (lv_at hl 0 rfl) ?_
      refine lv_aload_n hx hb dX4_nextGood_5 rfl (lv_at hl 2 rfl) ?_
      refine gB4_count hx hb hta hown hK hP wd_3_4 dX4_nextGood_6 ?_
      refine lv_icmp_ge (tgt := 66) hx hb dX4_nextGood_9 (by decide) (fun c9 => ?_) (fun c9 => ?_)
      · have c9 : nw ≤ i := (nI_leI (a := nw) (b := i) (by omega) (by omega)).mp c9
        refine lv_iload_n hx hb dX4_nextGood_66 rfl (lv_at hl 1 rfl) ?_
        refine z_iret hG hx hb hr hlocks hP hD hS (Nat.le_of_ble_eq_true rfl) (Nat.le_of_ble_eq_true rfl) dX4_nextGood_67 ?_
        refine ⟨g, ⟨hng, hgm, hbd, hor.elim (fun z => z) (fun z => bd_over (by rw [show nw = i by omega]; rw [show nw = i by omega] at z; exact z))⟩, rfl, rfl⟩
      · have c9 : ¬ nw ≤ i := fun z => c9 ((nI_leI (a := nw) (b := i) (by omega) (by omega)).mpr z)
        refine lv_iconst (v := (0 : Int32)) hx hb dX4_nextGood_12 (by decide) ?_
        refine lv_istore (lv' := [(4, Value.int (0 : Int32)), (3, Value.int (nI i)), (2, Value.int (nI g)), (0, Value.ref (a 2)), (1, Value.int (nI x0))]) hx hb dX4_nextGood_13 hl (by decide) rfl (fun ls hl => ?_)
        have LP15 : ∀ (n : Nat) (k : Nat) (g1 : Nat), (k ≤ nw) → (x0 ≤ g1) → (g1 ≤ x0 ∨ g1 ≤ 10000) → (∀ x, x0 ≤ x → x < g1 → bdN wf wt nw x = true) → ((g1 = g ∧ ∀ j, j < k → ¬ (wf j ≤ nI g ∧ nI g < wt j)) ∨ i + 1 ≤ cBe wt nw g1) → nw - k < n → ∀ (H : Heap) (locs : List Loc) (ls : Array Slot), va_P D vwCl (wB a y cap clr (nI t) hom mov wm tb tf ts (nI nw) wf wt (nI nb) bw bl bi bb (nI no) od ow ol ork ob olf oco pn pb pm pcd pw pli) H → va_D A (wB a y cap clr (nI t) hom mov wm tb tf ts (nI nw) wf wt (nI nb) bw bl bi bb (nI no) od ow ol ork ob olf oco pn pb pm pcd pw pli) → va_S A s.heap H locs → lv_has ls 5 [(4, Value.int (nI k)), (3, Value.int (nI i)), (2, Value.int (nI g1)), (0, Value.ref (a 2)), (1, Value.int (nI x0))] → W p l e ({ frames := 0, cells := 0, slots := 0, locals := 0 } : Room) s m args below meth c H locs 0 0 G (F0 m 15 ls []) := by
          intro n
          induction n with
          | zero => intro k g1 hk hn1 hm1 hb1 hor1 hn; exact absurd hn (Nat.not_lt_zero _)
          | succ n ih15 =>
            intro k g1 hk hn1 hm1 hb1 hor1 hn H locs ls hP hD hS hl
            refine lv_iload hx hb dX4_nextGood_15 (lv_at hl 0 rfl) ?_
            refine lv_aload_n hx hb dX4_nextGood_17 rfl (lv_at hl 3 rfl) ?_
            refine gB4_count hx hb hta hown hK hP wd_3_4 dX4_nextGood_18 ?_
            refine lv_icmp_ge (tgt := 60) hx hb dX4_nextGood_21 (by decide) (fun c21 => ?_) (fun c21 => ?_)
            · have c21 : nw ≤ k := (nI_leI (a := nw) (b := k) (by omega) (by omega)).mp c21
              refine lv_iinc (v := nI (i + 1)) (lv' := [(3, Value.int (nI (i + 1))), (4, Value.int (nI k)), (2, Value.int (nI g1)), (0, Value.ref (a 2)), (1, Value.int (nI x0))]) hx hb dX4_nextGood_60 hl (k := 1) rfl (nI_add i 1) (by decide) rfl (fun ls hl => ?_)
              refine lv_goto (tgt := 4) hx hb dX4_nextGood_63 (by decide) ?_
              have hl := lv_sub hl [0, 2, 3, 4] rfl
              have hv1_hbd : ∀ x, x0 ≤ x → x < g1 → bdN wf wt nw x = true := by
                exact hb1
              have hv2_hor : bdN wf wt nw g1 = false ∨ (i + 1) ≤ cBe wt nw g1 := by
                rcases hor1 with ⟨e1, h1⟩ | h1
                · exact Or.inl (badF_f (fun j hj => by rw [e1]; exact h1 j (by omega)))
                · exact Or.inr h1
              exact ih4 (i + 1) g1 (by omega) (by omega) (by omega) hv1_hbd hv2_hor (by omega) _ _ _ hP hD hS hl
            · have c21 : ¬ nw ≤ k := fun z => c21 ((nI_leI (a := nw) (b := k) (by omega) (by omega)).mpr z)
              refine lv_aload_n hx hb dX4_nextGood_24 rfl (lv_at hl 3 rfl) ?_
              refine gB4_from hx hb hta hown hK hP wd_3_2 dX4_nextGood_25 ?_
              refine lv_iload hx hb dX4_nextGood_28 (lv_at hl 0 rfl) ?_
              refine aB_wf hx hb hK hP k rfl (by omega) dX4_nextGood_30 ?_
              refine lv_iload_n hx hb dX4_nextGood_31 rfl (lv_at hl 2 rfl) ?_
              refine lv_icmp_gt (tgt := 54) hx hb dX4_nextGood_32 (by decide) (fun c32 => ?_) (fun c32 => ?_)
              · refine lv_iinc (v := nI (k + 1)) (lv' := [(4, Value.int (nI (k + 1))), (3, Value.int (nI i)), (2, Value.int (nI g1)), (0, Value.ref (a 2)), (1, Value.int (nI x0))]) hx hb dX4_nextGood_54 hl (k := 0) rfl (nI_add k 1) (by decide) rfl (fun ls hl => ?_)
                refine lv_goto (tgt := 15) hx hb dX4_nextGood_57 (by decide) ?_
                have hl := lv_sub hl [0, 1, 2, 3, 4] rfl
                have hv3_hb1 : ∀ x, x0 ≤ x → x < g1 → bdN wf wt nw x = true := by
                  first
                  | exact hb1
                  | exact fun x h1 h2 => (Nat.lt_or_ge x g1).elim (fun z => hb1 x h1 z) (fun z => bd_t (k := k) (by omega) (Int32.le_trans (Int32.not_lt.mp c32) (nI_le z (by omega))) (by rw [hg9]; exact nI_lt h2 (by omega)))
                have hv4_hor1 : (g1 = g ∧ ∀ j, j < (k + 1) → ¬ (wf j ≤ nI g ∧ nI g < wt j)) ∨ i + 1 ≤ cBe wt nw g1 := by
                  first
                  | exact hor1.elim (fun z => Or.inl ⟨z.1, all_step z.2 (fun q => Int32.not_le.mpr c32 (by rw [z.1]; exact q.1))⟩) (fun z => Or.inr z)
                  | exact hor1.elim (fun z => Or.inl ⟨z.1, all_step z.2 (fun q => Int32.not_lt.mpr c43 (by rw [z.1]; exact q.2))⟩) (fun z => Or.inr z)
                  | exact hor1.elim (fun z => hor.elim (fun q => absurd ⟨by rw [← z.1]; exact Int32.not_lt.mp c32, by rw [← z.1, hg9]; exact nI_lt c43 (by omega)⟩ (bd_no q k (by omega))) (fun q => Or.inr (by have := cBe_lt (wf := wf) (nw := nw) (n := g1) (k := k) (by omega) hg9 c43 (by omega); rw [← z.1] at q; omega))) (fun z => Or.inr (Nat.le_trans z (cBe_mono (by omega) (by omega))))
                exact ih15 (k + 1) g1 (by omega) (by omega) (by omega) hv3_hb1 hv4_hor1 (by omega) _ _ _ hP hD hS hl
              · refine lv_iload_n hx hb dX4_nextGood_35 rfl (lv_at hl 2 rfl) ?_
                refine lv_aload_n hx hb dX4_nextGood_36 rfl (lv_at hl 3 rfl) ?_
                refine gB4_to hx hb hta hown hK hP wd_3_3 dX4_nextGood_37 ?_
                refine lv_iload hx hb dX4_nextGood_40 (lv_at hl 0 rfl) ?_
                refine aB_wt hx hb hK hP k rfl (by omega) dX4_nextGood_42 ?_
                refine lv_icmp_ge (tgt := 54) hx hb dX4_nextGood_43 (by decide) (fun c43 => ?_) (fun c43 => ?_)
                · refine lv_iinc (v := nI (k + 1)) (lv' := [(4, Value.int (nI (k + 1))), (3, Value.int (nI i)), (2, Value.int (nI g1)), (0, Value.ref (a 2)), (1, Value.int (nI x0))]) hx hb dX4_nextGood_54 hl (k := 0) rfl (nI_add k 1) (by decide) rfl (fun ls hl => ?_)
                  refine lv_goto (tgt := 15) hx hb dX4_nextGood_57 (by decide) ?_
                  have hl := lv_sub hl [0, 1, 2, 3, 4] rfl
                  have hv5_hb1 : ∀ x, x0 ≤ x → x < g1 → bdN wf wt nw x = true := by
                    first
                    | exact hb1
                    | exact fun x h1 h2 => (Nat.lt_or_ge x g1).elim (fun z => hb1 x h1 z) (fun z => bd_t (k := k) (by omega) (Int32.le_trans (Int32.not_lt.mp c32) (nI_le z (by omega))) (by rw [hg9]; exact nI_lt h2 (by omega)))
                  have hv6_hor1 : (g1 = g ∧ ∀ j, j < (k + 1) → ¬ (wf j ≤ nI g ∧ nI g < wt j)) ∨ i + 1 ≤ cBe wt nw g1 := by
                    first
                    | exact hor1.elim (fun z => Or.inl ⟨z.1, all_step z.2 (fun q => Int32.not_le.mpr c32 (by rw [z.1]; exact q.1))⟩) (fun z => Or.inr z)
                    | exact hor1.elim (fun z => Or.inl ⟨z.1, all_step z.2 (fun q => Int32.not_lt.mpr c43 (by rw [z.1]; exact q.2))⟩) (fun z => Or.inr z)
                    | exact hor1.elim (fun z => hor.elim (fun q => absurd ⟨by rw [← z.1]; exact Int32.not_lt.mp c32, by rw [← z.1, hg9]; exact nI_lt c43 (by omega)⟩ (bd_no q k (by omega))) (fun q => Or.inr (by have := cBe_lt (wf := wf) (nw := nw) (n := g1) (k := k) (by omega) hg9 c43 (by omega); rw [← z.1] at q; omega))) (fun z => Or.inr (Nat.le_trans z (cBe_mono (by omega) (by omega))))
                  exact ih15 (k + 1) g1 (by omega) (by omega) (by omega) hv5_hb1 hv6_hor1 (by omega) _ _ _ hP hD hS hl
                · refine lv_aload_n hx hb dX4_nextGood_46 rfl (lv_at hl 3 rfl) ?_
                  refine gB4_to hx hb hta hown hK hP wd_3_3 dX4_nextGood_47 ?_
                  refine lv_iload hx hb dX4_nextGood_50 (lv_at hl 0 rfl) ?_
                  refine aB_wt hx hb hK hP k rfl (by omega) dX4_nextGood_52 ?_
                  obtain ⟨f9, g9, hf9, hg9, hfg, hg10⟩ := hsp k (by omega)
                  have c43 : g1 < g9 := by rw [hg9] at c43; exact Nat.lt_of_not_le fun z => c43 (nI_le z (by omega))
                  refine zr_top (y := nI g9) hg9 ?_
                  refine lv_istore_n (lv' := [(2, Value.int (nI g9)), (4, Value.int (nI k)), (3, Value.int (nI i)), (0, Value.ref (a 2)), (1, Value.int (nI x0))]) hx hb dX4_nextGood_53 rfl hl (by decide) rfl (fun ls hl => ?_)
                  refine lv_iinc (v := nI (k + 1)) (lv' := [(4, Value.int (nI (k + 1))), (2, Value.int (nI g9)), (3, Value.int (nI i)), (0, Value.ref (a 2)), (1, Value.int (nI x0))]) hx hb dX4_nextGood_54 hl (k := 1) rfl (nI_add k 1) (by decide) rfl (fun ls hl => ?_)
                  refine lv_goto (tgt := 15) hx hb dX4_nextGood_57 (by decide) ?_
                  have hl := lv_sub hl [0, 2, 1, 3, 4] rfl
                  have hv7_hb1 : ∀ x, x0 ≤ x → x < g9 → bdN wf wt nw x = true := by
                    first
                    | exact hb1
                    | exact fun x h1 h2 => (Nat.lt_or_ge x g1).elim (fun z => hb1 x h1 z) (fun z => bd_t (k := k) (by omega) (Int32.le_trans (Int32.not_lt.mp c32) (nI_le z (by omega))) (by rw [hg9]; exact nI_lt h2 (by omega)))
                  have hv8_hor1 : (g9 = g ∧ ∀ j, j < (k + 1) → ¬ (wf j ≤ nI g ∧ nI g < wt j)) ∨ i + 1 ≤ cBe wt nw g9 := by
                    first
                    | exact hor1.elim (fun z => Or.inl ⟨z.1, all_step z.2 (fun q => Int32.not_le.mpr c32 (by rw [z.1]; exact q.1))⟩) (fun z => Or.inr z)
                    | exact hor1.elim (fun z => Or.inl ⟨z.1, all_step z.2 (fun q => Int32.not_lt.mpr c43 (by rw [z.1]; exact q.2))⟩) (fun z => Or.inr z)
                    | exact hor1.elim (fun z => hor.elim (fun q => absurd ⟨by rw [← z.1]; exact Int32.not_lt.mp c32, by rw [← z.1, hg9]; exact nI_lt c43 (by omega)⟩ (bd_no q k (by omega))) (fun q => Or.inr (by have := cBe_lt (wf := wf) (nw := nw) (n := g1) (k := k) (by omega) hg9 c43 (by omega); rw [← z.1] at q; omega))) (fun z => Or.inr (Nat.le_trans z (cBe_mono (by omega) (by omega))))
                  exact ih15 (k + 1) g9 (by omega) (by omega) (by omega) hv7_hb1 hv8_hor1 (by omega) _ _ _ hP hD hS hl
        have eq9_0 : (0 : Int32) = nI 0 := by
          rfl
        have hl := lv_sub hl [0, 1, 2, 3, 4] rfl
        have hl : lv_has ls 5 [(4, Value.int (0 : Int32)), (3, Value.int (nI i)), (2, Value.int (nI g)), (0, Value.ref (a 2)), (1, Value.int (nI x0))] := hl
        have hl : lv_has ls 5 [(4, Value.int (nI 0)), (3, Value.int (nI i)), (2, Value.int (nI g)), (0, Value.ref (a 2)), (1, Value.int (nI x0))] := lv_as hl (congrArg (fun z => [(4, Value.int z), (3, Value.int (nI i)), (2, Value.int (nI g)), (0, Value.ref (a 2)), (1, Value.int (nI x0))]) eq9_0)
        have hv10_hb1 : ∀ x, x0 ≤ x → x < g → bdN wf wt nw x = true := by
          exact hbd
        have hv11_hor1 : (g = g ∧ ∀ j, j < 0 → ¬ (wf j ≤ nI g ∧ nI g < wt j)) ∨ i + 1 ≤ cBe wt nw g := by
          exact Or.inl ⟨rfl, fun j hj => by omega⟩
        exact LP15 (nw - 0 + 1) 0 g (by omega) (by omega) (by omega) hv10_hb1 hv11_hor1 (Nat.lt_succ_self _) _ _ _ hP hD hS hl
  have eq12_0 : (0 : Int32) = nI 0 := by
    rfl
  have hl := lv_sub hl [0, 1, 2, 3] rfl
  have hl : lv_has ls 5 [(3, Value.int (0 : Int32)), (2, Value.int (nI x0)), (0, Value.ref (a 2)), (1, Value.int (nI x0))] := hl
  have hl : lv_has ls 5 [(3, Value.int (nI 0)), (2, Value.int (nI x0)), (0, Value.ref (a 2)), (1, Value.int (nI x0))] := lv_as hl (congrArg (fun z => [(3, Value.int z), (2, Value.int (nI x0)), (0, Value.ref (a 2)), (1, Value.int (nI x0))]) eq12_0)
  have hv13_hbd : ∀ x, x0 ≤ x → x < x0 → bdN wf wt nw x = true := by
    intro x h1 h2; omega
  have hv14_hor : bdN wf wt nw x0 = false ∨ 0 ≤ cBe wt nw x0 := by
    exact Or.inr (Nat.zero_le _)
  exact LP4 (nw - 0 + 1) 0 x0 (by omega) (by omega) (by omega) hv13_hbd hv14_hor (Nat.lt_succ_self _) _ _ _ hP hD hS hl
set_option maxHeartbeats 800000 in
set_option maxRecDepth 100000 in
theorem c_X4_nextStart (l : Launch) (D : va_G) (y : Nat → ClassId) (a : Nat → Nat) (cap clr : Int32) (t : Nat) (hom mov : Int32) (wm : Int64) (tb tf ts : Int32) (nw : Nat) (wf wt : Nat → Int32) (nb : Nat) (bw bl bi bb : Nat → Int32) (no : Nat) (od ow ol ork ob olf oco : Nat → Int32) (pn pb pm : Int32) (pcd pw pli : Nat → Int32) (x0 : Nat) (hw : nw ≤ 6) (hsp : spOk wf wt nw) (hn : x0 ≤ 12000) : zP l D y yX4_nextStart cX4_nextStart 4 (some .int) 0 0 0 0 [Value.ref (a 2), Value.int (nI x0)] (wB a y cap clr (nI t) hom mov wm tb tf ts (nI nw) wf wt (nI nb) bw bl bi bb (nI no) od ow ol ork ob olf oco pn pb pm pcd pw pli) (fun o9 w9 => ∃ (r : Nat), ((r = 1000000 ∨ ∃ k, k < nw ∧ wf k = nI r ∧ x0 < r ∧ r ≤ 10000) ∧ ∀ k, k < nw → nI x0 < wf k → nI r ≤ wf k) ∧ o9 = some (Value.int (nI r)) ∧ w9 = wB a y cap clr (nI t) hom mov wm tb tf ts (nI nw) wf wt (nI nb) bw bl bi bb (nI no) od ow ol ork ob olf oco pn pb pm pcd pw pli) := by
  refine zP.of (by decide +kernel) (Nat.le_of_ble_eq_true rfl) ?_
  intro p e s m args below meth c A ls hx hb hr hta hown hlocks hml hin hN hK hP hD hS hA hl
  refine z_gen (fun G hG => ?_)
  have hl : lv_has ls 4 [(0, Value.ref (a 2)), (1, Value.int (nI x0))] := hl
  refine lv_ldc (v := (1000000 : Int32)) hx hb hown (hta _ wd_27_3) dX4_nextStart_0 ?_
  refine lv_istore_n (lv' := [(2, Value.int (1000000 : Int32)), (0, Value.ref (a 2)), (1, Value.int (nI x0))]) hx hb dX4_nextStart_2 rfl hl (by decide) rfl (fun ls hl => ?_)
  refine lv_iconst (v := (0 : Int32)) hx hb dX4_nextStart_3 (by decide) ?_
  refine lv_istore_n (lv' := [(3, Value.int (0 : Int32)), (2, Value.int (1000000 : Int32)), (0, Value.ref (a 2)), (1, Value.int (nI x0))]) hx hb dX4_nextStart_4 rfl hl (by decide) rfl (fun ls hl => ?_)
  have LP5 : ∀ (n : Nat) (k : Nat) (r : Nat), (k ≤ nw) → (r = 1000000 ∨ ∃ k, k < nw ∧ wf k = nI r ∧ x0 < r ∧ r ≤ 10000) → (r ≤ 1000000) → (∀ j, j < k → nI x0 < wf j → nI r ≤ wf j) → nw - k < n → ∀ (H : Heap) (locs : List Loc) (ls : Array Slot), va_P D vwCl (wB a y cap clr (nI t) hom mov wm tb tf ts (nI nw) wf wt (nI nb) bw bl bi bb (nI no) od ow ol ork ob olf oco pn pb pm pcd pw pli) H → va_D A (wB a y cap clr (nI t) hom mov wm tb tf ts (nI nw) wf wt (nI nb) bw bl bi bb (nI no) od ow ol ork ob olf oco pn pb pm pcd pw pli) → va_S A s.heap H locs → lv_has ls 4 [(3, Value.int (nI k)), (2, Value.int (nI r)), (0, Value.ref (a 2)), (1, Value.int (nI x0))] → W p l e ({ frames := 0, cells := 0, slots := 0, locals := 0 } : Room) s m args below meth c H locs 0 0 G (F0 m 5 ls []) := by
    intro n
    induction n with
    | zero => intro k r hk hrr hrm hal hn; exact absurd hn (Nat.not_lt_zero _)
    | succ n ih5 =>
      intro k r hk hrr hrm hal hn H locs ls hP hD hS hl
      refine lv_iload_n hx hb dX4_nextStart_5 rfl (lv_at hl 0 rfl) ?_
      refine lv_aload_n hx hb dX4_nextStart_6 rfl (lv_at hl 2 rfl) ?_
      refine gB4_count hx hb hta hown hK hP wd_3_4 dX4_nextStart_7 ?_
      refine lv_icmp_ge (tgt := 46) hx hb dX4_nextStart_10 (by decide) (fun c10 => ?_) (fun c10 => ?_)
      · have c10 : nw ≤ k := (nI_leI (a := nw) (b := k) (by omega) (by omega)).mp c10
        refine lv_iload_n hx hb dX4_nextStart_46 rfl (lv_at hl 1 rfl) ?_
        refine z_iret hG hx hb hr hlocks hP hD hS (Nat.le_of_ble_eq_true rfl) (Nat.le_of_ble_eq_true rfl) dX4_nextStart_47 ?_
        exact ⟨r, ⟨hrr, fun j hj => hal j (by omega)⟩, rfl, rfl⟩
      · have c10 : ¬ nw ≤ k := fun z => c10 ((nI_leI (a := nw) (b := k) (by omega) (by omega)).mpr z)
        obtain ⟨f9, g9, hf9, hg9, hfg, hg10⟩ := hsp k (by omega)
        refine lv_aload_n hx hb dX4_nextStart_13 rfl (lv_at hl 2 rfl) ?_
        refine gB4_from hx hb hta hown hK hP wd_3_2 dX4_nextStart_14 ?_
        refine lv_iload_n hx hb dX4_nextStart_17 rfl (lv_at hl 0 rfl) ?_
        refine aB_wf hx hb hK hP k rfl (by omega) dX4_nextStart_18 ?_
        refine lv_iload_n hx hb dX4_nextStart_19 rfl (lv_at hl 3 rfl) ?_
        refine lv_icmp_le (tgt := 40) hx hb dX4_nextStart_20 (by decide) (fun c20 => ?_) (fun c20 => ?_)
        · refine lv_iinc (v := nI (k + 1)) (lv' := [(3, Value.int (nI (k + 1))), (2, Value.int (nI r)), (0, Value.ref (a 2)), (1, Value.int (nI x0))]) hx hb dX4_nextStart_40 hl (k := 0) rfl (nI_add k 1) (by decide) rfl (fun ls hl => ?_)
          refine lv_goto (tgt := 5) hx hb dX4_nextStart_43 (by decide) ?_
          have hl := lv_sub hl [0, 1, 2, 3] rfl
          have hv1_hrr : r = 1000000 ∨ ∃ k, k < nw ∧ wf k = nI r ∧ x0 < r ∧ r ≤ 10000 := by
            first
            | exact hrr
            | exact Or.inr ⟨k, by omega, hf9, by rw [hf9] at c20; exact (nI_ltI (by omega) (by omega)).mp (Int32.not_le.mp c20), by omega⟩
          have hv2_hal : ∀ j, j < (k + 1) → nI x0 < wf j → nI r ≤ wf j := by
            first
            | exact all_step hal (fun z => absurd z (Int32.not_lt.mpr c20))
            | exact all_step hal (fun _ => c30)
            | exact all_step (fun j hj hz => Int32.le_trans (by rw [← hf9]; first | exact Int32.le_of_lt c30 | exact Int32.le_of_lt (Int32.not_le.mp c30)) (hal j hj hz)) (fun _ => by rw [hf9]; exact Int32.le_refl _)
          exact ih5 (k + 1) r (by omega) hv1_hrr (by omega) hv2_hal (by omega) _ _ _ hP hD hS hl
        · refine lv_aload_n hx hb dX4_nextStart_23 rfl (lv_at hl 2 rfl) ?_
          refine gB4_from hx hb hta hown hK hP wd_3_2 dX4_nextStart_24 ?_
          refine lv_iload_n hx hb dX4_nextStart_27 rfl (lv_at hl 0 rfl) ?_
          refine aB_wf hx hb hK hP k rfl (by omega) dX4_nextStart_28 ?_
          refine lv_iload_n hx hb dX4_nextStart_29 rfl (lv_at hl 1 rfl) ?_
          refine lv_icmp_ge (tgt := 40) hx hb dX4_nextStart_30 (by decide) (fun c30 => ?_) (fun c30 => ?_)
          · refine lv_iinc (v := nI (k + 1)) (lv' := [(3, Value.int (nI (k + 1))), (2, Value.int (nI r)), (0, Value.ref (a 2)), (1, Value.int (nI x0))]) hx hb dX4_nextStart_40 hl (k := 0) rfl (nI_add k 1) (by decide) rfl (fun ls hl => ?_)
            refine lv_goto (tgt := 5) hx hb dX4_nextStart_43 (by decide) ?_
            have hl := lv_sub hl [0, 1, 2, 3] rfl
            have hv3_hrr : r = 1000000 ∨ ∃ k, k < nw ∧ wf k = nI r ∧ x0 < r ∧ r ≤ 10000 := by
              first
              | exact hrr
              | exact Or.inr ⟨k, by omega, hf9, by rw [hf9] at c20; exact (nI_ltI (by omega) (by omega)).mp (Int32.not_le.mp c20), by omega⟩
            have hv4_hal : ∀ j, j < (k + 1) → nI x0 < wf j → nI r ≤ wf j := by
              first
              | exact all_step hal (fun z => absurd z (Int32.not_lt.mpr c20))
              | exact all_step hal (fun _ => c30)
              | exact all_step (fun j hj hz => Int32.le_trans (by rw [← hf9]; first | exact Int32.le_of_lt c30 | exact Int32.le_of_lt (Int32.not_le.mp c30)) (hal j hj hz)) (fun _ => by rw [hf9]; exact Int32.le_refl _)
            exact ih5 (k + 1) r (by omega) hv3_hrr (by omega) hv4_hal (by omega) _ _ _ hP hD hS hl
          · refine lv_aload_n hx hb dX4_nextStart_33 rfl (lv_at hl 2 rfl) ?_
            refine gB4_from hx hb hta hown hK hP wd_3_2 dX4_nextStart_34 ?_
            refine lv_iload_n hx hb dX4_nextStart_37 rfl (lv_at hl 0 rfl) ?_
            refine aB_wf hx hb hK hP k rfl (by omega) dX4_nextStart_38 ?_
            refine zr_top (y := nI f9) hf9 ?_
            refine lv_istore_n (lv' := [(2, Value.int (nI f9)), (3, Value.int (nI k)), (0, Value.ref (a 2)), (1, Value.int (nI x0))]) hx hb dX4_nextStart_39 rfl hl (by decide) rfl (fun ls hl => ?_)
            refine lv_iinc (v := nI (k + 1)) (lv' := [(3, Value.int (nI (k + 1))), (2, Value.int (nI f9)), (0, Value.ref (a 2)), (1, Value.int (nI x0))]) hx hb dX4_nextStart_40 hl (k := 1) rfl (nI_add k 1) (by decide) rfl (fun ls hl => ?_)
            refine lv_goto (tgt := 5) hx hb dX4_nextStart_43 (by decide) ?_
            have hl := lv_sub hl [0, 1, 2, 3] rfl
            have hv5_hrr : f9 = 1000000 ∨ ∃ k, k < nw ∧ wf k = nI f9 ∧ x0 < f9 ∧ f9 ≤ 10000 := by
              first
              | exact hrr
              | exact Or.inr ⟨k, by omega, hf9, by rw [hf9] at c20; exact (nI_ltI (by omega) (by omega)).mp (Int32.not_le.mp c20), by omega⟩
            have hv6_hal : ∀ j, j < (k + 1) → nI x0 < wf j → nI f9 ≤ wf j := by
              first
              | exact all_step hal (fun z => absurd z (Int32.not_lt.mpr c20))
              | exact all_step hal (fun _ => c30)
              | exact all_step (fun j hj hz => Int32.le_trans (by rw [← hf9]; first | exact Int32.le_of_lt c30 | exact Int32.le_of_lt (Int32.not_le.mp c30)) (hal j hj hz)) (fun _ => by rw [hf9]; exact Int32.le_refl _)
            exact ih5 (k + 1) f9 (by omega) hv5_hrr (by omega) hv6_hal (by omega) _ _ _ hP hD hS hl
  have eq7_0 : (0 : Int32) = nI 0 := by
    rfl
  have eq8_1 : (1000000 : Int32) = nI 1000000 := by
    rfl
  have hl := lv_sub hl [0, 1, 2, 3] rfl
  have hl : lv_has ls 4 [(3, Value.int (0 : Int32)), (2, Value.int (1000000 : Int32)), (0, Value.ref (a 2)), (1, Value.int (nI x0))] := hl
  have hl : lv_has ls 4 [(3, Value.int (nI 0)), (2, Value.int (1000000 : Int32)), (0, Value.ref (a 2)), (1, Value.int (nI x0))] := lv_as hl (congrArg (fun z => [(3, Value.int z), (2, Value.int (1000000 : Int32)), (0, Value.ref (a 2)), (1, Value.int (nI x0))]) eq7_0)
  have hl : lv_has ls 4 [(3, Value.int (nI 0)), (2, Value.int (nI 1000000)), (0, Value.ref (a 2)), (1, Value.int (nI x0))] := lv_as hl (congrArg (fun z => [(3, Value.int (nI 0)), (2, Value.int z), (0, Value.ref (a 2)), (1, Value.int (nI x0))]) eq8_1)
  have hv9_hrr : 1000000 = 1000000 ∨ ∃ k, k < nw ∧ wf k = nI 1000000 ∧ x0 < 1000000 ∧ 1000000 ≤ 10000 := by
    exact Or.inl rfl
  have hv10_hal : ∀ j, j < 0 → nI x0 < wf j → nI 1000000 ≤ wf j := by
    intro j hj; omega
  exact LP5 (nw - 0 + 1) 0 1000000 (by omega) hv9_hrr (by omega) hv10_hal (Nat.lt_succ_self _) _ _ _ hP hD hS hl
set_option maxHeartbeats 800000 in
set_option maxRecDepth 100000 in
theorem c_X4_dryBySpans (l : Launch) (D : va_G) (y : Nat → ClassId) (a : Nat → Nat) (cap clr : Int32) (t : Nat) (hom mov : Int32) (wm : Int64) (tb tf ts : Int32) (nw : Nat) (wf wt : Nat → Int32) (nb : Nat) (bw bl bi bb : Nat → Int32) (no : Nat) (od ow ol ork ob olf oco : Nat → Int32) (pn pb pm : Int32) (pcd pw pli : Nat → Int32) (h0 : Nat) (L : Nat) (hw : nw ≤ 6) (hsp : spOk wf wt nw) (ht : h0 ≤ 9999) (hL : L ≤ 48) : zP l D y yX4_dryBySpans cX4_dryBySpans 7 (some .int) 1 0 0 40 [Value.ref (a 2), Value.int (nI h0), Value.int (nI L)] (wB a y cap clr (nI t) hom mov wm tb tf ts (nI nw) wf wt (nI nb) bw bl bi bb (nI no) od ow ol ork ob olf oco pn pb pm pcd pw pli) (fun o9 w9 => o9 = some (Value.int (nI (dryG (bdN wf wt nw) (10000 + L - h0) L h0))) ∧ w9 = wB a y cap clr (nI t) hom mov wm tb tf ts (nI nw) wf wt (nI nb) bw bl bi bb (nI no) od ow ol ork ob olf oco pn pb pm pcd pw pli) := by
  refine zP.of (by decide +kernel) (Nat.le_of_ble_eq_true rfl) ?_
  intro p e s m args below meth c A ls hx hb hr hta hown hlocks hml hin hN hK hP hD hS hA hl
  refine z_gen (fun G hG => ?_)
  have hl : lv_has ls 7 [(0, Value.ref (a 2)), (1, Value.int (nI h0)), (2, Value.int (nI L))] := hl
  refine lv_iload_n hx hb dX4_dryBySpans_0 rfl (lv_at hl 1 rfl) ?_
  refine lv_istore_n (lv' := [(3, Value.int (nI h0)), (0, Value.ref (a 2)), (1, Value.int (nI h0)), (2, Value.int (nI L))]) hx hb dX4_dryBySpans_1 rfl hl (by decide) rfl (fun ls hl => ?_)
  refine lv_iload_n hx hb dX4_dryBySpans_2 rfl (lv_at hl 3 rfl) ?_
  refine lv_istore (lv' := [(4, Value.int (nI L)), (3, Value.int (nI h0)), (0, Value.ref (a 2)), (1, Value.int (nI h0)), (2, Value.int (nI L))]) hx hb dX4_dryBySpans_3 hl (by decide) rfl (fun ls hl => ?_)
  refine lv_iconst (v := (0 : Int32)) hx hb dX4_dryBySpans_5 (by decide) ?_
  refine lv_istore (lv' := [(5, Value.int (0 : Int32)), (4, Value.int (nI L)), (3, Value.int (nI h0)), (0, Value.ref (a 2)), (1, Value.int (nI h0)), (2, Value.int (nI L))]) hx hb dX4_dryBySpans_6 hl (by decide) rfl (fun ls hl => ?_)
  have LP8 : ∀ (n : Nat) (s9 : Nat) (x1 : Nat) (r : Nat), (s9 ≤ 7) → (x1 + r ≤ 10000 + L) → (r ≤ L) → (dryG (bdN wf wt nw) (10000 + L - x1) r x1 = dryG (bdN wf wt nw) (10000 + L - h0) L h0) → (r = 0 ∨ s9 + cAf wf nw x1 ≤ nw) → 7 - s9 < n → ∀ (H : Heap) (locs : List Loc) (ls : Array Slot), va_P D vwCl (wB a y cap clr (nI t) hom mov wm tb tf ts (nI nw) wf wt (nI nb) bw bl bi bb (nI no) od ow ol ork ob olf oco pn pb pm pcd pw pli) H → va_D A (wB a y cap clr (nI t) hom mov wm tb tf ts (nI nw) wf wt (nI nb) bw bl bi bb (nI no) od ow ol ork ob olf oco pn pb pm pcd pw pli) → va_S A s.heap H locs → lv_has ls 7 [(5, Value.int (nI s9)), (4, Value.int (nI r)), (3, Value.int (nI x1)), (0, Value.ref (a 2)), (1, Value.int (nI h0)), (2, Value.int (nI L))] → W p l e ({ frames := 1, cells := 0, slots := 0, locals := 40 } : Room) s m args below meth c H locs 0 0 G (F0 m 8 ls []) := by
    intro n
    induction n with
    | zero => intro s9 x1 r hs hnr hrL hd hc hn; exact absurd hn (Nat.not_lt_zero _)
    | succ n ih8 =>
      intro s9 x1 r hs hnr hrL hd hc hn H locs ls hP hD hS hl
      refine lv_iload hx hb dX4_dryBySpans_8 (lv_at hl 0 rfl) ?_
      refine lv_bipush (v := (6 : Int32)) hx hb dX4_dryBySpans_10 (by decide) ?_
      refine lv_icmp_gt (tgt := 58) hx hb dX4_dryBySpans_12 (by decide) (fun c12 => ?_) (fun c12 => ?_)
      · have c12 : 6 < s9 := (nI_ltI (a := 6) (b := s9) (by omega) (by omega)).mp c12
        refine lv_iload_n hx hb dX4_dryBySpans_58 rfl (lv_at hl 2 rfl) ?_
        refine z_iret hG hx hb hr hlocks hP hD hS (Nat.le_of_ble_eq_true rfl) (Nat.le_of_ble_eq_true rfl) dX4_dryBySpans_59 ?_
        refine zqi ?_
        have hr0 : r = 0 := by omega
        subst hr0
        rw [← hd, dryG_0]
      · have c12 : ¬ 6 < s9 := fun z => c12 ((nI_ltI (a := 6) (b := s9) (by omega) (by omega)).mpr z)
        refine lv_iload hx hb dX4_dryBySpans_15 (lv_at hl 1 rfl) ?_
        refine lv_if_le (tgt := 58) hx hb dX4_dryBySpans_17 (by decide) (fun c17 => ?_) (fun c17 => ?_)
        · have c17 : r ≤ 0 := (nI_leI (a := r) (b := 0) (by omega) (by omega)).mp c17
          refine lv_iload_n hx hb dX4_dryBySpans_58 rfl (lv_at hl 2 rfl) ?_
          refine z_iret hG hx hb hr hlocks hP hD hS (Nat.le_of_ble_eq_true rfl) (Nat.le_of_ble_eq_true rfl) dX4_dryBySpans_59 ?_
          refine zqi ?_
          have hr0 : r = 0 := by omega
          subst hr0
          rw [← hd, dryG_0]
        · have c17 : ¬ r ≤ 0 := fun z => c17 ((nI_leI (a := r) (b := 0) (by omega) (by omega)).mpr z)
          refine lv_aload_n hx hb dX4_dryBySpans_20 rfl (lv_at hl 3 rfl) ?_
          refine lv_iload_n hx hb dX4_dryBySpans_21 rfl (lv_at hl 2 rfl) ?_
          refine z_callV (As := [Value.int (nI x1)]) (rest := []) hx hb hml hown hta zm_X4_nextGood wd_26_19 (c_X4_nextGood l D y a cap clr t hom mov wm tb tf ts nw wf wt nb bw bl bi bb no od ow ol ork ob olf oco pn pb pm pcd pw pli x1 (by omega) (by omega) (by omega)) hN hK hP hD hS hA 2 rfl rfl rfl hl rfl (Nat.le_of_ble_eq_true rfl) ⟨Nat.le_of_ble_eq_true rfl, Nat.le_of_ble_eq_true rfl⟩ ⟨Nat.le_of_ble_eq_true rfl, Nat.le_of_ble_eq_true rfl⟩ dX4_dryBySpans_22 (fun v w' H locs hq hP hD hS => ?_)
          obtain ⟨g_1, hq1, rfl, rfl⟩ := hq
          obtain ⟨hg1, hg2, hg3, hg4⟩ := hq1
          refine lv_istore_n (lv' := [(3, Value.int (nI g_1)), (5, Value.int (nI s9)), (4, Value.int (nI r)), (0, Value.ref (a 2)), (1, Value.int (nI h0)), (2, Value.int (nI L))]) hx hb dX4_dryBySpans_25 rfl hl (by decide) rfl (fun ls hl => ?_)
          refine lv_iload hx hb dX4_dryBySpans_26 (lv_at hl 2 rfl) ?_
          refine lv_aload_n hx hb dX4_dryBySpans_28 rfl (lv_at hl 3 rfl) ?_
          refine lv_iload_n hx hb dX4_dryBySpans_29 rfl (lv_at hl 0 rfl) ?_
          refine z_callV (As := [Value.int (nI g_1)]) (rest := [Value.int (nI r)]) hx hb hml hown hta zm_X4_nextStart wd_26_23 (c_X4_nextStart l D y a cap clr t hom mov wm tb tf ts nw wf wt nb bw bl bi bb no od ow ol ork ob olf oco pn pb pm pcd pw pli g_1 (by omega) (by omega) (by omega)) hN hK hP hD hS hA 2 rfl rfl rfl hl rfl (Nat.le_of_ble_eq_true rfl) ⟨Nat.le_of_ble_eq_true rfl, Nat.le_of_ble_eq_true rfl⟩ ⟨Nat.le_of_ble_eq_true rfl, Nat.le_of_ble_eq_true rfl⟩ dX4_dryBySpans_30 (fun v w' H locs hq hP hD hS => ?_)
          obtain ⟨r_2, hq2, rfl, rfl⟩ := hq
          refine lv_iload_n hx hb dX4_dryBySpans_33 rfl (lv_at hl 0 rfl) ?_
          obtain ⟨hr1, hr2⟩ := hq2
          obtain ⟨hrm, hcf⟩ : (g_1 < r_2 ∧ r_2 ≤ 1000000) ∧ (r_2 = 1000000 ∨ cAf wf nw r_2 + 1 ≤ cAf wf nw g_1) := by
            rcases hr1 with z | ⟨k, hk, ek, hz, hz2⟩
            · exact ⟨by omega, Or.inl z⟩
            · exact ⟨by omega, Or.inr (cAf_lt hk ek hz (by omega))⟩
          clear hr1
          refine lv_isub hx hb dX4_dryBySpans_34 ?_
          refine zr_top (y := nI (r_2 - g_1)) (pk_sub (by omega)) ?_
          refine zr_min hx hb hta hl hml hown wd_26_16 dX4_dryBySpans_35 (Nat.le_of_ble_eq_true rfl) (Nat.le_of_ble_eq_true rfl) (Nat.le_of_ble_eq_true rfl) (Nat.le_of_ble_eq_true rfl) ?_
          obtain ⟨m9, em9, hm9⟩ := mn_ex r (r_2 - g_1)
          refine zr_top (y := nI m9) (by rw [em9]; exact mn_nI (by omega) (by omega)) ?_
          clear em9
          refine lv_istore (lv' := [(6, Value.int (nI m9)), (3, Value.int (nI g_1)), (5, Value.int (nI s9)), (4, Value.int (nI r)), (0, Value.ref (a 2)), (1, Value.int (nI h0)), (2, Value.int (nI L))]) hx hb dX4_dryBySpans_38 hl (by decide) rfl (fun ls hl => ?_)
          refine lv_iload_n hx hb dX4_dryBySpans_40 rfl (lv_at hl 1 rfl) ?_
          refine lv_iload hx hb dX4_dryBySpans_41 (lv_at hl 0 rfl) ?_
          refine lv_iadd hx hb dX4_dryBySpans_43 ?_
          refine zr_top (y := nI (g_1 + m9)) (nI_add g_1 m9) ?_
          refine lv_istore_n (lv' := [(3, Value.int (nI (g_1 + m9))), (6, Value.int (nI m9)), (5, Value.int (nI s9)), (4, Value.int (nI r)), (0, Value.ref (a 2)), (1, Value.int (nI h0)), (2, Value.int (nI L))]) hx hb dX4_dryBySpans_44 rfl hl (by decide) rfl (fun ls hl => ?_)
          refine lv_iload hx hb dX4_dryBySpans_45 (lv_at hl 3 rfl) ?_
          refine lv_iload hx hb dX4_dryBySpans_47 (lv_at hl 1 rfl) ?_
          refine lv_isub hx hb dX4_dryBySpans_49 ?_
          refine zr_top (y := nI (r - m9)) (pk_sub (by omega)) ?_
          refine lv_istore (lv' := [(4, Value.int (nI (r - m9))), (3, Value.int (nI (g_1 + m9))), (6, Value.int (nI m9)), (5, Value.int (nI s9)), (0, Value.ref (a 2)), (1, Value.int (nI h0)), (2, Value.int (nI L))]) hx hb dX4_dryBySpans_50 hl (by decide) rfl (fun ls hl => ?_)
          refine lv_iinc (v := nI (s9 + 1)) (lv' := [(5, Value.int (nI (s9 + 1))), (4, Value.int (nI (r - m9))), (3, Value.int (nI (g_1 + m9))), (6, Value.int (nI m9)), (0, Value.ref (a 2)), (1, Value.int (nI h0)), (2, Value.int (nI L))]) hx hb dX4_dryBySpans_52 hl (k := 3) rfl (nI_add s9 1) (by decide) rfl (fun ls hl => ?_)
          refine lv_goto (tgt := 8) hx hb dX4_dryBySpans_55 (by decide) ?_
          have hl := lv_sub hl [0, 1, 2, 4, 5, 6] rfl
          have hv3_hd : dryG (bdN wf wt nw) (10000 + L - (g_1 + m9)) (r - m9) (g_1 + m9) = dryG (bdN wf wt nw) (10000 + L - h0) L h0 := by
            rw [dr_stretch hg1 hg2 hg3 hg4 (by omega) hm9.1 hm9.2.1 hr2 hnr hrL hL hrm.2]; exact hd
          have hv4_hc : (r - m9) = 0 ∨ (s9 + 1) + cAf wf nw (g_1 + m9) ≤ nw := by
            have h6 := cAf_mono (wf := wf) (nw := nw) hg1 (by omega)
            rcases hm9.2.2 with z | z
            · exact Or.inl (by omega)
            · rcases hcf with z1 | z1
              · omega
              · refine Or.inr ?_
                rw [show g_1 + m9 = r_2 by omega]
                omega
          exact ih8 (s9 + 1) (g_1 + m9) (r - m9) (by omega) (by omega) (by omega) hv3_hd hv4_hc (by omega) _ _ _ hP hD hS hl
  have eq5_0 : (0 : Int32) = nI 0 := by
    rfl
  have hl := lv_sub hl [0, 1, 2, 3, 4, 5] rfl
  have hl : lv_has ls 7 [(5, Value.int (0 : Int32)), (4, Value.int (nI L)), (3, Value.int (nI h0)), (0, Value.ref (a 2)), (1, Value.int (nI h0)), (2, Value.int (nI L))] := hl
  have hl : lv_has ls 7 [(5, Value.int (nI 0)), (4, Value.int (nI L)), (3, Value.int (nI h0)), (0, Value.ref (a 2)), (1, Value.int (nI h0)), (2, Value.int (nI L))] := lv_as hl (congrArg (fun z => [(5, Value.int z), (4, Value.int (nI L)), (3, Value.int (nI h0)), (0, Value.ref (a 2)), (1, Value.int (nI h0)), (2, Value.int (nI L))]) eq5_0)
  have hv6_hd : dryG (bdN wf wt nw) (10000 + L - h0) L h0 = dryG (bdN wf wt nw) (10000 + L - h0) L h0 := by
    rfl
  have hv7_hc : L = 0 ∨ 0 + cAf wf nw h0 ≤ nw := by
    have := cAf_le wf nw h0; omega
  exact LP8 (7 - 0 + 1) 0 h0 L (by omega) (by omega) (by omega) hv6_hd hv7_hc (Nat.lt_succ_self _) _ _ _ hP hD hS hl
set_option maxHeartbeats 800000 in
set_option maxRecDepth 100000 in
theorem c_X4_dryHourByHour (l : Launch) (D : va_G) (y : Nat → ClassId) (a : Nat → Nat) (cap clr : Int32) (t : Nat) (hom mov : Int32) (wm : Int64) (tb tf ts : Int32) (nw : Nat) (wf wt : Nat → Int32) (nb : Nat) (bw bl bi bb : Nat → Int32) (no : Nat) (od ow ol ork ob olf oco : Nat → Int32) (pn pb pm : Int32) (pcd pw pli : Nat → Int32) (h0 : Nat) (L : Nat) (hw : nw ≤ 6) (hsp : spOk wf wt nw) (ht : h0 ≤ 9999) (hL : L ≤ 48) : zP l D y yX4_dryHourByHour cX4_dryHourByHour 6 (some .int) 1 0 0 22 [Value.ref (a 2), Value.int (nI h0), Value.int (nI L)] (wB a y cap clr (nI t) hom mov wm tb tf ts (nI nw) wf wt (nI nb) bw bl bi bb (nI no) od ow ol ork ob olf oco pn pb pm pcd pw pli) (fun o9 w9 => o9 = some (Value.int (nI (dryG (bdN wf wt nw) (10000 + L - h0) L h0))) ∧ w9 = wB a y cap clr (nI t) hom mov wm tb tf ts (nI nw) wf wt (nI nb) bw bl bi bb (nI no) od ow ol ork ob olf oco pn pb pm pcd pw pli) := by
  refine zP.of (by decide +kernel) (Nat.le_of_ble_eq_true rfl) ?_
  intro p e s m args below meth c A ls hx hb hr hta hown hlocks hml hin hN hK hP hD hS hA hl
  refine z_gen (fun G hG => ?_)
  have hl : lv_has ls 6 [(0, Value.ref (a 2)), (1, Value.int (nI h0)), (2, Value.int (nI L))] := hl
  refine lv_iload_n hx hb dX4_dryHourByHour_0 rfl (lv_at hl 1 rfl) ?_
  refine lv_istore_n (lv' := [(3, Value.int (nI h0)), (0, Value.ref (a 2)), (1, Value.int (nI h0)), (2, Value.int (nI L))]) hx hb dX4_dryHourByHour_1 rfl hl (by decide) rfl (fun ls hl => ?_)
  refine lv_iload_n hx hb dX4_dryHourByHour_2 rfl (lv_at hl 3 rfl) ?_
  refine lv_istore (lv' := [(4, Value.int (nI L)), (3, Value.int (nI h0)), (0, Value.ref (a 2)), (1, Value.int (nI h0)), (2, Value.int (nI L))]) hx hb dX4_dryHourByHour_3 hl (by decide) rfl (fun ls hl => ?_)
  refine lv_sipush (v := (10000 : Int32)) hx hb dX4_dryHourByHour_5 (by decide) ?_
  refine lv_iload_n hx hb dX4_dryHourByHour_8 rfl (lv_at hl 4 rfl) ?_
  refine lv_iadd hx hb dX4_dryHourByHour_9 ?_
  refine zr_top (y := nI (10000 + L)) (nI_add 10000 L) ?_
  refine lv_istore (lv' := [(5, Value.int (nI (10000 + L))), (4, Value.int (nI L)), (3, Value.int (nI h0)), (0, Value.ref (a 2)), (1, Value.int (nI h0)), (2, Value.int (nI L))]) hx hb dX4_dryHourByHour_10 hl (by decide) rfl (fun ls hl => ?_)
  have LP12 : ∀ (n : Nat) (x1 : Nat) (r : Nat), (x1 + r ≤ 10000 + L) → (r ≤ L) → (dryG (bdN wf wt nw) (10000 + L - x1) r x1 = dryG (bdN wf wt nw) (10000 + L - h0) L h0) → 10000 + L - x1 < n → ∀ (H : Heap) (locs : List Loc) (ls : Array Slot), va_P D vwCl (wB a y cap clr (nI t) hom mov wm tb tf ts (nI nw) wf wt (nI nb) bw bl bi bb (nI no) od ow ol ork ob olf oco pn pb pm pcd pw pli) H → va_D A (wB a y cap clr (nI t) hom mov wm tb tf ts (nI nw) wf wt (nI nb) bw bl bi bb (nI no) od ow ol ork ob olf oco pn pb pm pcd pw pli) → va_S A s.heap H locs → lv_has ls 6 [(5, Value.int (nI (10000 + L))), (4, Value.int (nI r)), (3, Value.int (nI x1)), (0, Value.ref (a 2)), (1, Value.int (nI h0)), (2, Value.int (nI L))] → W p l e ({ frames := 1, cells := 0, slots := 0, locals := 22 } : Room) s m args below meth c H locs 0 0 G (F0 m 12 ls []) := by
    intro n
    induction n with
    | zero => intro x1 r hnr hrL hd hn; exact absurd hn (Nat.not_lt_zero _)
    | succ n ih12 =>
      intro x1 r hnr hrL hd hn H locs ls hP hD hS hl
      refine lv_iload hx hb dX4_dryHourByHour_12 (lv_at hl 1 rfl) ?_
      refine lv_if_le (tgt := 40) hx hb dX4_dryHourByHour_14 (by decide) (fun c14 => ?_) (fun c14 => ?_)
      · have c14 : r ≤ 0 := (nI_leI (a := r) (b := 0) (by omega) (by omega)).mp c14
        refine lv_iload_n hx hb dX4_dryHourByHour_40 rfl (lv_at hl 2 rfl) ?_
        refine z_iret hG hx hb hr hlocks hP hD hS (Nat.le_of_ble_eq_true rfl) (Nat.le_of_ble_eq_true rfl) dX4_dryHourByHour_41 ?_
        refine zqi ?_
        have hr0 : r = 0 := by omega
        subst hr0
        rw [← hd, dryG_0]
      · have c14 : ¬ r ≤ 0 := fun z => c14 ((nI_leI (a := r) (b := 0) (by omega) (by omega)).mpr z)
        refine lv_iload_n hx hb dX4_dryHourByHour_17 rfl (lv_at hl 2 rfl) ?_
        refine lv_iload hx hb dX4_dryHourByHour_18 (lv_at hl 0 rfl) ?_
        refine lv_icmp_ge (tgt := 40) hx hb dX4_dryHourByHour_20 (by decide) (fun c20 => ?_) (fun c20 => ?_)
        · have c20 : (10000 + L) ≤ x1 := (nI_leI (a := (10000 + L)) (b := x1) (by omega) (by omega)).mp c20
          refine lv_iload_n hx hb dX4_dryHourByHour_40 rfl (lv_at hl 2 rfl) ?_
          refine z_iret hG hx hb hr hlocks hP hD hS (Nat.le_of_ble_eq_true rfl) (Nat.le_of_ble_eq_true rfl) dX4_dryHourByHour_41 ?_
          refine zqi ?_
          have hr0 : r = 0 := by omega
          subst hr0
          rw [← hd, dryG_0]
        · have c20 : ¬ (10000 + L) ≤ x1 := fun z => c20 ((nI_leI (a := (10000 + L)) (b := x1) (by omega) (by omega)).mpr z)
          refine lv_aload_n hx hb dX4_dryHourByHour_23 rfl (lv_at hl 3 rfl) ?_
          refine lv_iload_n hx hb dX4_dryHourByHour_24 rfl (lv_at hl 2 rfl) ?_
          refine z_callV (As := [Value.int (nI x1)]) (rest := []) hx hb hml hown hta zm_X4_badAt wd_27_23 (c_X4_badAt l D y a cap clr t hom mov wm tb tf ts nw wf wt nb bw bl bi bb no od ow ol ork ob olf oco pn pb pm pcd pw pli (nI x1) (by omega)) hN hK hP hD hS hA 2 rfl rfl rfl hl rfl (Nat.le_of_ble_eq_true rfl) ⟨Nat.le_of_ble_eq_true rfl, Nat.le_of_ble_eq_true rfl⟩ ⟨Nat.le_of_ble_eq_true rfl, Nat.le_of_ble_eq_true rfl⟩ dX4_dryHourByHour_25 (fun v w' H locs hq hP hD hS => ?_)
          obtain ⟨rfl, rfl⟩ := hq
          refine lv_if_ne (tgt := 34) hx hb dX4_dryHourByHour_28 (by decide) (fun c28 => ?_) (fun c28 => ?_)
          · have c28 := bI_1 c28
            refine lv_iinc (v := nI (x1 + 1)) (lv' := [(3, Value.int (nI (x1 + 1))), (5, Value.int (nI (10000 + L))), (4, Value.int (nI r)), (0, Value.ref (a 2)), (1, Value.int (nI h0)), (2, Value.int (nI L))]) hx hb dX4_dryHourByHour_34 hl (k := 2) rfl (nI_add x1 1) (by decide) rfl (fun ls hl => ?_)
            refine lv_goto (tgt := 12) hx hb dX4_dryHourByHour_37 (by decide) ?_
            have hl := lv_sub hl [1, 2, 0, 3, 4, 5] rfl
            have hv2_hnr : (x1 + 1) + r ≤ 10000 + L := by
              first
              | omega
              | (rcases Nat.lt_or_ge x1 10000 with z | z
                 · omega
                 · exact absurd c28 (by have := bd_hi hsp z (by omega); intro q; rw [show badF wf wt nw (nI x1) = false from this] at q; cases q))
            have hv3_hd : dryG (bdN wf wt nw) (10000 + L - (x1 + 1)) r (x1 + 1) = dryG (bdN wf wt nw) (10000 + L - h0) L h0 := by
              rw [← hd, dr_one (bad := bdN wf wt nw) (F := 10000 + L - x1) (L := r) (h := x1) (by omega) (by omega), Nat.sub_sub]
              first
              | rw [if_pos (show bdN wf wt nw x1 = true from c28)]
              | rw [if_neg (show ¬ bdN wf wt nw x1 = true from fun q => by rw [show bdN wf wt nw x1 = false from c28] at q; cases q)]
            exact ih12 (x1 + 1) r hv2_hnr (by omega) hv3_hd (by omega) _ _ _ hP hD hS hl
          · have c28 := bI_0 c28
            refine lv_iinc (v := nI (r - 1)) (lv' := [(4, Value.int (nI (r - 1))), (5, Value.int (nI (10000 + L))), (3, Value.int (nI x1)), (0, Value.ref (a 2)), (1, Value.int (nI h0)), (2, Value.int (nI L))]) hx hb dX4_dryHourByHour_31 hl (k := 1) rfl (nI_dec (by omega)) (by decide) rfl (fun ls hl => ?_)
            refine lv_iinc (v := nI (x1 + 1)) (lv' := [(3, Value.int (nI (x1 + 1))), (4, Value.int (nI (r - 1))), (5, Value.int (nI (10000 + L))), (0, Value.ref (a 2)), (1, Value.int (nI h0)), (2, Value.int (nI L))]) hx hb dX4_dryHourByHour_34 hl (k := 2) rfl (nI_add x1 1) (by decide) rfl (fun ls hl => ?_)
            refine lv_goto (tgt := 12) hx hb dX4_dryHourByHour_37 (by decide) ?_
            have hl := lv_sub hl [2, 1, 0, 3, 4, 5] rfl
            have hv4_hnr : (x1 + 1) + (r - 1) ≤ 10000 + L := by
              first
              | omega
              | (rcases Nat.lt_or_ge x1 10000 with z | z
                 · omega
                 · exact absurd c28 (by have := bd_hi hsp z (by omega); intro q; rw [show badF wf wt nw (nI x1) = false from this] at q; cases q))
            have hv5_hd : dryG (bdN wf wt nw) (10000 + L - (x1 + 1)) (r - 1) (x1 + 1) = dryG (bdN wf wt nw) (10000 + L - h0) L h0 := by
              rw [← hd, dr_one (bad := bdN wf wt nw) (F := 10000 + L - x1) (L := r) (h := x1) (by omega) (by omega), Nat.sub_sub]
              first
              | rw [if_pos (show bdN wf wt nw x1 = true from c28)]
              | rw [if_neg (show ¬ bdN wf wt nw x1 = true from fun q => by rw [show bdN wf wt nw x1 = false from c28] at q; cases q)]
            exact ih12 (x1 + 1) (r - 1) hv4_hnr (by omega) hv5_hd (by omega) _ _ _ hP hD hS hl
  have hl := lv_sub hl [0, 1, 2, 3, 4, 5] rfl
  have hv6_hd : dryG (bdN wf wt nw) (10000 + L - h0) L h0 = dryG (bdN wf wt nw) (10000 + L - h0) L h0 := by
    rfl
  exact LP12 (10000 + L - h0 + 1) h0 L (by omega) (by omega) hv6_hd (Nat.lt_succ_self _) _ _ _ hP hD hS hl
set_option maxHeartbeats 800000 in
set_option maxRecDepth 100000 in
theorem c_X5_dryAt (l : Launch) (hlt : l.stackTraces = false) (D : va_G) (y : Nat → ClassId) (a : Nat → Nat) (cap clr : Int32) (t : Nat) (hom mov : Int32) (wm : Int64) (tb tf ts : Int32) (nw : Nat) (wf wt : Nat → Int32) (nb : Nat) (bw bl bi bb : Nat → Int32) (no : Nat) (od ow ol ork ob olf oco : Nat → Int32) (pn pb pm : Int32) (pcd pw pli : Nat → Int32) (b : Int32) (hb8 : no ≤ 8) (hw : nw ≤ 6) (hsp : spOk wf wt nw) (ht : t ≤ 9999) (hol : ∀ j, j < 8 → ∃ L, L ≤ 48 ∧ olf j = nI L) : zX l D y yX5_dryAt cX5_dryAt 2 (some .int) 8 2 12 116 [Value.ref (a 0), Value.int b] (wB a y cap clr (nI t) hom mov wm tb tf ts (nI nw) wf wt (nI nb) bw bl bi bb (nI no) od ow ol ork ob olf oco pn pb pm pcd pw pli) (fun o9 w9 => (boC no b = 0) ∧ o9 = some (Value.int (nI (dryV wf wt nw t (olf (nN b))))) ∧ w9 = wB a y cap clr (nI t) hom mov wm tb tf ts (nI nw) wf wt (nI nb) bw bl bi bb (nI no) od ow ol ork ob olf oco pn pb pm pcd pw pli) (fun E => (E = "java/lang/IndexOutOfBoundsException" ∧ (boC no b = 1))) := by
  refine zX.of (by decide +kernel) (Nat.le_of_ble_eq_true rfl) ?_
  intro p e s m args below meth c A ls hx hb hr hta hown hlocks hml hex hN hK hP hD hS hA hl
  refine z_gen (fun G hG => ?_)
  have hl : lv_has ls 2 [(0, Value.ref (a 0)), (1, Value.int b)] := hl
  refine lv_aload_n hx hb dX5_dryAt_0 rfl (lv_at hl 0 rfl) ?_
  refine lv_iload_n hx hb dX5_dryAt_1 rfl (lv_at hl 1 rfl) ?_
  refine z_xcallV (As := [Value.int b]) (rest := []) hx hb hml hown hta zm_X5_checkBoat wd_13_9 (c_X5_checkBoat l hlt D y a cap clr t hom mov wm tb tf ts nw wf wt nb bw bl bi bb no od ow ol ork ob olf oco pn pb pm pcd pw pli b (by omega)) hN hK hP hD hS hA 0 rfl rfl rfl hl rfl (Nat.le_of_ble_eq_true rfl) ⟨Nat.le_of_ble_eq_true rfl, Nat.le_of_ble_eq_true rfl⟩ ⟨Nat.le_of_ble_eq_true rfl, Nat.le_of_ble_eq_true rfl⟩ dX5_dryAt_2 (fun E ce q9 H locs hE hP hS hc9 hv9 hcl9 => ?_) (fun v w' H locs hq hP hD hS => ?_)
  · refine z_out hG hex hlocks ?_ hP hS hc9 hv9 hcl9 (Nat.le_of_ble_eq_true rfl) (Nat.le_of_ble_eq_true rfl)
    obtain ⟨rfl, hE⟩ := hE
    exact ⟨rfl, by simp [boC, hE]⟩
  obtain ⟨hq1, rfl, rfl⟩ := hq
  obtain ⟨j, hj, rfl⟩ := (inB_iff (by omega)).mp hq1
  have ej : nN (nI j) = j := nI_clamp (by omega)
  refine lv_aload_n hx hb dX5_dryAt_5 rfl (lv_at hl 0 rfl) ?_
  refine gB5_weather hx hb hta hown hK hP wd_1_21 dX5_dryAt_6 ?_
  refine lv_aload_n hx hb dX5_dryAt_9 rfl (lv_at hl 0 rfl) ?_
  refine gB5_now hx hb hta hown hK hP wd_2_12 dX5_dryAt_10 ?_
  refine lv_aload_n hx hb dX5_dryAt_13 rfl (lv_at hl 0 rfl) ?_
  refine gB5_boats hx hb hta hown hK hP wd_2_5 dX5_dryAt_14 ?_
  refine gB1_left hx hb hta hown hK hP wd_19_16 dX5_dryAt_17 ?_
  refine lv_iload_n hx hb dX5_dryAt_20 rfl (lv_at hl 1 rfl) ?_
  refine aB_olf hx hb hK hP j rfl (by omega) dX5_dryAt_21 ?_
  obtain ⟨L, hL, eL⟩ := hol j (by omega)
  refine zr_top (y := nI L) eL ?_
  refine z_callV (As := [Value.int (nI t), Value.int (nI L)]) (rest := []) hx hb hml hown hta zm_X4_dryBySpans wd_26_12 (c_X4_dryBySpans l D y a cap clr t hom mov wm tb tf ts nw wf wt nb bw bl bi bb no od ow ol ork ob olf oco pn pb pm pcd pw pli t L (by omega) (by omega) (by omega) (by omega)) hN hK hP hD hS hA 2 rfl rfl rfl hl rfl (Nat.le_of_ble_eq_true rfl) ⟨Nat.le_of_ble_eq_true rfl, Nat.le_of_ble_eq_true rfl⟩ ⟨Nat.le_of_ble_eq_true rfl, Nat.le_of_ble_eq_true rfl⟩ dX5_dryAt_22 (fun v w' H locs hq hP hD hS => ?_)
  obtain ⟨rfl, rfl⟩ := hq
  refine z_iretX hG hx hb hr hlocks hP hD hS (Nat.le_of_ble_eq_true rfl) (Nat.le_of_ble_eq_true rfl) dX5_dryAt_25 ?_
  refine ⟨?_, congrArg (fun z => some (Value.int z)) ?_, ?_⟩
  · simp [boC, hq1, ej, eL]
  · rw [dryV, nNx, ej, eL, nI_clamp (by omega)]
  · rfl
set_option maxHeartbeats 800000 in
set_option maxRecDepth 100000 in
theorem c_X5_dryByHours (l : Launch) (hlt : l.stackTraces = false) (D : va_G) (y : Nat → ClassId) (a : Nat → Nat) (cap clr : Int32) (t : Nat) (hom mov : Int32) (wm : Int64) (tb tf ts : Int32) (nw : Nat) (wf wt : Nat → Int32) (nb : Nat) (bw bl bi bb : Nat → Int32) (no : Nat) (od ow ol ork ob olf oco : Nat → Int32) (pn pb pm : Int32) (pcd pw pli : Nat → Int32) (b : Int32) (hb8 : no ≤ 8) (hw : nw ≤ 6) (hsp : spOk wf wt nw) (ht : t ≤ 9999) (hol : ∀ j, j < 8 → ∃ L, L ≤ 48 ∧ olf j = nI L) : zX l D y yX5_dryByHours cX5_dryByHours 2 (some .int) 8 2 12 116 [Value.ref (a 0), Value.int b] (wB a y cap clr (nI t) hom mov wm tb tf ts (nI nw) wf wt (nI nb) bw bl bi bb (nI no) od ow ol ork ob olf oco pn pb pm pcd pw pli) (fun o9 w9 => (boC no b = 0) ∧ o9 = some (Value.int (nI (dryV wf wt nw t (olf (nN b))))) ∧ w9 = wB a y cap clr (nI t) hom mov wm tb tf ts (nI nw) wf wt (nI nb) bw bl bi bb (nI no) od ow ol ork ob olf oco pn pb pm pcd pw pli) (fun E => (E = "java/lang/IndexOutOfBoundsException" ∧ (boC no b = 1))) := by
  refine zX.of (by decide +kernel) (Nat.le_of_ble_eq_true rfl) ?_
  intro p e s m args below meth c A ls hx hb hr hta hown hlocks hml hex hN hK hP hD hS hA hl
  refine z_gen (fun G hG => ?_)
  have hl : lv_has ls 2 [(0, Value.ref (a 0)), (1, Value.int b)] := hl
  refine lv_aload_n hx hb dX5_dryByHours_0 rfl (lv_at hl 0 rfl) ?_
  refine lv_iload_n hx hb dX5_dryByHours_1 rfl (lv_at hl 1 rfl) ?_
  refine z_xcallV (As := [Value.int b]) (rest := []) hx hb hml hown hta zm_X5_checkBoat wd_13_9 (c_X5_checkBoat l hlt D y a cap clr t hom mov wm tb tf ts nw wf wt nb bw bl bi bb no od ow ol ork ob olf oco pn pb pm pcd pw pli b (by omega)) hN hK hP hD hS hA 0 rfl rfl rfl hl rfl (Nat.le_of_ble_eq_true rfl) ⟨Nat.le_of_ble_eq_true rfl, Nat.le_of_ble_eq_true rfl⟩ ⟨Nat.le_of_ble_eq_true rfl, Nat.le_of_ble_eq_true rfl⟩ dX5_dryByHours_2 (fun E ce q9 H locs hE hP hS hc9 hv9 hcl9 => ?_) (fun v w' H locs hq hP hD hS => ?_)
  · refine z_out hG hex hlocks ?_ hP hS hc9 hv9 hcl9 (Nat.le_of_ble_eq_true rfl) (Nat.le_of_ble_eq_true rfl)
    obtain ⟨rfl, hE⟩ := hE
    exact ⟨rfl, by simp [boC, hE]⟩
  obtain ⟨hq1, rfl, rfl⟩ := hq
  obtain ⟨j, hj, rfl⟩ := (inB_iff (by omega)).mp hq1
  have ej : nN (nI j) = j := nI_clamp (by omega)
  refine lv_aload_n hx hb dX5_dryByHours_5 rfl (lv_at hl 0 rfl) ?_
  refine gB5_weather hx hb hta hown hK hP wd_1_21 dX5_dryByHours_6 ?_
  refine lv_aload_n hx hb dX5_dryByHours_9 rfl (lv_at hl 0 rfl) ?_
  refine gB5_now hx hb hta hown hK hP wd_2_12 dX5_dryByHours_10 ?_
  refine lv_aload_n hx hb dX5_dryByHours_13 rfl (lv_at hl 0 rfl) ?_
  refine gB5_boats hx hb hta hown hK hP wd_2_5 dX5_dryByHours_14 ?_
  refine gB1_left hx hb hta hown hK hP wd_19_16 dX5_dryByHours_17 ?_
  refine lv_iload_n hx hb dX5_dryByHours_20 rfl (lv_at hl 1 rfl) ?_
  refine aB_olf hx hb hK hP j rfl (by omega) dX5_dryByHours_21 ?_
  obtain ⟨L, hL, eL⟩ := hol j (by omega)
  refine zr_top (y := nI L) eL ?_
  refine z_callV (As := [Value.int (nI t), Value.int (nI L)]) (rest := []) hx hb hml hown hta zm_X4_dryHourByHour wd_27_19 (c_X4_dryHourByHour l D y a cap clr t hom mov wm tb tf ts nw wf wt nb bw bl bi bb no od ow ol ork ob olf oco pn pb pm pcd pw pli t L (by omega) (by omega) (by omega) (by omega)) hN hK hP hD hS hA 2 rfl rfl rfl hl rfl (Nat.le_of_ble_eq_true rfl) ⟨Nat.le_of_ble_eq_true rfl, Nat.le_of_ble_eq_true rfl⟩ ⟨Nat.le_of_ble_eq_true rfl, Nat.le_of_ble_eq_true rfl⟩ dX5_dryByHours_22 (fun v w' H locs hq hP hD hS => ?_)
  obtain ⟨rfl, rfl⟩ := hq
  refine z_iretX hG hx hb hr hlocks hP hD hS (Nat.le_of_ble_eq_true rfl) (Nat.le_of_ble_eq_true rfl) dX5_dryByHours_25 ?_
  refine ⟨?_, congrArg (fun z => some (Value.int z)) ?_, ?_⟩
  · simp [boC, hq1, ej, eL]
  · rw [dryV, nNx, ej, eL, nI_clamp (by omega)]
  · rfl
set_option maxHeartbeats 800000 in
set_option maxRecDepth 100000 in
theorem c_X6_driesAt (l : Launch) (D : va_G) (y : Nat → ClassId) (a : Nat → Nat) (mth : Int32) (t : Nat) (tb tf ts cap clr mov hom : Int32) (wm : Int64) (nw : Nat) (wf wt : Nat → Int32) (nb : Nat) (fr bw bl : Nat → Int32) (no : Nat) (od ow ol ork olf oco at_ aw : Nat → Int32) (mp : Int32) (mpl msh msl mwa mse : Nat → Int32) (j : Nat) (hj8 : j < 8) (hw : nw ≤ 6) (hsp : spOk wf wt nw) (ht : t ≤ 9999) (hol : ∀ j, j < 8 → ∃ L, L ≤ 48 ∧ olf j = nI L) : zP l D y yX6_driesAt cX6_driesAt 4 (some .int) 1 0 0 23 [Value.ref (a 0), Value.int (nI j)] (wM a y mth (nI t) tb tf ts cap clr mov hom wm (nI nw) wf wt (nI nb) fr bw bl (nI no) od ow ol ork olf oco at_ aw mp mpl msh msl mwa mse) (fun o9 w9 => o9 = some (Value.int (nI (dryV wf wt nw t (olf j)))) ∧ w9 = wM a y mth (nI t) tb tf ts cap clr mov hom wm (nI nw) wf wt (nI nb) fr bw bl (nI no) od ow ol ork olf oco at_ aw mp mpl msh msl mwa mse) := by
  refine zP.of (by decide +kernel) (Nat.le_of_ble_eq_true rfl) ?_
  intro p e s m args below meth c A ls hx hb hr hta hown hlocks hml hin hN hK hP hD hS hA hl
  refine z_gen (fun G hG => ?_)
  have hl : lv_has ls 4 [(0, Value.ref (a 0)), (1, Value.int (nI j))] := hl
  refine lv_aload_n hx hb dX6_driesAt_0 rfl (lv_at hl 0 rfl) ?_
  refine gM6_time hx hb hta hown hK hP wd_9_12 dX6_driesAt_1 ?_
  refine lv_istore_n (lv' := [(2, Value.int (nI t)), (0, Value.ref (a 0)), (1, Value.int (nI j))]) hx hb dX6_driesAt_4 rfl hl (by decide) rfl (fun ls hl => ?_)
  refine lv_aload_n hx hb dX6_driesAt_5 rfl (lv_at hl 1 rfl) ?_
  refine gM6_dry hx hb hta hown hK hP wd_5_4 dX6_driesAt_6 ?_
  refine lv_iload_n hx hb dX6_driesAt_9 rfl (lv_at hl 2 rfl) ?_
  refine aM_olf hx hb hK hP j rfl (by omega) dX6_driesAt_10 ?_
  obtain ⟨L, hL, eL⟩ := hol j (by omega)
  refine zr_top (y := nI L) eL ?_
  refine lv_istore_n (lv' := [(3, Value.int (nI L)), (2, Value.int (nI t)), (0, Value.ref (a 0)), (1, Value.int (nI j))]) hx hb dX6_driesAt_11 rfl hl (by decide) rfl (fun ls hl => ?_)
  have LP12 : ∀ (n : Nat) (x1 : Nat) (r : Nat), (x1 + r ≤ 10000 + L) → (r ≤ L) → (dryG (bdN wf wt nw) (10000 + L - x1) r x1 = dryG (bdN wf wt nw) (10000 + L - t) L t) → 10000 + L - x1 < n → ∀ (H : Heap) (locs : List Loc) (ls : Array Slot), va_P D vwCl (wM a y mth (nI t) tb tf ts cap clr mov hom wm (nI nw) wf wt (nI nb) fr bw bl (nI no) od ow ol ork olf oco at_ aw mp mpl msh msl mwa mse) H → va_D A (wM a y mth (nI t) tb tf ts cap clr mov hom wm (nI nw) wf wt (nI nb) fr bw bl (nI no) od ow ol ork olf oco at_ aw mp mpl msh msl mwa mse) → va_S A s.heap H locs → lv_has ls 4 [(3, Value.int (nI r)), (2, Value.int (nI x1)), (0, Value.ref (a 0)), (1, Value.int (nI j))] → W p l e ({ frames := 1, cells := 0, slots := 0, locals := 23 } : Room) s m args below meth c H locs 0 0 G (F0 m 12 ls []) := by
    intro n
    induction n with
    | zero => intro x1 r hnr hrL hd hn; exact absurd hn (Nat.not_lt_zero _)
    | succ n ih12 =>
      intro x1 r hnr hrL hd hn H locs ls hP hD hS hl
      refine lv_iload_n hx hb dX6_driesAt_12 rfl (lv_at hl 0 rfl) ?_
      refine lv_if_le (tgt := 38) hx hb dX6_driesAt_13 (by decide) (fun c13 => ?_) (fun c13 => ?_)
      · have c13 : r ≤ 0 := (nI_leI (a := r) (b := 0) (by omega) (by omega)).mp c13
        refine lv_iload_n hx hb dX6_driesAt_38 rfl (lv_at hl 1 rfl) ?_
        refine z_iret hG hx hb hr hlocks hP hD hS (Nat.le_of_ble_eq_true rfl) (Nat.le_of_ble_eq_true rfl) dX6_driesAt_39 ?_
        refine zqi ?_
        have hr0 : r = 0 := by omega
        subst hr0
        rw [dryV, nNx, eL, nI_clamp (by omega), ← hd, dryG_0]
      · have c13 : ¬ r ≤ 0 := fun z => c13 ((nI_leI (a := r) (b := 0) (by omega) (by omega)).mpr z)
        refine lv_iload_n hx hb dX6_driesAt_16 rfl (lv_at hl 0 rfl) ?_
        refine lv_aload_n hx hb dX6_driesAt_17 rfl (lv_at hl 2 rfl) ?_
        refine lv_iload_n hx hb dX6_driesAt_18 rfl (lv_at hl 1 rfl) ?_
        refine z_callV (As := [Value.int (nI x1)]) (rest := [Value.int (nI r)]) hx hb hml hown hta zm_X6_badAt wd_12_18 (c_X6_badAt l D y a mth t tb tf ts cap clr mov hom wm nw wf wt nb fr bw bl no od ow ol ork olf oco at_ aw mp mpl msh msl mwa mse (nI x1) (by omega)) hN hK hP hD hS hA 0 rfl rfl rfl hl rfl (Nat.le_of_ble_eq_true rfl) ⟨Nat.le_of_ble_eq_true rfl, Nat.le_of_ble_eq_true rfl⟩ ⟨Nat.le_of_ble_eq_true rfl, Nat.le_of_ble_eq_true rfl⟩ dX6_driesAt_19 (fun v w' H locs hq hP hD hS => ?_)
        obtain ⟨rfl, rfl⟩ := hq
        refine lv_if_eq (tgt := 29) hx hb dX6_driesAt_22 (by decide) (fun c22 => ?_) (fun c22 => ?_)
        · have c22 := bI_0 c22
          refine lv_iconst (v := (1 : Int32)) hx hb dX6_driesAt_29 (by decide) ?_
          refine lv_isub hx hb dX6_driesAt_30 ?_
          refine zr_top (y := nI (r - 1)) (pk_sub (a := r) (b := 1) (by omega)) ?_
          refine lv_istore_n (lv' := [(3, Value.int (nI (r - 1))), (2, Value.int (nI x1)), (0, Value.ref (a 0)), (1, Value.int (nI j))]) hx hb dX6_driesAt_31 rfl hl (by decide) rfl (fun ls hl => ?_)
          refine lv_iinc (v := nI (x1 + 1)) (lv' := [(2, Value.int (nI (x1 + 1))), (3, Value.int (nI (r - 1))), (0, Value.ref (a 0)), (1, Value.int (nI j))]) hx hb dX6_driesAt_32 hl (k := 1) rfl (nI_add x1 1) (by decide) rfl (fun ls hl => ?_)
          refine lv_goto (tgt := 12) hx hb dX6_driesAt_35 (by decide) ?_
          have hl := lv_sub hl [1, 0, 2, 3] rfl
          have hv2_hnr : (x1 + 1) + (r - 1) ≤ 10000 + L := by
            first
            | omega
            | (rcases Nat.lt_or_ge x1 10000 with z | z
               · omega
               · exact absurd c22 (by have := bd_hi hsp z (by omega); intro q; rw [show badF wf wt nw (nI x1) = false from this] at q; cases q))
          have hv3_hd : dryG (bdN wf wt nw) (10000 + L - (x1 + 1)) (r - 1) (x1 + 1) = dryG (bdN wf wt nw) (10000 + L - t) L t := by
            rw [← hd, dr_one (bad := bdN wf wt nw) (F := 10000 + L - x1) (L := r) (h := x1) (by omega) (by omega), Nat.sub_sub]
            first
            | rw [if_pos (show bdN wf wt nw x1 = true from c22)]
            | rw [if_neg (show ¬ bdN wf wt nw x1 = true from fun q => by rw [show bdN wf wt nw x1 = false from c22] at q; cases q)]
          exact ih12 (x1 + 1) (r - 1) hv2_hnr (by omega) hv3_hd (by omega) _ _ _ hP hD hS hl
        · have c22 := bI_1 c22
          refine lv_iconst (v := (0 : Int32)) hx hb dX6_driesAt_25 (by decide) ?_
          refine lv_goto (tgt := 30) hx hb dX6_driesAt_26 (by decide) ?_
          refine lv_isub hx hb dX6_driesAt_30 ?_
          refine zr_top (y := nI (r)) (Int32.sub_zero _) ?_
          refine lv_istore_n (lv' := [(3, Value.int (nI r)), (2, Value.int (nI x1)), (0, Value.ref (a 0)), (1, Value.int (nI j))]) hx hb dX6_driesAt_31 rfl hl (by decide) rfl (fun ls hl => ?_)
          refine lv_iinc (v := nI (x1 + 1)) (lv' := [(2, Value.int (nI (x1 + 1))), (3, Value.int (nI r)), (0, Value.ref (a 0)), (1, Value.int (nI j))]) hx hb dX6_driesAt_32 hl (k := 1) rfl (nI_add x1 1) (by decide) rfl (fun ls hl => ?_)
          refine lv_goto (tgt := 12) hx hb dX6_driesAt_35 (by decide) ?_
          have hl := lv_sub hl [1, 0, 2, 3] rfl
          have hv4_hnr : (x1 + 1) + r ≤ 10000 + L := by
            first
            | omega
            | (rcases Nat.lt_or_ge x1 10000 with z | z
               · omega
               · exact absurd c22 (by have := bd_hi hsp z (by omega); intro q; rw [show badF wf wt nw (nI x1) = false from this] at q; cases q))
          have hv5_hd : dryG (bdN wf wt nw) (10000 + L - (x1 + 1)) r (x1 + 1) = dryG (bdN wf wt nw) (10000 + L - t) L t := by
            rw [← hd, dr_one (bad := bdN wf wt nw) (F := 10000 + L - x1) (L := r) (h := x1) (by omega) (by omega), Nat.sub_sub]
            first
            | rw [if_pos (show bdN wf wt nw x1 = true from c22)]
            | rw [if_neg (show ¬ bdN wf wt nw x1 = true from fun q => by rw [show bdN wf wt nw x1 = false from c22] at q; cases q)]
          exact ih12 (x1 + 1) r hv4_hnr (by omega) hv5_hd (by omega) _ _ _ hP hD hS hl
  have hl := lv_sub hl [0, 1, 2, 3] rfl
  have hv6_hd : dryG (bdN wf wt nw) (10000 + L - t) L t = dryG (bdN wf wt nw) (10000 + L - t) L t := by
    rfl
  exact LP12 (10000 + L - t + 1) t L (by omega) (by omega) hv6_hd (Nat.lt_succ_self _) _ _ _ hP hD hS hl
set_option maxHeartbeats 800000 in
set_option maxRecDepth 100000 in
theorem c_X6_dryAt (l : Launch) (D : va_G) (y : Nat → ClassId) (a : Nat → Nat) (mth : Int32) (t : Nat) (tb tf ts cap clr mov hom : Int32) (wm : Int64) (nw : Nat) (wf wt : Nat → Int32) (nb : Nat) (fr bw bl : Nat → Int32) (no : Nat) (od ow ol ork olf oco at_ aw : Nat → Int32) (mp : Int32) (mpl msh msl mwa mse : Nat → Int32) (b : Int32) (hb8 : no ≤ 8) (hw : nw ≤ 6) (hsp : spOk wf wt nw) (ht : t ≤ 9999) (hol : ∀ j, j < 8 → ∃ L, L ≤ 48 ∧ olf j = nI L) : zP l D y yX6_dryAt cX6_dryAt 2 (some .int) 2 0 0 46 [Value.ref (a 0), Value.int b] (wM a y mth (nI t) tb tf ts cap clr mov hom wm (nI nw) wf wt (nI nb) fr bw bl (nI no) od ow ol ork olf oco at_ aw mp mpl msh msl mwa mse) (fun o9 w9 => (boC no b = 0 ∧ o9 = some (Value.int (nI (dryV wf wt nw t (olf (nN b))))) ∧ w9 = wM a y (0 : Int32) (nI t) tb tf ts cap clr mov hom wm (nI nw) wf wt (nI nb) fr bw bl (nI no) od ow ol ork olf oco at_ aw mp mpl msh msl mwa mse) ∨ (boC no b ≠ 0 ∧ ∃ r9, o9 = some (Value.int r9) ∧ w9 = wM a y (nI (boC no b)) (nI t) tb tf ts cap clr mov hom wm (nI nw) wf wt (nI nb) fr bw bl (nI no) od ow ol ork olf oco at_ aw mp mpl msh msl mwa mse)) := by
  refine zP.of (by decide +kernel) (Nat.le_of_ble_eq_true rfl) ?_
  intro p e s m args below meth c A ls hx hb hr hta hown hlocks hml hin hN hK hP hD hS hA hl
  refine z_gen (fun G hG => ?_)
  have hl : lv_has ls 2 [(0, Value.ref (a 0)), (1, Value.int b)] := hl
  refine lv_aload_n hx hb dX6_dryAt_0 rfl (lv_at hl 0 rfl) ?_
  refine lv_iload_n hx hb dX6_dryAt_1 rfl (lv_at hl 1 rfl) ?_
  refine z_callV (As := [Value.int b]) (rest := []) hx hb hml hown hta zm_X6_isBoat wd_14_10 (c_X6_isBoat l D y a mth t tb tf ts cap clr mov hom wm nw wf wt nb fr bw bl no od ow ol ork olf oco at_ aw mp mpl msh msl mwa mse b (by omega)) hN hK hP hD hS hA 0 rfl rfl rfl hl rfl (Nat.le_of_ble_eq_true rfl) ⟨Nat.le_of_ble_eq_true rfl, Nat.le_of_ble_eq_true rfl⟩ ⟨Nat.le_of_ble_eq_true rfl, Nat.le_of_ble_eq_true rfl⟩ dX6_dryAt_2 (fun v w' H locs hq hP hD hS => ?_)
  obtain ⟨rfl, rfl⟩ := hq
  refine lv_if_eq (tgt := 20) hx hb dX6_dryAt_5 (by decide) (fun c5 => ?_) (fun c5 => ?_)
  · have c5 := bI_0 c5
    refine lv_aload_n hx hb dX6_dryAt_20 rfl (lv_at hl 0 rfl) ?_
    refine lv_iconst (v := (1 : Int32)) hx hb dX6_dryAt_21 (by decide) ?_
    refine z_callV (As := [Value.int (1 : Int32)]) (rest := []) hx hb hml hown hta zm_X6_fails wd_7_8 (c_X6_fails l D y a mth t tb tf ts cap clr mov hom wm nw wf wt nb fr bw bl no od ow ol ork olf oco at_ aw mp mpl msh msl mwa mse (1 : Int32)) hN hK hP hD hS hA 0 rfl rfl rfl hl rfl (Nat.le_of_ble_eq_true rfl) ⟨Nat.le_of_ble_eq_true rfl, Nat.le_of_ble_eq_true rfl⟩ ⟨Nat.le_of_ble_eq_true rfl, Nat.le_of_ble_eq_true rfl⟩ dX6_dryAt_22 (fun v w' H locs hq hP hD hS => ?_)
    obtain ⟨rfl, rfl⟩ := hq
    refine z_iret hG hx hb hr hlocks hP hD hS (Nat.le_of_ble_eq_true rfl) (Nat.le_of_ble_eq_true rfl) dX6_dryAt_25 ?_
    have hcd : boC no b = 1 := by
      simp [boC, c5]
    exact Or.inr ⟨by rw [hcd]; decide, _, rfl, by rw [hcd]; rfl⟩
  · have c5 := bI_1 c5
    obtain ⟨j, hj, rfl⟩ := (inB_iff (by omega)).mp c5
    have ej : nN (nI j) = j := nI_clamp (by omega)
    refine lv_aload_n hx hb dX6_dryAt_8 rfl (lv_at hl 0 rfl) ?_
    refine lv_aload_n hx hb dX6_dryAt_9 rfl (lv_at hl 0 rfl) ?_
    refine lv_iload_n hx hb dX6_dryAt_10 rfl (lv_at hl 1 rfl) ?_
    refine z_callV (As := [Value.int (nI j)]) (rest := [Value.ref (a 0)]) hx hb hml hown hta zm_X6_driesAt wd_27_8 (c_X6_driesAt l D y a mth t tb tf ts cap clr mov hom wm nw wf wt nb fr bw bl no od ow ol ork olf oco at_ aw mp mpl msh msl mwa mse j (by omega) (by omega) (by omega) (by omega) (by omega)) hN hK hP hD hS hA 0 rfl rfl rfl hl rfl (Nat.le_of_ble_eq_true rfl) ⟨Nat.le_of_ble_eq_true rfl, Nat.le_of_ble_eq_true rfl⟩ ⟨Nat.le_of_ble_eq_true rfl, Nat.le_of_ble_eq_true rfl⟩ dX6_dryAt_11 (fun v w' H locs hq hP hD hS => ?_)
    obtain ⟨rfl, rfl⟩ := hq
    refine z_callV (As := [Value.int (nI (dryV wf wt nw t (olf j)))]) (rest := []) hx hb hml hown hta zm_X6_tells wd_7_13 (c_X6_tells l D y a mth t tb tf ts cap clr mov hom wm nw wf wt nb fr bw bl no od ow ol ork olf oco at_ aw mp mpl msh msl mwa mse (nI (dryV wf wt nw t (olf j)))) hN hK hP hD hS hA 0 rfl rfl rfl hl rfl (Nat.le_of_ble_eq_true rfl) ⟨Nat.le_of_ble_eq_true rfl, Nat.le_of_ble_eq_true rfl⟩ ⟨Nat.le_of_ble_eq_true rfl, Nat.le_of_ble_eq_true rfl⟩ dX6_dryAt_14 (fun v w' H locs hq hP hD hS => ?_)
    obtain ⟨rfl, rfl⟩ := hq
    refine lv_goto (tgt := 25) hx hb dX6_dryAt_17 (by decide) ?_
    refine z_iret hG hx hb hr hlocks hP hD hS (Nat.le_of_ble_eq_true rfl) (Nat.le_of_ble_eq_true rfl) dX6_dryAt_25 ?_
    refine Or.inl ⟨?_, congrArg (fun z => some (Value.int z)) ?_, ?_⟩
    · simp [boC, c5, ej]
    · rw [ej]
    · rfl
set_option maxHeartbeats 800000 in
set_option maxRecDepth 100000 in
theorem c_X6_dryByHours (l : Launch) (D : va_G) (y : Nat → ClassId) (a : Nat → Nat) (mth : Int32) (t : Nat) (tb tf ts cap clr mov hom : Int32) (wm : Int64) (nw : Nat) (wf wt : Nat → Int32) (nb : Nat) (fr bw bl : Nat → Int32) (no : Nat) (od ow ol ork olf oco at_ aw : Nat → Int32) (mp : Int32) (mpl msh msl mwa mse : Nat → Int32) (b : Int32) (hb8 : no ≤ 8) (hw : nw ≤ 6) (hsp : spOk wf wt nw) (ht : t ≤ 9999) (hol : ∀ j, j < 8 → ∃ L, L ≤ 48 ∧ olf j = nI L) : zP l D y yX6_dryByHours cX6_dryByHours 2 (some .int) 2 0 0 46 [Value.ref (a 0), Value.int b] (wM a y mth (nI t) tb tf ts cap clr mov hom wm (nI nw) wf wt (nI nb) fr bw bl (nI no) od ow ol ork olf oco at_ aw mp mpl msh msl mwa mse) (fun o9 w9 => (boC no b = 0 ∧ o9 = some (Value.int (nI (dryV wf wt nw t (olf (nN b))))) ∧ w9 = wM a y (0 : Int32) (nI t) tb tf ts cap clr mov hom wm (nI nw) wf wt (nI nb) fr bw bl (nI no) od ow ol ork olf oco at_ aw mp mpl msh msl mwa mse) ∨ (boC no b ≠ 0 ∧ ∃ r9, o9 = some (Value.int r9) ∧ w9 = wM a y (nI (boC no b)) (nI t) tb tf ts cap clr mov hom wm (nI nw) wf wt (nI nb) fr bw bl (nI no) od ow ol ork olf oco at_ aw mp mpl msh msl mwa mse)) := by
  refine zP.of (by decide +kernel) (Nat.le_of_ble_eq_true rfl) ?_
  intro p e s m args below meth c A ls hx hb hr hta hown hlocks hml hin hN hK hP hD hS hA hl
  refine z_gen (fun G hG => ?_)
  have hl : lv_has ls 2 [(0, Value.ref (a 0)), (1, Value.int b)] := hl
  refine lv_aload_n hx hb dX6_dryByHours_0 rfl (lv_at hl 0 rfl) ?_
  refine lv_iload_n hx hb dX6_dryByHours_1 rfl (lv_at hl 1 rfl) ?_
  refine z_callV (As := [Value.int b]) (rest := []) hx hb hml hown hta zm_X6_isBoat wd_14_10 (c_X6_isBoat l D y a mth t tb tf ts cap clr mov hom wm nw wf wt nb fr bw bl no od ow ol ork olf oco at_ aw mp mpl msh msl mwa mse b (by omega)) hN hK hP hD hS hA 0 rfl rfl rfl hl rfl (Nat.le_of_ble_eq_true rfl) ⟨Nat.le_of_ble_eq_true rfl, Nat.le_of_ble_eq_true rfl⟩ ⟨Nat.le_of_ble_eq_true rfl, Nat.le_of_ble_eq_true rfl⟩ dX6_dryByHours_2 (fun v w' H locs hq hP hD hS => ?_)
  obtain ⟨rfl, rfl⟩ := hq
  refine lv_if_eq (tgt := 20) hx hb dX6_dryByHours_5 (by decide) (fun c5 => ?_) (fun c5 => ?_)
  · have c5 := bI_0 c5
    refine lv_aload_n hx hb dX6_dryByHours_20 rfl (lv_at hl 0 rfl) ?_
    refine lv_iconst (v := (1 : Int32)) hx hb dX6_dryByHours_21 (by decide) ?_
    refine z_callV (As := [Value.int (1 : Int32)]) (rest := []) hx hb hml hown hta zm_X6_fails wd_7_8 (c_X6_fails l D y a mth t tb tf ts cap clr mov hom wm nw wf wt nb fr bw bl no od ow ol ork olf oco at_ aw mp mpl msh msl mwa mse (1 : Int32)) hN hK hP hD hS hA 0 rfl rfl rfl hl rfl (Nat.le_of_ble_eq_true rfl) ⟨Nat.le_of_ble_eq_true rfl, Nat.le_of_ble_eq_true rfl⟩ ⟨Nat.le_of_ble_eq_true rfl, Nat.le_of_ble_eq_true rfl⟩ dX6_dryByHours_22 (fun v w' H locs hq hP hD hS => ?_)
    obtain ⟨rfl, rfl⟩ := hq
    refine z_iret hG hx hb hr hlocks hP hD hS (Nat.le_of_ble_eq_true rfl) (Nat.le_of_ble_eq_true rfl) dX6_dryByHours_25 ?_
    have hcd : boC no b = 1 := by
      simp [boC, c5]
    exact Or.inr ⟨by rw [hcd]; decide, _, rfl, by rw [hcd]; rfl⟩
  · have c5 := bI_1 c5
    obtain ⟨j, hj, rfl⟩ := (inB_iff (by omega)).mp c5
    have ej : nN (nI j) = j := nI_clamp (by omega)
    refine lv_aload_n hx hb dX6_dryByHours_8 rfl (lv_at hl 0 rfl) ?_
    refine lv_aload_n hx hb dX6_dryByHours_9 rfl (lv_at hl 0 rfl) ?_
    refine lv_iload_n hx hb dX6_dryByHours_10 rfl (lv_at hl 1 rfl) ?_
    refine z_callV (As := [Value.int (nI j)]) (rest := [Value.ref (a 0)]) hx hb hml hown hta zm_X6_driesAt wd_27_8 (c_X6_driesAt l D y a mth t tb tf ts cap clr mov hom wm nw wf wt nb fr bw bl no od ow ol ork olf oco at_ aw mp mpl msh msl mwa mse j (by omega) (by omega) (by omega) (by omega) (by omega)) hN hK hP hD hS hA 0 rfl rfl rfl hl rfl (Nat.le_of_ble_eq_true rfl) ⟨Nat.le_of_ble_eq_true rfl, Nat.le_of_ble_eq_true rfl⟩ ⟨Nat.le_of_ble_eq_true rfl, Nat.le_of_ble_eq_true rfl⟩ dX6_dryByHours_11 (fun v w' H locs hq hP hD hS => ?_)
    obtain ⟨rfl, rfl⟩ := hq
    refine z_callV (As := [Value.int (nI (dryV wf wt nw t (olf j)))]) (rest := []) hx hb hml hown hta zm_X6_tells wd_7_13 (c_X6_tells l D y a mth t tb tf ts cap clr mov hom wm nw wf wt nb fr bw bl no od ow ol ork olf oco at_ aw mp mpl msh msl mwa mse (nI (dryV wf wt nw t (olf j)))) hN hK hP hD hS hA 0 rfl rfl rfl hl rfl (Nat.le_of_ble_eq_true rfl) ⟨Nat.le_of_ble_eq_true rfl, Nat.le_of_ble_eq_true rfl⟩ ⟨Nat.le_of_ble_eq_true rfl, Nat.le_of_ble_eq_true rfl⟩ dX6_dryByHours_14 (fun v w' H locs hq hP hD hS => ?_)
    obtain ⟨rfl, rfl⟩ := hq
    refine lv_goto (tgt := 25) hx hb dX6_dryByHours_17 (by decide) ?_
    refine z_iret hG hx hb hr hlocks hP hD hS (Nat.le_of_ble_eq_true rfl) (Nat.le_of_ble_eq_true rfl) dX6_dryByHours_25 ?_
    refine Or.inl ⟨?_, congrArg (fun z => some (Value.int z)) ?_, ?_⟩
    · simp [boC, c5, ej]
    · rw [ej]
    · rfl
