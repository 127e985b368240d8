set_option maxHeartbeats 800000 in
set_option maxRecDepth 100000 in
theorem c_X6_nearest (l : Launch) (D : va_G) (y : Nat → ClassId) (a : Nat → Nat) (mth : Int32) (t : Nat) (tb tf ts cap clr mov hom : Int32) (wm : Int64) (nw : Nat) (wf wt : Nat → Int32) (nb : Nat) (fr bw bl : Nat → Int32) (no : Nat) (od ow ol ork olf oco at_ aw : Nat → Int32) (mq : Nat) (mpl msh msl mwa mse : Nat → Int32)  (hmq : mq ≤ 720) : zP l D y yX6_nearest cX6_nearest 3 (some .int) 0 0 0 0 [Value.ref (a 0)] (wM a y mth (nI t) tb tf ts cap clr mov hom wm (nI nw) wf wt (nI nb) fr bw bl (nI no) od ow ol ork olf oco at_ aw (nI mq) mpl msh msl mwa mse) (fun o9 w9 => ∃ (v9 : Nat), (NrR msh mse mq v9) ∧ o9 = some (Value.int (fI v9)) ∧ w9 = wM a y mth (nI t) tb tf ts cap clr mov hom wm (nI nw) wf wt (nI nb) fr bw bl (nI no) od ow ol ork olf oco at_ aw (nI mq) mpl msh msl mwa mse) := by
  refine zP.of (by decide +kernel) (Nat.le_of_ble_eq_true rfl) ?_
  intro p e s m args below meth c A ls hx hb hr hta hown hlocks hml hin hN hK hP hD hS hA hl
  refine z_gen (fun G hG => ?_)
  have hl : lv_has ls 3 [(0, Value.ref (a 0))] := hl
  refine lv_iconst (v := (-1 : Int32)) hx hb dX6_nearest_0 (by decide) ?_
  refine lv_istore_n (lv' := [(1, Value.int (-1 : Int32)), (0, Value.ref (a 0))]) hx hb dX6_nearest_1 rfl hl (by decide) rfl (fun ls hl => ?_)
  refine lv_iconst (v := (0 : Int32)) hx hb dX6_nearest_2 (by decide) ?_
  refine lv_istore_n (lv' := [(2, Value.int (0 : Int32)), (1, Value.int (-1 : Int32)), (0, Value.ref (a 0))]) hx hb dX6_nearest_3 rfl hl (by decide) rfl (fun ls hl => ?_)
  have LP4 : ∀ (n : Nat) (k : Nat) (v : Nat), (k ≤ mq) → (NrR msh mse k v) → mq - k < n → ∀ (H : Heap) (locs : List Loc) (ls : Array Slot), va_P D vwCl (wM a y mth (nI t) tb tf ts cap clr mov hom wm (nI nw) wf wt (nI nb) fr bw bl (nI no) od ow ol ork olf oco at_ aw (nI mq) mpl msh msl mwa mse) H → va_D A (wM a y mth (nI t) tb tf ts cap clr mov hom wm (nI nw) wf wt (nI nb) fr bw bl (nI no) od ow ol ork olf oco at_ aw (nI mq) mpl msh msl mwa mse) → va_S A s.heap H locs → lv_has ls 3 [(2, Value.int (nI k)), (1, Value.int (fI v)), (0, Value.ref (a 0))] → W p l e ({ frames := 0, cells := 0, slots := 0, locals := 0 } : Room) s m args below meth c H locs 0 0 G (F0 m 4 ls []) := by
    intro n
    induction n with
    | zero => intro k v hk hnr hn; exact absurd hn (Nat.not_lt_zero _)
    | succ n ih4 =>
      intro k v hk hnr hn H locs ls hP hD hS hl
      have hvb : v ≤ k := by rcases hnr with ⟨h1, _⟩ | ⟨i, h1, h2, _⟩ <;> omega
      refine lv_iload_n hx hb dX6_nearest_4 rfl (lv_at hl 0 rfl) ?_
      refine lv_aload_n hx hb dX6_nearest_5 rfl (lv_at hl 2 rfl) ?_
      refine gM6_places hx hb hta hown hK hP wd_32_21 dX6_nearest_6 ?_
      refine lv_icmp_ge (tgt := 49) hx hb dX6_nearest_9 (by decide) (fun c9 => ?_) (fun c9 => ?_)
      · have c9 : mq ≤ k := (nI_leI (a := mq) (b := k) (by omega) (by omega)).mp c9
        refine lv_iload_n hx hb dX6_nearest_49 rfl (lv_at hl 1 rfl) ?_
        refine z_iret hG hx hb hr hlocks hP hD hS (Nat.le_of_ble_eq_true rfl) (Nat.le_of_ble_eq_true rfl) dX6_nearest_50 ?_
        exact ⟨v, (by rw [show mq = k by omega]; exact hnr), rfl, rfl⟩
      · have c9 : ¬ mq ≤ k := fun z => c9 ((nI_leI (a := mq) (b := k) (by omega) (by omega)).mpr z)
        refine lv_aload_n hx hb dX6_nearest_12 rfl (lv_at hl 2 rfl) ?_
        refine gM6_isSettled hx hb hta hown hK hP wd_5_13 dX6_nearest_13 ?_
        refine lv_iload_n hx hb dX6_nearest_16 rfl (lv_at hl 0 rfl) ?_
        refine aM_mse hx hb hK hP k rfl (by omega) dX6_nearest_17 ?_
        refine lv_if_ne (tgt := 43) hx hb dX6_nearest_18 (by decide) (fun c18 => ?_) (fun c18 => ?_)
        · refine lv_iinc (v := nI (k + 1)) (lv' := [(2, Value.int (nI (k + 1))), (1, Value.int (fI v)), (0, Value.ref (a 0))]) hx hb dX6_nearest_43 hl (k := 0) rfl (nI_add k 1) (by decide) rfl (fun ls hl => ?_)
          refine lv_goto (tgt := 4) hx hb dX6_nearest_46 (by decide) ?_
          have hl := lv_sub hl [0, 1, 2] rfl
          have hv1_hnr : NrR msh mse (k + 1) v := by
            first
            | exact nr_skip hnr c18
            | exact nr_first hnr (fi_v c23) (Decidable.not_not.mp c18)
            | exact nr_first hnr (fi_v c23) c18
            | exact nr_keep hnr c38
            | exact nr_new hnr (Decidable.not_not.mp c18) (Int32.not_le.mp c38)
            | exact nr_new hnr c18 (Int32.not_le.mp c38)
          exact ih4 (k + 1) v (by omega) hv1_hnr (by omega) _ _ _ hP hD hS hl
        · refine lv_iload_n hx hb dX6_nearest_21 rfl (lv_at hl 1 rfl) ?_
          refine lv_iconst (v := (-1 : Int32)) hx hb dX6_nearest_22 (by decide) ?_
          refine lv_icmp_eq (tgt := 41) hx hb dX6_nearest_23 (by decide) (fun c23 => ?_) (fun c23 => ?_)
          · refine lv_iload_n hx hb dX6_nearest_41 rfl (lv_at hl 0 rfl) ?_
            refine lv_istore_n (lv' := [(1, Value.int (nI k)), (2, Value.int (nI k)), (0, Value.ref (a 0))]) hx hb dX6_nearest_42 rfl hl (by decide) rfl (fun ls hl => ?_)
            refine lv_iinc (v := nI (k + 1)) (lv' := [(2, Value.int (nI (k + 1))), (1, Value.int (nI k)), (0, Value.ref (a 0))]) hx hb dX6_nearest_43 hl (k := 1) rfl (nI_add k 1) (by decide) rfl (fun ls hl => ?_)
            refine lv_goto (tgt := 4) hx hb dX6_nearest_46 (by decide) ?_
            have eq2_0 : nI k = fI (k + 1) := by
              rfl
            have hl := lv_sub hl [0, 1, 2] rfl
            have hl : lv_has ls 3 [(2, Value.int (nI (k + 1))), (1, Value.int (nI k)), (0, Value.ref (a 0))] := hl
            have hl : lv_has ls 3 [(2, Value.int (nI (k + 1))), (1, Value.int (fI (k + 1))), (0, Value.ref (a 0))] := lv_as hl (congrArg (fun z => [(2, Value.int (nI (k + 1))), (1, Value.int z), (0, Value.ref (a 0))]) eq2_0)
            have hv3_hnr : NrR msh mse (k + 1) (k + 1) := by
              first
              | exact nr_skip hnr c18
              | exact nr_first hnr (fi_v c23) (Decidable.not_not.mp c18)
              | exact nr_first hnr (fi_v c23) c18
              | exact nr_keep hnr c38
              | exact nr_new hnr (Decidable.not_not.mp c18) (Int32.not_le.mp c38)
              | exact nr_new hnr c18 (Int32.not_le.mp c38)
            exact ih4 (k + 1) (k + 1) (by omega) hv3_hnr (by omega) _ _ _ hP hD hS hl
          · obtain ⟨v8, rfl⟩ := fI_s c23
            have hl : lv_has ls 3 [(2, Value.int (nI k)), (1, Value.int (nI v8)), (0, Value.ref (a 0))] := hl
            have hvk : v8 < k := by rcases hnr with ⟨h1, _⟩ | ⟨i, h1, h2, _⟩ <;> omega
            refine lv_aload_n hx hb dX6_nearest_26 rfl (lv_at hl 2 rfl) ?_
            refine gM6_shifted hx hb hta hown hK hP wd_5_10 dX6_nearest_27 ?_
            refine lv_iload_n hx hb dX6_nearest_30 rfl (lv_at hl 0 rfl) ?_
            refine aM_msh hx hb hK hP k rfl (by omega) dX6_nearest_31 ?_
            refine lv_aload_n hx hb dX6_nearest_32 rfl (lv_at hl 2 rfl) ?_
            refine gM6_shifted hx hb hta hown hK hP wd_5_10 dX6_nearest_33 ?_
            refine lv_iload_n hx hb dX6_nearest_36 rfl (lv_at hl 1 rfl) ?_
            refine aM_msh hx hb hK hP v8 rfl (by omega) dX6_nearest_37 ?_
            refine lv_icmp_ge (tgt := 43) hx hb dX6_nearest_38 (by decide) (fun c38 => ?_) (fun c38 => ?_)
            · refine lv_iinc (v := nI (k + 1)) (lv' := [(2, Value.int (nI (k + 1))), (1, Value.int (nI v8)), (0, Value.ref (a 0))]) hx hb dX6_nearest_43 hl (k := 0) rfl (nI_add k 1) (by decide) rfl (fun ls hl => ?_)
              refine lv_goto (tgt := 4) hx hb dX6_nearest_46 (by decide) ?_
              have eq4_0 : nI v8 = fI (v8 + 1) := by
                rfl
              have hl := lv_sub hl [0, 1, 2] rfl
              have hl : lv_has ls 3 [(2, Value.int (nI (k + 1))), (1, Value.int (nI v8)), (0, Value.ref (a 0))] := hl
              have hl : lv_has ls 3 [(2, Value.int (nI (k + 1))), (1, Value.int (fI (v8 + 1))), (0, Value.ref (a 0))] := lv_as hl (congrArg (fun z => [(2, Value.int (nI (k + 1))), (1, Value.int z), (0, Value.ref (a 0))]) eq4_0)
              have hv5_hnr : NrR msh mse (k + 1) (v8 + 1) := by
                first
                | exact nr_skip hnr c18
                | exact nr_first hnr (fi_v c23) (Decidable.not_not.mp c18)
                | exact nr_first hnr (fi_v c23) c18
                | exact nr_keep hnr c38
                | exact nr_new hnr (Decidable.not_not.mp c18) (Int32.not_le.mp c38)
                | exact nr_new hnr c18 (Int32.not_le.mp c38)
              exact ih4 (k + 1) (v8 + 1) (by omega) hv5_hnr (by omega) _ _ _ hP hD hS hl
            · refine lv_iload_n hx hb dX6_nearest_41 rfl (lv_at hl 0 rfl) ?_
              refine lv_istore_n (lv' := [(1, Value.int (nI k)), (2, Value.int (nI k)), (0, Value.ref (a 0))]) hx hb dX6_nearest_42 rfl hl (by decide) rfl (fun ls hl => ?_)
              refine lv_iinc (v := nI (k + 1)) (lv' := [(2, Value.int (nI (k + 1))), (1, Value.int (nI k)), (0, Value.ref (a 0))]) hx hb dX6_nearest_43 hl (k := 1) rfl (nI_add k 1) (by decide) rfl (fun ls hl => ?_)
              refine lv_goto (tgt := 4) hx hb dX6_nearest_46 (by decide) ?_
              have eq6_0 : nI k = fI (k + 1) := by
                rfl
              have hl := lv_sub hl [0, 1, 2] rfl
              have hl : lv_has ls 3 [(2, Value.int (nI (k + 1))), (1, Value.int (nI k)), (0, Value.ref (a 0))] := hl
              have hl : lv_has ls 3 [(2, Value.int (nI (k + 1))), (1, Value.int (fI (k + 1))), (0, Value.ref (a 0))] := lv_as hl (congrArg (fun z => [(2, Value.int (nI (k + 1))), (1, Value.int z), (0, Value.ref (a 0))]) eq6_0)
              have hv7_hnr : NrR msh mse (k + 1) (k + 1) := by
                first
                | exact nr_skip hnr c18
                | exact nr_first hnr (fi_v c23) (Decidable.not_not.mp c18)
                | exact nr_first hnr (fi_v c23) c18
                | exact nr_keep hnr c38
                | exact nr_new hnr (Decidable.not_not.mp c18) (Int32.not_le.mp c38)
                | exact nr_new hnr c18 (Int32.not_le.mp c38)
              exact ih4 (k + 1) (k + 1) (by omega) hv7_hnr (by omega) _ _ _ hP hD hS hl
  have eq8_0 : (0 : Int32) = nI 0 := by
    rfl
  have eq9_1 : (-1 : Int32) = fI 0 := by
    rfl
  have hl := lv_sub hl [0, 1, 2] rfl
  have hl : lv_has ls 3 [(2, Value.int (0 : Int32)), (1, Value.int (-1 : Int32)), (0, Value.ref (a 0))] := hl
  have hl : lv_has ls 3 [(2, Value.int (nI 0)), (1, Value.int (-1 : Int32)), (0, Value.ref (a 0))] := lv_as hl (congrArg (fun z => [(2, Value.int z), (1, Value.int (-1 : Int32)), (0, Value.ref (a 0))]) eq8_0)
  have hl : lv_has ls 3 [(2, Value.int (nI 0)), (1, Value.int (fI 0)), (0, Value.ref (a 0))] := lv_as hl (congrArg (fun z => [(2, Value.int (nI 0)), (1, Value.int z), (0, Value.ref (a 0))]) eq9_1)
  have hv10_hnr : NrR msh mse 0 0 := by
    exact Or.inl ⟨rfl, fun i hi => absurd hi (Nat.not_lt_zero _)⟩
  exact LP4 (mq - 0 + 1) 0 0 (by omega) hv10_hnr (Nat.lt_succ_self _) _ _ _ hP hD hS hl
