set_option maxHeartbeats 800000 in
set_option maxRecDepth 100000 in
theorem c_X6_meets (l : Launch) (D : va_G) (y : Nat → ClassId) (a : Nat → Nat) (mth : Int32) (t : Nat) (tb tf ts cap clr mov hom : Int32) (wm : Int64) (nw : Nat) (wf wt : Nat → Int32) (nb : Nat) (fr bw bl : Nat → Int32) (no : Nat) (od ow ol ork olf oco at_ aw : Nat → Int32) (mq : Nat) (mpl msh msl mwa mse : Nat → Int32) (cc : Int32) (wv : Int32) (hhs : HS mpl msl mq) (hroom : (∀ i, i < mq → mpl i ≠ cc) → mq < 720) : zP l D y yX6_meets cX6_meets 4 none 0 0 0 0 [Value.ref (a 0), Value.int cc, Value.int wv] (wM a y mth (nI t) tb tf ts cap clr mov hom wm (nI nw) wf wt (nI nb) fr bw bl (nI no) od ow ol ork olf oco at_ aw (nI mq) mpl msh msl mwa mse) (fun o9 w9 => ∃ (mpl9 : Nat → Int32) (msh9 : Nat → Int32) (msl9 : Nat → Int32) (mse9 : Nat → Int32) (mp9 : Nat), (MtR mpl msh msl mse mq cc wv mpl9 msh9 msl9 mse9 mp9) ∧ o9 = none ∧ w9 = wM a y mth (nI t) tb tf ts cap clr mov hom wm (nI nw) wf wt (nI nb) fr bw bl (nI no) od ow ol ork olf oco at_ aw (nI mp9) mpl9 msh9 msl9 mwa mse9) := by
  have hmq7 := hhs.2.2.2
  refine zP.of (by decide +kernel) (Nat.le_of_ble_eq_true rfl) ?_
  intro p e s m args below meth c A ls hx hb hr hta hown hlocks hml hin hN hK hP hD hS hA hl
  refine z_gen (fun G hG => ?_)
  have hl : lv_has ls 4 [(0, Value.ref (a 0)), (1, Value.int cc), (2, Value.int wv)] := hl
  refine lv_iload_n hx hb dX6_meets_0 rfl (lv_at hl 1 rfl) ?_
  refine lv_sipush (v := (7919 : Int32)) hx hb dX6_meets_1 (by decide) ?_
  refine lv_imul hx hb dX6_meets_4 ?_
  refine lv_sipush (v := (2048 : Int32)) hx hb dX6_meets_5 (by decide) ?_
  refine lv_irem hx hb dX6_meets_8 (by decide) ?_
  refine lv_istore_n (lv' := [(3, Value.int ((cc * (7919 : Int32)) - (cc * (7919 : Int32)) / (2048 : Int32) * (2048 : Int32))), (0, Value.ref (a 0)), (1, Value.int cc), (2, Value.int wv)]) hx hb dX6_meets_9 rfl hl (by decide) rfl (fun ls hl => ?_)
  refine lv_iload_n hx hb dX6_meets_10 rfl (lv_at hl 0 rfl) ?_
  refine lv_if_ge (tgt := 22) hx hb dX6_meets_11 (by decide) (fun c11 => ?_) (fun c11 => ?_)
  · refine lv_iload_n hx hb dX6_meets_22 rfl (lv_at hl 0 rfl) ?_
    obtain ⟨eh, hh⟩ := hs_ge c11
    refine zr_top (y := nI (slN cc 0)) (eh.trans (congrArg nI (show hsN cc = slN cc 0 by unfold slN; omega))) ?_
    refine lv_istore_n (lv' := [(3, Value.int (nI (slN cc 0))), (0, Value.ref (a 0)), (1, Value.int cc), (2, Value.int wv)]) hx hb dX6_meets_23 rfl hl (by decide) rfl (fun ls hl => ?_)
    have LP24 : ∀ (n : Nat) (d : Nat), (d < 2048) → (prb mpl msl mq cc (d)) → 2048 - d < n → ∀ (H : Heap) (locs : List Loc) (ls : Array Slot), va_P D vwCl (wM a y mth (nI t) tb tf ts cap clr mov hom wm (nI nw) wf wt (nI nb) fr bw bl (nI no) od ow ol ork olf oco at_ aw (nI mq) mpl msh msl mwa mse) H → va_D A (wM a y mth (nI t) tb tf ts cap clr mov hom wm (nI nw) wf wt (nI nb) fr bw bl (nI no) od ow ol ork olf oco at_ aw (nI mq) mpl msh msl mwa mse) → va_S A s.heap H locs → lv_has ls 4 [(3, Value.int (nI (slN cc d))), (0, Value.ref (a 0)), (1, Value.int cc), (2, Value.int wv)] → W p l e ({ frames := 0, cells := 0, slots := 0, locals := 0 } : Room) s m args below meth c H locs 0 0 G (F0 m 24 ls []) := by
      intro n
      induction n with
      | zero => intro d hd hpr hn; exact absurd hn (Nat.not_lt_zero _)
      | succ n ih24 =>
        intro d hd hpr hn H locs ls hP hD hS hl
        have hsl := sl_lt cc d
        refine lv_aload_n hx hb dX6_meets_24 rfl (lv_at hl 1 rfl) ?_
        refine gM6_slot hx hb hta hown hK hP wd_5_11 dX6_meets_25 ?_
        refine lv_iload_n hx hb dX6_meets_28 rfl (lv_at hl 0 rfl) ?_
        refine aM_msl hx hb hK hP (slN cc d) rfl (by omega) dX6_meets_29 ?_
        refine lv_if_le (tgt := 61) hx hb dX6_meets_30 (by decide) (fun c30 => ?_) (fun c30 => ?_)
        · have hz0 : msl (slN cc d) = 0 := slot_le hhs hsl c30
          refine lv_aload_n hx hb dX6_meets_61 rfl (lv_at hl 1 rfl) ?_
          refine gM6_slot hx hb hta hown hK hP wd_5_11 dX6_meets_62 ?_
          refine lv_iload_n hx hb dX6_meets_65 rfl (lv_at hl 0 rfl) ?_
          refine aM_msl hx hb hK hP (slN cc d) rfl (by omega) dX6_meets_66 ?_
          refine lv_if_ne (tgt := 123) hx hb dX6_meets_67 (by decide) (fun c67 => ?_) (fun c67 => ?_)
          · exact absurd hz0 c67
          · have hno := prb_none hhs hpr hz0
            have hmq := hroom hno
            refine lv_aload_n hx hb dX6_meets_70 rfl (lv_at hl 1 rfl) ?_
            refine gM6_place hx hb hta hown hK hP wd_5_9 dX6_meets_71 ?_
            refine lv_aload_n hx hb dX6_meets_74 rfl (lv_at hl 1 rfl) ?_
            refine gM6_places hx hb hta hown hK hP wd_32_21 dX6_meets_75 ?_
            refine lv_iload_n hx hb dX6_meets_78 rfl (lv_at hl 2 rfl) ?_
            refine sM_mpl hx hb hK hP hD hS mq rfl (by omega) dX6_meets_79 (fun H locs hP hD hS => ?_)
            refine lv_aload_n hx hb dX6_meets_80 rfl (lv_at hl 1 rfl) ?_
            refine gM6_shifted hx hb hta hown hK hP wd_5_10 dX6_meets_81 ?_
            refine lv_aload_n hx hb dX6_meets_84 rfl (lv_at hl 1 rfl) ?_
            refine gM6_places hx hb hta hown hK hP wd_32_21 dX6_meets_85 ?_
            refine lv_iload_n hx hb dX6_meets_88 rfl (lv_at hl 3 rfl) ?_
            refine sM_msh hx hb hK hP hD hS mq rfl (by omega) dX6_meets_89 (fun H locs hP hD hS => ?_)
            refine lv_aload_n hx hb dX6_meets_90 rfl (lv_at hl 1 rfl) ?_
            refine gM6_isSettled hx hb hta hown hK hP wd_5_13 dX6_meets_91 ?_
            refine lv_aload_n hx hb dX6_meets_94 rfl (lv_at hl 1 rfl) ?_
            refine gM6_places hx hb hta hown hK hP wd_32_21 dX6_meets_95 ?_
            refine lv_iconst (v := (0 : Int32)) hx hb dX6_meets_98 (by decide) ?_
            refine sM_mse hx hb hK hP hD hS mq rfl (by omega) (by decide) dX6_meets_99 (fun H locs hP hD hS => ?_)
            refine lv_aload_n hx hb dX6_meets_100 rfl (lv_at hl 1 rfl) ?_
            refine lv_dup hx hb dX6_meets_101 rfl ?_
            refine gM6_places hx hb hta hown hK hP wd_32_21 dX6_meets_102 ?_
            refine lv_iconst (v := (1 : Int32)) hx hb dX6_meets_105 (by decide) ?_
            refine lv_iadd hx hb dX6_meets_106 ?_
            refine zr_top (y := nI (mq + 1)) (nI_add mq 1) ?_
            refine pM6_places hx hb hta hown hK hP hD hS wd_32_21 dX6_meets_107 (fun H locs hP hD hS => ?_)
            refine lv_aload_n hx hb dX6_meets_110 rfl (lv_at hl 1 rfl) ?_
            refine gM6_slot hx hb hta hown hK hP wd_5_11 dX6_meets_111 ?_
            refine lv_iload_n hx hb dX6_meets_114 rfl (lv_at hl 0 rfl) ?_
            refine lv_aload_n hx hb dX6_meets_115 rfl (lv_at hl 1 rfl) ?_
            refine gM6_places hx hb hta hown hK hP wd_32_21 dX6_meets_116 ?_
            refine sM_msl hx hb hK hP hD hS (slN cc d) rfl (by omega) dX6_meets_119 (fun H locs hP hD hS => ?_)
            refine lv_goto (tgt := 154) hx hb dX6_meets_120 (by decide) ?_
            refine z_vret hG hx hb hr hlocks hP hD hS (Nat.le_of_ble_eq_true rfl) (Nat.le_of_ble_eq_true rfl) dX6_meets_154 ?_
            first
            | exact ⟨_, _, _, _, _, Or.inr ⟨hno, rfl, rfl, rfl, rfl, hs_new hhs hmq hpr hd hz0⟩, rfl, rfl⟩
            | exact ⟨_, _, _, _, _, Or.inl ⟨i, hi, c47, rfl, rfl, rfl, rfl, Or.inr ⟨Int32.not_lt.mpr c137, rfl⟩⟩, rfl, rfl⟩
            | exact ⟨_, _, _, _, _, Or.inl ⟨i, hi, c47, rfl, rfl, rfl, rfl, Or.inl ⟨Int32.not_le.mp c137, rfl⟩⟩, rfl, rfl⟩
        · refine lv_aload_n hx hb dX6_meets_33 rfl (lv_at hl 1 rfl) ?_
          refine gM6_place hx hb hta hown hK hP wd_5_9 dX6_meets_34 ?_
          refine lv_aload_n hx hb dX6_meets_37 rfl (lv_at hl 1 rfl) ?_
          refine gM6_slot hx hb hta hown hK hP wd_5_11 dX6_meets_38 ?_
          refine lv_iload_n hx hb dX6_meets_41 rfl (lv_at hl 0 rfl) ?_
          refine aM_msl hx hb hK hP (slN cc d) rfl (by omega) dX6_meets_42 ?_
          obtain ⟨i, hi, ei⟩ := slot_pos hhs hsl c30
          refine zr_top (y := nI (i + 1)) ei ?_
          refine lv_iconst (v := (1 : Int32)) hx hb dX6_meets_43 (by decide) ?_
          refine lv_isub hx hb dX6_meets_44 ?_
          refine zr_top (y := nI (i)) (nI_pred i) ?_
          refine aM_mpl hx hb hK hP i rfl (by omega) dX6_meets_45 ?_
          refine lv_iload_n hx hb dX6_meets_46 rfl (lv_at hl 2 rfl) ?_
          refine lv_icmp_eq (tgt := 61) hx hb dX6_meets_47 (by decide) (fun c47 => ?_) (fun c47 => ?_)
          · refine lv_aload_n hx hb dX6_meets_61 rfl (lv_at hl 1 rfl) ?_
            refine gM6_slot hx hb hta hown hK hP wd_5_11 dX6_meets_62 ?_
            refine lv_iload_n hx hb dX6_meets_65 rfl (lv_at hl 0 rfl) ?_
            refine aM_msl hx hb hK hP (slN cc d) rfl (by omega) dX6_meets_66 ?_
            refine lv_if_ne (tgt := 123) hx hb dX6_meets_67 (by decide) (fun c67 => ?_) (fun c67 => ?_)
            · refine lv_iload_n hx hb dX6_meets_123 rfl (lv_at hl 3 rfl) ?_
              refine lv_aload_n hx hb dX6_meets_124 rfl (lv_at hl 1 rfl) ?_
              refine gM6_shifted hx hb hta hown hK hP wd_5_10 dX6_meets_125 ?_
              refine lv_aload_n hx hb dX6_meets_128 rfl (lv_at hl 1 rfl) ?_
              refine gM6_slot hx hb hta hown hK hP wd_5_11 dX6_meets_129 ?_
              refine lv_iload_n hx hb dX6_meets_132 rfl (lv_at hl 0 rfl) ?_
              refine aM_msl hx hb hK hP (slN cc d) rfl (by omega) dX6_meets_133 ?_
              refine zr_top (y := nI (i + 1)) ei ?_
              refine lv_iconst (v := (1 : Int32)) hx hb dX6_meets_134 (by decide) ?_
              refine lv_isub hx hb dX6_meets_135 ?_
              refine zr_top (y := nI (i)) (nI_pred i) ?_
              refine aM_msh hx hb hK hP i rfl (by omega) dX6_meets_136 ?_
              refine lv_icmp_ge (tgt := 154) hx hb dX6_meets_137 (by decide) (fun c137 => ?_) (fun c137 => ?_)
              · refine z_vret hG hx hb hr hlocks hP hD hS (Nat.le_of_ble_eq_true rfl) (Nat.le_of_ble_eq_true rfl) dX6_meets_154 ?_
                first
                | exact ⟨_, _, _, _, _, Or.inr ⟨hno, rfl, rfl, rfl, rfl, hs_new hhs hmq hpr hd hz0⟩, rfl, rfl⟩
                | exact ⟨_, _, _, _, _, Or.inl ⟨i, hi, c47, rfl, rfl, rfl, rfl, Or.inr ⟨Int32.not_lt.mpr c137, rfl⟩⟩, rfl, rfl⟩
                | exact ⟨_, _, _, _, _, Or.inl ⟨i, hi, c47, rfl, rfl, rfl, rfl, Or.inl ⟨Int32.not_le.mp c137, rfl⟩⟩, rfl, rfl⟩
              · refine lv_aload_n hx hb dX6_meets_140 rfl (lv_at hl 1 rfl) ?_
                refine gM6_shifted hx hb hta hown hK hP wd_5_10 dX6_meets_141 ?_
                refine lv_aload_n hx hb dX6_meets_144 rfl (lv_at hl 1 rfl) ?_
                refine gM6_slot hx hb hta hown hK hP wd_5_11 dX6_meets_145 ?_
                refine lv_iload_n hx hb dX6_meets_148 rfl (lv_at hl 0 rfl) ?_
                refine aM_msl hx hb hK hP (slN cc d) rfl (by omega) dX6_meets_149 ?_
                refine zr_top (y := nI (i + 1)) ei ?_
                refine lv_iconst (v := (1 : Int32)) hx hb dX6_meets_150 (by decide) ?_
                refine lv_isub hx hb dX6_meets_151 ?_
                refine zr_top (y := nI (i)) (nI_pred i) ?_
                refine lv_iload_n hx hb dX6_meets_152 rfl (lv_at hl 3 rfl) ?_
                refine sM_msh hx hb hK hP hD hS i rfl (by omega) dX6_meets_153 (fun H locs hP hD hS => ?_)
                refine z_vret hG hx hb hr hlocks hP hD hS (Nat.le_of_ble_eq_true rfl) (Nat.le_of_ble_eq_true rfl) dX6_meets_154 ?_
                first
                | exact ⟨_, _, _, _, _, Or.inr ⟨hno, rfl, rfl, rfl, rfl, hs_new hhs hmq hpr hd hz0⟩, rfl, rfl⟩
                | exact ⟨_, _, _, _, _, Or.inl ⟨i, hi, c47, rfl, rfl, rfl, rfl, Or.inr ⟨Int32.not_lt.mpr c137, rfl⟩⟩, rfl, rfl⟩
                | exact ⟨_, _, _, _, _, Or.inl ⟨i, hi, c47, rfl, rfl, rfl, rfl, Or.inl ⟨Int32.not_le.mp c137, rfl⟩⟩, rfl, rfl⟩
            · exact absurd (ei.symm.trans c67) (nI_s0 (by omega))
          · refine lv_iload_n hx hb dX6_meets_50 rfl (lv_at hl 0 rfl) ?_
            refine lv_iconst (v := (1 : Int32)) hx hb dX6_meets_51 (by decide) ?_
            refine lv_iadd hx hb dX6_meets_52 ?_
            refine zr_top (y := nI ((slN cc d) + 1)) (nI_add (slN cc d) 1) ?_
            refine lv_sipush (v := (2048 : Int32)) hx hb dX6_meets_53 (by decide) ?_
            refine lv_irem hx hb dX6_meets_56 (by decide) ?_
            have hpr9 : prb mpl msl mq cc (d + 1) := all_step hpr ⟨i, hi, ei, c47⟩
            refine zr_top (y := nI (slN cc (d + 1))) ((pk_rem (by omega) (by decide) (by decide)).trans (congrArg nI (show (slN cc d + 1) % 2048 = slN cc (d + 1) by unfold slN; omega))) ?_
            refine lv_istore_n (lv' := [(3, Value.int (nI (slN cc (d + 1)))), (0, Value.ref (a 0)), (1, Value.int cc), (2, Value.int wv)]) hx hb dX6_meets_57 rfl hl (by decide) rfl (fun ls hl => ?_)
            refine lv_goto (tgt := 24) hx hb dX6_meets_58 (by decide) ?_
            have eq1_0 : nI (slN cc (d + 1)) = nI (slN cc ((d + 1))) := by
              rfl
            have hl := lv_sub hl [0, 1, 2, 3] rfl
            have hl : lv_has ls 4 [(3, Value.int (nI (slN cc (d + 1)))), (0, Value.ref (a 0)), (1, Value.int cc), (2, Value.int wv)] := hl
            have hl : lv_has ls 4 [(3, Value.int (nI (slN cc ((d + 1))))), (0, Value.ref (a 0)), (1, Value.int cc), (2, Value.int wv)] := lv_as hl (congrArg (fun z => [(3, Value.int z), (0, Value.ref (a 0)), (1, Value.int cc), (2, Value.int wv)]) eq1_0)
            have hv2_hd : (d + 1) < 2048 := by
              exact prb_lt hhs hpr9 (by omega)
            have hv3_hpr : prb mpl msl mq cc ((d + 1)) := by
              exact hpr9
            exact ih24 (d + 1) hv2_hd hv3_hpr (by omega) _ _ _ hP hD hS hl
    have hl := lv_sub hl [0, 1, 2, 3] rfl
    have hv4_hpr : prb mpl msl mq cc (0) := by
      exact fun e he => absurd he (Nat.not_lt_zero _)
    exact LP24 (2048 - 0 + 1) 0 (by omega) hv4_hpr (Nat.lt_succ_self _) _ _ _ hP hD hS hl
  · refine lv_iload_n hx hb dX6_meets_14 rfl (lv_at hl 0 rfl) ?_
    refine lv_sipush (v := (2048 : Int32)) hx hb dX6_meets_15 (by decide) ?_
    refine lv_iadd hx hb dX6_meets_18 ?_
    refine lv_goto (tgt := 23) hx hb dX6_meets_19 (by decide) ?_
    obtain ⟨eh, hh⟩ := hs_lt c11
    refine zr_top (y := nI (slN cc 0)) (eh.trans (congrArg nI (show hsN cc = slN cc 0 by unfold slN; omega))) ?_
    refine lv_istore_n (lv' := [(3, Value.int (nI (slN cc 0))), (0, Value.ref (a 0)), (1, Value.int cc), (2, Value.int wv)]) hx hb dX6_meets_23 rfl hl (by decide) rfl (fun ls hl => ?_)
    have LP24 : ∀ (n : Nat) (d : Nat), (d < 2048) → (prb mpl msl mq cc (d)) → 2048 - d < n → ∀ (H : Heap) (locs : List Loc) (ls : Array Slot), va_P D vwCl (wM a y mth (nI t) tb tf ts cap clr mov hom wm (nI nw) wf wt (nI nb) fr bw bl (nI no) od ow ol ork olf oco at_ aw (nI mq) mpl msh msl mwa mse) H → va_D A (wM a y mth (nI t) tb tf ts cap clr mov hom wm (nI nw) wf wt (nI nb) fr bw bl (nI no) od ow ol ork olf oco at_ aw (nI mq) mpl msh msl mwa mse) → va_S A s.heap H locs → lv_has ls 4 [(3, Value.int (nI (slN cc d))), (0, Value.ref (a 0)), (1, Value.int cc), (2, Value.int wv)] → W p l e ({ frames := 0, cells := 0, slots := 0, locals := 0 } : Room) s m args below meth c H locs 0 0 G (F0 m 24 ls []) := by
      intro n
      induction n with
      | zero => intro d hd hpr hn; exact absurd hn (Nat.not_lt_zero _)
      | succ n ih24 =>
        intro d hd hpr hn H locs ls hP hD hS hl
        have hsl := sl_lt cc d
        refine lv_aload_n hx hb dX6_meets_24 rfl (lv_at hl 1 rfl) ?_
        refine gM6_slot hx hb hta hown hK hP wd_5_11 dX6_meets_25 ?_
        refine lv_iload_n hx hb dX6_meets_28 rfl (lv_at hl 0 rfl) ?_
        refine aM_msl hx hb hK hP (slN cc d) rfl (by omega) dX6_meets_29 ?_
        refine lv_if_le (tgt := 61) hx hb dX6_meets_30 (by decide) (fun c30 => ?_) (fun c30 => ?_)
        · have hz0 : msl (slN cc d) = 0 := slot_le hhs hsl c30
          refine lv_aload_n hx hb dX6_meets_61 rfl (lv_at hl 1 rfl) ?_
          refine gM6_slot hx hb hta hown hK hP wd_5_11 dX6_meets_62 ?_
          refine lv_iload_n hx hb dX6_meets_65 rfl (lv_at hl 0 rfl) ?_
          refine aM_msl hx hb hK hP (slN cc d) rfl (by omega) dX6_meets_66 ?_
          refine lv_if_ne (tgt := 123) hx hb dX6_meets_67 (by decide) (fun c67 => ?_) (fun c67 => ?_)
          · exact absurd hz0 c67
          · have hno := prb_none hhs hpr hz0
            have hmq := hroom hno
            refine lv_aload_n hx hb dX6_meets_70 rfl (lv_at hl 1 rfl) ?_
            refine gM6_place hx hb hta hown hK hP wd_5_9 dX6_meets_71 ?_
            refine lv_aload_n hx hb dX6_meets_74 rfl (lv_at hl 1 rfl) ?_
            refine gM6_places hx hb hta hown hK hP wd_32_21 dX6_meets_75 ?_
            refine lv_iload_n hx hb dX6_meets_78 rfl (lv_at hl 2 rfl) ?_
            refine sM_mpl hx hb hK hP hD hS mq rfl (by omega) dX6_meets_79 (fun H locs hP hD hS => ?_)
            refine lv_aload_n hx hb dX6_meets_80 rfl (lv_at hl 1 rfl) ?_
            refine gM6_shifted hx hb hta hown hK hP wd_5_10 dX6_meets_81 ?_
            refine lv_aload_n hx hb dX6_meets_84 rfl (lv_at hl 1 rfl) ?_
            refine gM6_places hx hb hta hown hK hP wd_32_21 dX6_meets_85 ?_
            refine lv_iload_n hx hb dX6_meets_88 rfl (lv_at hl 3 rfl) ?_
            refine sM_msh hx hb hK hP hD hS mq rfl (by omega) dX6_meets_89 (fun H locs hP hD hS => ?_)
            refine lv_aload_n hx hb dX6_meets_90 rfl (lv_at hl 1 rfl) ?_
            refine gM6_isSettled hx hb hta hown hK hP wd_5_13 dX6_meets_91 ?_
            refine lv_aload_n hx hb dX6_meets_94 rfl (lv_at hl 1 rfl) ?_
            refine gM6_places hx hb hta hown hK hP wd_32_21 dX6_meets_95 ?_
            refine lv_iconst (v := (0 : Int32)) hx hb dX6_meets_98 (by decide) ?_
            refine sM_mse hx hb hK hP hD hS mq rfl (by omega) (by decide) dX6_meets_99 (fun H locs hP hD hS => ?_)
            refine lv_aload_n hx hb dX6_meets_100 rfl (lv_at hl 1 rfl) ?_
            refine lv_dup hx hb dX6_meets_101 rfl ?_
            refine gM6_places hx hb hta hown hK hP wd_32_21 dX6_meets_102 ?_
            refine lv_iconst (v := (1 : Int32)) hx hb dX6_meets_105 (by decide) ?_
            refine lv_iadd hx hb dX6_meets_106 ?_
            refine zr_top (y := nI (mq + 1)) (nI_add mq 1) ?_
            refine pM6_places hx hb hta hown hK hP hD hS wd_32_21 dX6_meets_107 (fun H locs hP hD hS => ?_)
            refine lv_aload_n hx hb dX6_meets_110 rfl (lv_at hl 1 rfl) ?_
            refine gM6_slot hx hb hta hown hK hP wd_5_11 dX6_meets_111 ?_
            refine lv_iload_n hx hb dX6_meets_114 rfl (lv_at hl 0 rfl) ?_
            refine lv_aload_n hx hb dX6_meets_115 rfl (lv_at hl 1 rfl) ?_
            refine gM6_places hx hb hta hown hK hP wd_32_21 dX6_meets_116 ?_
            refine sM_msl hx hb hK hP hD hS (slN cc d) rfl (by omega) dX6_meets_119 (fun H locs hP hD hS => ?_)
            refine lv_goto (tgt := 154) hx hb dX6_meets_120 (by decide) ?_
            refine z_vret hG hx hb hr hlocks hP hD hS (Nat.le_of_ble_eq_true rfl) (Nat.le_of_ble_eq_true rfl) dX6_meets_154 ?_
            first
            | exact ⟨_, _, _, _, _, Or.inr ⟨hno, rfl, rfl, rfl, rfl, hs_new hhs hmq hpr hd hz0⟩, rfl, rfl⟩
            | exact ⟨_, _, _, _, _, Or.inl ⟨i, hi, c47, rfl, rfl, rfl, rfl, Or.inr ⟨Int32.not_lt.mpr c137, rfl⟩⟩, rfl, rfl⟩
            | exact ⟨_, _, _, _, _, Or.inl ⟨i, hi, c47, rfl, rfl, rfl, rfl, Or.inl ⟨Int32.not_le.mp c137, rfl⟩⟩, rfl, rfl⟩
        · refine lv_aload_n hx hb dX6_meets_33 rfl (lv_at hl 1 rfl) ?_
          refine gM6_place hx hb hta hown hK hP wd_5_9 dX6_meets_34 ?_
          refine lv_aload_n hx hb dX6_meets_37 rfl (lv_at hl 1 rfl) ?_
          refine gM6_slot hx hb hta hown hK hP wd_5_11 dX6_meets_38 ?_
          refine lv_iload_n hx hb dX6_meets_41 rfl (lv_at hl 0 rfl) ?_
          refine aM_msl hx hb hK hP (slN cc d) rfl (by omega) dX6_meets_42 ?_
          obtain ⟨i, hi, ei⟩ := slot_pos hhs hsl c30
          refine zr_top (y := nI (i + 1)) ei ?_
          refine lv_iconst (v := (1 : Int32)) hx hb dX6_meets_43 (by decide) ?_
          refine lv_isub hx hb dX6_meets_44 ?_
          refine zr_top (y := nI (i)) (nI_pred i) ?_
          refine aM_mpl hx hb hK hP i rfl (by omega) dX6_meets_45 ?_
          refine lv_iload_n hx hb dX6_meets_46 rfl (lv_at hl 2 rfl) ?_
          refine lv_icmp_eq (tgt := 61) hx hb dX6_meets_47 (by decide) (fun c47 => ?_) (fun c47 => ?_)
          · refine lv_aload_n hx hb dX6_meets_61 rfl (lv_at hl 1 rfl) ?_
            refine gM6_slot hx hb hta hown hK hP wd_5_11 dX6_meets_62 ?_
            refine lv_iload_n hx hb dX6_meets_65 rfl (lv_at hl 0 rfl) ?_
            refine aM_msl hx hb hK hP (slN cc d) rfl (by omega) dX6_meets_66 ?_
            refine lv_if_ne (tgt := 123) hx hb dX6_meets_67 (by decide) (fun c67 => ?_) (fun c67 => ?_)
            · refine lv_iload_n hx hb dX6_meets_123 rfl (lv_at hl 3 rfl) ?_
              refine lv_aload_n hx hb dX6_meets_124 rfl (lv_at hl 1 rfl) ?_
              refine gM6_shifted hx hb hta hown hK hP wd_5_10 dX6_meets_125 ?_
              refine lv_aload_n hx hb dX6_meets_128 rfl (lv_at hl 1 rfl) ?_
              refine gM6_slot hx hb hta hown hK hP wd_5_11 dX6_meets_129 ?_
              refine lv_iload_n hx hb dX6_meets_132 rfl (lv_at hl 0 rfl) ?_
              refine aM_msl hx hb hK hP (slN cc d) rfl (by omega) dX6_meets_133 ?_
              refine zr_top (y := nI (i + 1)) ei ?_
              refine lv_iconst (v := (1 : Int32)) hx hb dX6_meets_134 (by decide) ?_
              refine lv_isub hx hb dX6_meets_135 ?_
              refine zr_top (y := nI (i)) (nI_pred i) ?_
              refine aM_msh hx hb hK hP i rfl (by omega) dX6_meets_136 ?_
              refine lv_icmp_ge (tgt := 154) hx hb dX6_meets_137 (by decide) (fun c137 => ?_) (fun c137 => ?_)
              · refine z_vret hG hx hb hr hlocks hP hD hS (Nat.le_of_ble_eq_true rfl) (Nat.le_of_ble_eq_true rfl) dX6_meets_154 ?_
                first
                | exact ⟨_, _, _, _, _, Or.inr ⟨hno, rfl, rfl, rfl, rfl, hs_new hhs hmq hpr hd hz0⟩, rfl, rfl⟩
                | exact ⟨_, _, _, _, _, Or.inl ⟨i, hi, c47, rfl, rfl, rfl, rfl, Or.inr ⟨Int32.not_lt.mpr c137, rfl⟩⟩, rfl, rfl⟩
                | exact ⟨_, _, _, _, _, Or.inl ⟨i, hi, c47, rfl, rfl, rfl, rfl, Or.inl ⟨Int32.not_le.mp c137, rfl⟩⟩, rfl, rfl⟩
              · refine lv_aload_n hx hb dX6_meets_140 rfl (lv_at hl 1 rfl) ?_
                refine gM6_shifted hx hb hta hown hK hP wd_5_10 dX6_meets_141 ?_
                refine lv_aload_n hx hb dX6_meets_144 rfl (lv_at hl 1 rfl) ?_
                refine gM6_slot hx hb hta hown hK hP wd_5_11 dX6_meets_145 ?_
                refine lv_iload_n hx hb dX6_meets_148 rfl (lv_at hl 0 rfl) ?_
                refine aM_msl hx hb hK hP (slN cc d) rfl (by omega) dX6_meets_149 ?_
                refine zr_top (y := nI (i + 1)) ei ?_
                refine lv_iconst (v := (1 : Int32)) hx hb dX6_meets_150 (by decide) ?_
                refine lv_isub hx hb dX6_meets_151 ?_
                refine zr_top (y := nI (i)) (nI_pred i) ?_
                refine lv_iload_n hx hb dX6_meets_152 rfl (lv_at hl 3 rfl) ?_
                refine sM_msh hx hb hK hP hD hS i rfl (by omega) dX6_meets_153 (fun H locs hP hD hS => ?_)
                refine z_vret hG hx hb hr hlocks hP hD hS (Nat.le_of_ble_eq_true rfl) (Nat.le_of_ble_eq_true rfl) dX6_meets_154 ?_
                first
                | exact ⟨_, _, _, _, _, Or.inr ⟨hno, rfl, rfl, rfl, rfl, hs_new hhs hmq hpr hd hz0⟩, rfl, rfl⟩
                | exact ⟨_, _, _, _, _, Or.inl ⟨i, hi, c47, rfl, rfl, rfl, rfl, Or.inr ⟨Int32.not_lt.mpr c137, rfl⟩⟩, rfl, rfl⟩
                | exact ⟨_, _, _, _, _, Or.inl ⟨i, hi, c47, rfl, rfl, rfl, rfl, Or.inl ⟨Int32.not_le.mp c137, rfl⟩⟩, rfl, rfl⟩
            · exact absurd (ei.symm.trans c67) (nI_s0 (by omega))
          · refine lv_iload_n hx hb dX6_meets_50 rfl (lv_at hl 0 rfl) ?_
            refine lv_iconst (v := (1 : Int32)) hx hb dX6_meets_51 (by decide) ?_
            refine lv_iadd hx hb dX6_meets_52 ?_
            refine zr_top (y := nI ((slN cc d) + 1)) (nI_add (slN cc d) 1) ?_
            refine lv_sipush (v := (2048 : Int32)) hx hb dX6_meets_53 (by decide) ?_
            refine lv_irem hx hb dX6_meets_56 (by decide) ?_
            have hpr9 : prb mpl msl mq cc (d + 1) := all_step hpr ⟨i, hi, ei, c47⟩
            refine zr_top (y := nI (slN cc (d + 1))) ((pk_rem (by omega) (by decide) (by decide)).trans (congrArg nI (show (slN cc d + 1) % 2048 = slN cc (d + 1) by unfold slN; omega))) ?_
            refine lv_istore_n (lv' := [(3, Value.int (nI (slN cc (d + 1)))), (0, Value.ref (a 0)), (1, Value.int cc), (2, Value.int wv)]) hx hb dX6_meets_57 rfl hl (by decide) rfl (fun ls hl => ?_)
            refine lv_goto (tgt := 24) hx hb dX6_meets_58 (by decide) ?_
            have eq5_0 : nI (slN cc (d + 1)) = nI (slN cc ((d + 1))) := by
              rfl
            have hl := lv_sub hl [0, 1, 2, 3] rfl
            have hl : lv_has ls 4 [(3, Value.int (nI (slN cc (d + 1)))), (0, Value.ref (a 0)), (1, Value.int cc), (2, Value.int wv)] := hl
            have hl : lv_has ls 4 [(3, Value.int (nI (slN cc ((d + 1))))), (0, Value.ref (a 0)), (1, Value.int cc), (2, Value.int wv)] := lv_as hl (congrArg (fun z => [(3, Value.int z), (0, Value.ref (a 0)), (1, Value.int cc), (2, Value.int wv)]) eq5_0)
            have hv6_hd : (d + 1) < 2048 := by
              exact prb_lt hhs hpr9 (by omega)
            have hv7_hpr : prb mpl msl mq cc ((d + 1)) := by
              exact hpr9
            exact ih24 (d + 1) hv6_hd hv7_hpr (by omega) _ _ _ hP hD hS hl
    have hl := lv_sub hl [0, 1, 2, 3] rfl
    have hv8_hpr : prb mpl msl mq cc (0) := by
      exact fun e he => absurd he (Nat.not_lt_zero _)
    exact LP24 (2048 - 0 + 1) 0 (by omega) hv8_hpr (Nat.lt_succ_self _) _ _ _ hP hD hS hl
