set_option maxHeartbeats 800000 in
set_option maxRecDepth 100000 in
theorem c_X6_leastFor (l : Launch) (D : va_G) (y : Nat → ClassId) (a : Nat → Nat) (mth : Int32) (t : Nat) (tb tf ts cap clr mov hom : Int32) (wm : Int64) (nw : Nat) (wf wt : Nat → Int32) (nb : Nat) (fr bw bl : Nat → Int32) (no : Nat) (od ow ol ork olf oco at_ aw : Nat → Int32) (mp : Int32) (mpl msh msl mwa mse : Nat → Int32) (j : Nat) (Wf : Nat → Nat) (Ed : (Nat → Int32) → Nat → Nat → Prop) (Cl : (Nat → Int32) → Prop) (v : Int32) (hb8 : no ≤ 8) (hb6 : nb ≤ 6) (hfr : ∀ k, k < nb → fr k = -1 ∨ ∃ j, j < k ∧ fr k = nI j) (hj : j < no) (hE : Eok nb no Ed) (h0 : Va nb no at_) (hW : Wok no ow Wf) (hEd : EdM nb no cap olf fr ow ol bw bl Ed) (hCl : ClM nb no fr j Cl) (hajn : at_ j ≠ -1) (hv : Lst no Wf Ed at_ Cl v) : zP l D y yX6_leastFor cX6_leastFor 5 (some .int) 4 0 0 93 [Value.ref (a 0), Value.int (nI j)] (wM a y mth (nI t) tb tf ts cap clr mov hom wm (nI nw) wf wt (nI nb) fr bw bl (nI no) od ow ol ork olf oco at_ aw mp mpl msh msl mwa mse) (fun o9 w9 => ∃ (mpl9 : Nat → Int32) (msh9 : Nat → Int32) (msl9 : Nat → Int32) (mse9 : Nat → Int32) (mq9 : Nat) (mwa9 : Nat → Int32), (True) ∧ o9 = some (Value.int v) ∧ w9 = wM a y mth (nI t) tb tf ts cap clr mov hom wm (nI nw) wf wt (nI nb) fr bw bl (nI no) od ow ol ork olf oco at_ aw (nI mq9) mpl9 msh9 msl9 mwa9 mse9) := by
  refine zP.of (by decide +kernel) (Nat.le_of_ble_eq_true rfl) ?_
  intro p e s m args below meth c A ls hx hb hr hta hown hlocks hml hin hN hK hP hD hS hA hl
  refine z_gen (fun G hG => ?_)
  have hl : lv_has ls 5 [(0, Value.ref (a 0)), (1, Value.int (nI j))] := hl
  refine lv_aload_n hx hb dX6_leastFor_0 rfl (lv_at hl 0 rfl) ?_
  refine lv_iconst (v := (0 : Int32)) hx hb dX6_leastFor_1 (by decide) ?_
  refine zr_top (y := nI (0)) (rfl) ?_
  refine pM6_places hx hb hta hown hK hP hD hS wd_32_21 dX6_leastFor_2 (fun H locs hP hD hS => ?_)
  refine lv_iconst (v := (0 : Int32)) hx hb dX6_leastFor_5 (by decide) ?_
  refine lv_istore_n (lv' := [(2, Value.int (0 : Int32)), (0, Value.ref (a 0)), (1, Value.int (nI j))]) hx hb dX6_leastFor_6 rfl hl (by decide) rfl (fun ls hl => ?_)
  have LP7 : ∀ (n : Nat) (k : Nat), (k ≤ 2048) → 2048 - k < n → ∀ (H : Heap) (locs : List Loc) (ls : Array Slot), va_P D vwCl (wM a y mth (nI t) tb tf ts cap clr mov hom wm (nI nw) wf wt (nI nb) fr bw bl (nI no) od ow ol ork olf oco at_ aw (nI 0) mpl msh (fun i => if i < k then 0 else msl i) mwa mse) H → va_D A (wM a y mth (nI t) tb tf ts cap clr mov hom wm (nI nw) wf wt (nI nb) fr bw bl (nI no) od ow ol ork olf oco at_ aw (nI 0) mpl msh (fun i => if i < k then 0 else msl i) mwa mse) → va_S A s.heap H locs → lv_has ls 5 [(2, Value.int (nI k)), (0, Value.ref (a 0)), (1, Value.int (nI j))] → W p l e ({ frames := 4, cells := 0, slots := 0, locals := 93 } : Room) s m args below meth c H locs 0 0 G (F0 m 7 ls []) := by
    intro n
    induction n with
    | zero => intro k hk hn; exact absurd hn (Nat.not_lt_zero _)
    | succ n ih7 =>
      intro k hk hn H locs ls hP hD hS hl
      refine lv_iload_n hx hb dX6_leastFor_7 rfl (lv_at hl 0 rfl) ?_
      refine lv_sipush (v := (2048 : Int32)) hx hb dX6_leastFor_8 (by decide) ?_
      refine lv_icmp_ge (tgt := 27) hx hb dX6_leastFor_11 (by decide) (fun c11 => ?_) (fun c11 => ?_)
      · have c11 : 2048 ≤ k := (nI_leI (a := 2048) (b := k) (by omega) (by omega)).mp c11
        obtain rfl : k = 2048 := by omega
        refine lv_iconst (v := (0 : Int32)) hx hb dX6_leastFor_27 (by decide) ?_
        refine lv_istore_n (lv' := [(2, Value.int (0 : Int32)), (0, Value.ref (a 0)), (1, Value.int (nI j))]) hx hb dX6_leastFor_28 rfl hl (by decide) rfl (fun ls hl => ?_)
        have LP29 : ∀ (n : Nat) (k2 : Nat), (k2 ≤ no) → no - k2 < n → ∀ (H : Heap) (locs : List Loc) (ls : Array Slot), va_P D vwCl (wM a y mth (nI t) tb tf ts cap clr mov hom wm (nI nw) wf wt (nI nb) fr bw bl (nI no) od ow ol ork olf oco at_ aw (nI 0) mpl msh (fun i => if i < 2048 then 0 else msl i) (fun i => if i < k2 then at_ i else mwa i) mse) H → va_D A (wM a y mth (nI t) tb tf ts cap clr mov hom wm (nI nw) wf wt (nI nb) fr bw bl (nI no) od ow ol ork olf oco at_ aw (nI 0) mpl msh (fun i => if i < 2048 then 0 else msl i) (fun i => if i < k2 then at_ i else mwa i) mse) → va_S A s.heap H locs → lv_has ls 5 [(2, Value.int (nI k2)), (0, Value.ref (a 0)), (1, Value.int (nI j))] → W p l e ({ frames := 4, cells := 0, slots := 0, locals := 93 } : Room) s m args below meth c H locs 0 0 G (F0 m 29 ls []) := by
          intro n
          induction n with
          | zero => intro k2 hk2 hn; exact absurd hn (Nat.not_lt_zero _)
          | succ n ih29 =>
            intro k2 hk2 hn H locs ls hP hD hS hl
            refine lv_iload_n hx hb dX6_leastFor_29 rfl (lv_at hl 0 rfl) ?_
            refine lv_aload_n hx hb dX6_leastFor_30 rfl (lv_at hl 1 rfl) ?_
            refine gM6_boats hx hb hta hown hK hP wd_8_13 dX6_leastFor_31 ?_
            refine lv_icmp_ge (tgt := 55) hx hb dX6_leastFor_34 (by decide) (fun c34 => ?_) (fun c34 => ?_)
            · have c34 : no ≤ k2 := (nI_leI (a := no) (b := k2) (by omega) (by omega)).mp c34
              obtain rfl : no = k2 := by omega
              refine lv_aload_n hx hb dX6_leastFor_55 rfl (lv_at hl 1 rfl) ?_
              refine lv_aload_n hx hb dX6_leastFor_56 rfl (lv_at hl 1 rfl) ?_
              refine z_callV (As := []) (rest := [Value.ref (a 0)]) hx hb hml hown hta zm_X6_codeNow wd_32_22 (c_X6_codeNow l D y a mth t tb tf ts cap clr mov hom wm nw wf wt nb fr bw bl no od ow ol ork olf oco at_ aw (nI 0) mpl msh (fun i => if i < 2048 then 0 else msl i) (fun i => if i < no then at_ i else mwa i) mse (by omega) (by omega)) hN hK hP hD hS hA 0 rfl rfl rfl hl rfl (Nat.le_of_ble_eq_true rfl) ⟨Nat.le_of_ble_eq_true rfl, Nat.le_of_ble_eq_true rfl⟩ ⟨Nat.le_of_ble_eq_true rfl, Nat.le_of_ble_eq_true rfl⟩ dX6_leastFor_57 (fun v w' H locs hq hP hD hS => ?_)
              obtain ⟨rfl, rfl⟩ := hq
              refine lv_iconst (v := (0 : Int32)) hx hb dX6_leastFor_60 (by decide) ?_
              refine z_callV (As := [Value.int (nI (cdN at_ nb no 6)), Value.int (0 : Int32)]) (rest := []) hx hb hml hown hta zm_X6_meets wd_33_2 (c_X6_meets l D y a mth t tb tf ts cap clr mov hom wm nw wf wt nb fr bw bl no od ow ol ork olf oco at_ aw 0 mpl msh (fun i => if i < 2048 then 0 else msl i) (fun i => if i < no then at_ i else mwa i) mse (nI (cdN at_ nb no 6)) (0 : Int32) (hs_empty _ _) (fun _ => by omega)) hN hK hP hD hS hA 0 rfl rfl rfl hl rfl (Nat.le_of_ble_eq_true rfl) ⟨Nat.le_of_ble_eq_true rfl, Nat.le_of_ble_eq_true rfl⟩ ⟨Nat.le_of_ble_eq_true rfl, Nat.le_of_ble_eq_true rfl⟩ dX6_leastFor_61 (fun v w' H locs hq hP hD hS => ?_)
              obtain ⟨mpl9_2, msh9_2, msl9_2, mse9_2, mp9_2, hq2, rfl, rfl⟩ := hq
              refine lv_iconst (v := (-1 : Int32)) hx hb dX6_leastFor_64 (by decide) ?_
              refine lv_istore_n (lv' := [(2, Value.int (-1 : Int32)), (0, Value.ref (a 0)), (1, Value.int (nI j))]) hx hb dX6_leastFor_65 rfl hl (by decide) rfl (fun ls hl => ?_)
              refine lv_aload_n hx hb dX6_leastFor_66 rfl (lv_at hl 1 rfl) ?_
              refine z_callV (As := []) (rest := []) hx hb hml hown hta zm_X6_nearest wd_33_6 (c_X6_nearest l D y a mth t tb tf ts cap clr mov hom wm nw wf wt nb fr bw bl no od ow ol ork olf oco at_ aw mp9_2 mpl9_2 msh9_2 msl9_2 (fun i => if i < no then at_ i else mwa i) mse9_2 (by have := (rd_start (W := Wf) (E := Ed) (Cl := Cl) hq2).1.1; exact rs_720 hE (by omega) hb8 h0 this)) hN hK hP hD hS hA 0 rfl rfl rfl hl rfl (Nat.le_of_ble_eq_true rfl) ⟨Nat.le_of_ble_eq_true rfl, Nat.le_of_ble_eq_true rfl⟩ ⟨Nat.le_of_ble_eq_true rfl, Nat.le_of_ble_eq_true rfl⟩ dX6_leastFor_67 (fun v w' H locs hq hP hD hS => ?_)
              obtain ⟨v9_3, hq3, rfl, rfl⟩ := hq
              refine lv_istore_n (lv' := [(3, Value.int (fI v9_3)), (2, Value.int (-1 : Int32)), (0, Value.ref (a 0)), (1, Value.int (nI j))]) hx hb dX6_leastFor_70 rfl hl (by decide) rfl (fun ls hl => ?_)
              have LP71 : ∀ (n : Nat) (tk : Nat) (b1 : Int32) (v1 : Nat) (at1 : Nat → Int32) (mpl1 : Nat → Int32) (msh1 : Nat → Int32) (msl1 : Nat → Int32) (mse1 : Nat → Int32) (mq1 : Nat), ((b1 = -1 ∧ RD nb no Wf Ed at_ Cl tk mpl1 msh1 mse1 mq1 ∧ HS mpl1 msl1 mq1 ∧ NrR msh1 mse1 mq1 v1) ∨ (b1 = v ∧ ¬ b1 = -1)) → (∀ i, no ≤ i → at1 i = at_ i) → 1000 - tk < n → ∀ (H : Heap) (locs : List Loc) (ls : Array Slot), va_P D vwCl (wM a y mth (nI t) tb tf ts cap clr mov hom wm (nI nw) wf wt (nI nb) fr bw bl (nI no) od ow ol ork olf oco at1 aw (nI mq1) mpl1 msh1 msl1 (fun i => if i < no then at_ i else mwa i) mse1) H → va_D A (wM a y mth (nI t) tb tf ts cap clr mov hom wm (nI nw) wf wt (nI nb) fr bw bl (nI no) od ow ol ork olf oco at1 aw (nI mq1) mpl1 msh1 msl1 (fun i => if i < no then at_ i else mwa i) mse1) → va_S A s.heap H locs → lv_has ls 5 [(3, Value.int (fI v1)), (2, Value.int b1), (0, Value.ref (a 0)), (1, Value.int (nI j))] → W p l e ({ frames := 4, cells := 0, slots := 0, locals := 93 } : Room) s m args below meth c H locs 0 0 G (F0 m 71 ls []) := by
                intro n
                induction n with
                | zero => intro tk b1 v1 at1 mpl1 msh1 msl1 mse1 mq1 hb1 hat1 hn; exact absurd hn (Nat.not_lt_zero _)
                | succ n ih71 =>
                  intro tk b1 v1 at1 mpl1 msh1 msl1 mse1 mq1 hb1 hat1 hn H locs ls hP hD hS hl
                  refine lv_iload_n hx hb dX6_leastFor_71 rfl (lv_at hl 0 rfl) ?_
                  refine lv_iconst (v := (-1 : Int32)) hx hb dX6_leastFor_72 (by decide) ?_
                  refine lv_icmp_eq (tgt := 161) hx hb dX6_leastFor_73 (by decide) (fun c73 => ?_) (fun c73 => ?_)
                  · refine lv_iconst (v := (0 : Int32)) hx hb dX6_leastFor_161 (by decide) ?_
                    refine lv_istore_n (lv' := [(3, Value.int (0 : Int32)), (2, Value.int b1), (0, Value.ref (a 0)), (1, Value.int (nI j))]) hx hb dX6_leastFor_162 rfl hl (by decide) rfl (fun ls hl => ?_)
                    have LP163 : ∀ (n : Nat) (k3 : Nat), (k3 ≤ no) → no - k3 < n → ∀ (H : Heap) (locs : List Loc) (ls : Array Slot), va_P D vwCl (wM a y mth (nI t) tb tf ts cap clr mov hom wm (nI nw) wf wt (nI nb) fr bw bl (nI no) od ow ol ork olf oco (fun i => if i < k3 then (fun i => if i < no then at_ i else mwa i) i else at1 i) aw (nI mq1) mpl1 msh1 msl1 (fun i => if i < no then at_ i else mwa i) mse1) H → va_D A (wM a y mth (nI t) tb tf ts cap clr mov hom wm (nI nw) wf wt (nI nb) fr bw bl (nI no) od ow ol ork olf oco (fun i => if i < k3 then (fun i => if i < no then at_ i else mwa i) i else at1 i) aw (nI mq1) mpl1 msh1 msl1 (fun i => if i < no then at_ i else mwa i) mse1) → va_S A s.heap H locs → lv_has ls 5 [(3, Value.int (nI k3)), (2, Value.int b1), (0, Value.ref (a 0)), (1, Value.int (nI j))] → W p l e ({ frames := 4, cells := 0, slots := 0, locals := 93 } : Room) s m args below meth c H locs 0 0 G (F0 m 163 ls []) := by
                      intro n
                      induction n with
                      | zero => intro k3 hk3 hn; exact absurd hn (Nat.not_lt_zero _)
                      | succ n ih163 =>
                        intro k3 hk3 hn H locs ls hP hD hS hl
                        refine lv_iload_n hx hb dX6_leastFor_163 rfl (lv_at hl 0 rfl) ?_
                        refine lv_aload_n hx hb dX6_leastFor_164 rfl (lv_at hl 2 rfl) ?_
                        refine gM6_boats hx hb hta hown hK hP wd_8_13 dX6_leastFor_165 ?_
                        refine lv_icmp_ge (tgt := 189) hx hb dX6_leastFor_168 (by decide) (fun c168 => ?_) (fun c168 => ?_)
                        · have c168 : no ≤ k3 := (nI_leI (a := no) (b := k3) (by omega) (by omega)).mp c168
                          refine lv_iload_n hx hb dX6_leastFor_189 rfl (lv_at hl 1 rfl) ?_
                          refine z_iret hG hx hb hr hlocks hP hD hS (Nat.le_of_ble_eq_true rfl) (Nat.le_of_ble_eq_true rfl) dX6_leastFor_190 ?_
                          have hk9 : k3 = no := by omega
                          have hb9 : b1 = v := by
                            first
                            | exact hb1.elim (fun z => lst_uniq (by rw [z.1]; exact rd_end hE (by omega) h0 z.2.1 (nr_all z.2.2.2 c73 (by have := rs_720 hE (by omega) hb8 h0 z.2.1.1; omega))) hv) (fun z => z.1)
                            | exact hb1.elim (fun z => absurd z.1 c78) (fun z => z.1)
                          exact ⟨_, _, _, _, _, _, trivial, congrArg (fun z => some (Value.int z)) hb9, by rw [hk9, restore_eq hat1]⟩
                        · have c168 : ¬ no ≤ k3 := fun z => c168 ((nI_leI (a := no) (b := k3) (by omega) (by omega)).mpr z)
                          refine lv_aload_n hx hb dX6_leastFor_171 rfl (lv_at hl 2 rfl) ?_
                          refine gM6_at hx hb hta hown hK hP wd_5_6 dX6_leastFor_172 ?_
                          refine lv_iload_n hx hb dX6_leastFor_175 rfl (lv_at hl 0 rfl) ?_
                          refine lv_aload_n hx hb dX6_leastFor_176 rfl (lv_at hl 2 rfl) ?_
                          refine gM6_was hx hb hta hown hK hP wd_5_12 dX6_leastFor_177 ?_
                          refine lv_iload_n hx hb dX6_leastFor_180 rfl (lv_at hl 0 rfl) ?_
                          refine aM_mwa hx hb hK hP k3 rfl (by omega) dX6_leastFor_181 ?_
                          refine sM_at_ hx hb hK hP hD hS k3 rfl (by omega) dX6_leastFor_182 (fun H locs hP hD hS => ?_)
                          refine lv_iinc (v := nI (k3 + 1)) (lv' := [(3, Value.int (nI (k3 + 1))), (2, Value.int b1), (0, Value.ref (a 0)), (1, Value.int (nI j))]) hx hb dX6_leastFor_183 hl (k := 0) rfl (nI_add k3 1) (by decide) rfl (fun ls hl => ?_)
                          refine lv_goto (tgt := 163) hx hb dX6_leastFor_186 (by decide) ?_
                          have hl := lv_sub hl [0, 1, 2, 3] rfl
                          have ew4_at : upd (fun i => if i < k3 then (fun i => if i < no then at_ i else mwa i) i else at1 i) k3 ((fun i => if i < no then at_ i else mwa i) k3) = (fun i => if i < (k3 + 1) then (fun i => if i < no then at_ i else mwa i) i else at1 i) := by
                            first
                            | with_reducible rfl
                            | exact copy_step _ at1 k3
                          have ew4_at := congrArg (fun z => wM a y mth (nI t) tb tf ts cap clr mov hom wm (nI nw) wf wt (nI nb) fr bw bl (nI no) od ow ol ork olf oco z aw (nI mq1) mpl1 msh1 msl1 (fun i => if i < no then at_ i else mwa i) mse1) ew4_at
                          have hP : va_P D vwCl (wM a y mth (nI t) tb tf ts cap clr mov hom wm (nI nw) wf wt (nI nb) fr bw bl (nI no) od ow ol ork olf oco (fun i => if i < (k3 + 1) then (fun i => if i < no then at_ i else mwa i) i else at1 i) aw (nI mq1) mpl1 msh1 msl1 (fun i => if i < no then at_ i else mwa i) mse1) _ := zw_P ew4_at hP
                          have hD : va_D A (wM a y mth (nI t) tb tf ts cap clr mov hom wm (nI nw) wf wt (nI nb) fr bw bl (nI no) od ow ol ork olf oco (fun i => if i < (k3 + 1) then (fun i => if i < no then at_ i else mwa i) i else at1 i) aw (nI mq1) mpl1 msh1 msl1 (fun i => if i < no then at_ i else mwa i) mse1) := zw_D ew4_at hD
                          exact ih163 (k3 + 1) (by omega) (by omega) _ _ _ hP hD hS hl
                    have eq5_0 : (0 : Int32) = nI 0 := by
                      rfl
                    have hl := lv_sub hl [0, 1, 2, 3] rfl
                    have hl : lv_has ls 5 [(3, Value.int (0 : Int32)), (2, Value.int b1), (0, Value.ref (a 0)), (1, Value.int (nI j))] := hl
                    have hl : lv_has ls 5 [(3, Value.int (nI 0)), (2, Value.int b1), (0, Value.ref (a 0)), (1, Value.int (nI j))] := lv_as hl (congrArg (fun z => [(3, Value.int z), (2, Value.int b1), (0, Value.ref (a 0)), (1, Value.int (nI j))]) eq5_0)
                    have ew6_at : at1 = (fun i => if i < 0 then (fun i => if i < no then at_ i else mwa i) i else at1 i) := by
                      first
                      | with_reducible rfl
                      | exact funext fun j => (if_neg (Nat.not_lt_zero j)).symm
                    have ew6_at := congrArg (fun z => wM a y mth (nI t) tb tf ts cap clr mov hom wm (nI nw) wf wt (nI nb) fr bw bl (nI no) od ow ol ork olf oco z aw (nI mq1) mpl1 msh1 msl1 (fun i => if i < no then at_ i else mwa i) mse1) ew6_at
                    have hP : va_P D vwCl (wM a y mth (nI t) tb tf ts cap clr mov hom wm (nI nw) wf wt (nI nb) fr bw bl (nI no) od ow ol ork olf oco (fun i => if i < 0 then (fun i => if i < no then at_ i else mwa i) i else at1 i) aw (nI mq1) mpl1 msh1 msl1 (fun i => if i < no then at_ i else mwa i) mse1) _ := zw_P ew6_at hP
                    have hD : va_D A (wM a y mth (nI t) tb tf ts cap clr mov hom wm (nI nw) wf wt (nI nb) fr bw bl (nI no) od ow ol ork olf oco (fun i => if i < 0 then (fun i => if i < no then at_ i else mwa i) i else at1 i) aw (nI mq1) mpl1 msh1 msl1 (fun i => if i < no then at_ i else mwa i) mse1) := zw_D ew6_at hD
                    exact LP163 (no - 0 + 1) 0 (by omega) (Nat.lt_succ_self _) _ _ _ hP hD hS hl
                  · refine lv_iload_n hx hb dX6_leastFor_76 rfl (lv_at hl 1 rfl) ?_
                    refine lv_iconst (v := (-1 : Int32)) hx hb dX6_leastFor_77 (by decide) ?_
                    refine lv_icmp_ne (tgt := 161) hx hb dX6_leastFor_78 (by decide) (fun c78 => ?_) (fun c78 => ?_)
                    · refine lv_iconst (v := (0 : Int32)) hx hb dX6_leastFor_161 (by decide) ?_
                      refine lv_istore_n (lv' := [(3, Value.int (0 : Int32)), (2, Value.int b1), (0, Value.ref (a 0)), (1, Value.int (nI j))]) hx hb dX6_leastFor_162 rfl hl (by decide) rfl (fun ls hl => ?_)
                      have LP163 : ∀ (n : Nat) (k3 : Nat), (k3 ≤ no) → no - k3 < n → ∀ (H : Heap) (locs : List Loc) (ls : Array Slot), va_P D vwCl (wM a y mth (nI t) tb tf ts cap clr mov hom wm (nI nw) wf wt (nI nb) fr bw bl (nI no) od ow ol ork olf oco (fun i => if i < k3 then (fun i => if i < no then at_ i else mwa i) i else at1 i) aw (nI mq1) mpl1 msh1 msl1 (fun i => if i < no then at_ i else mwa i) mse1) H → va_D A (wM a y mth (nI t) tb tf ts cap clr mov hom wm (nI nw) wf wt (nI nb) fr bw bl (nI no) od ow ol ork olf oco (fun i => if i < k3 then (fun i => if i < no then at_ i else mwa i) i else at1 i) aw (nI mq1) mpl1 msh1 msl1 (fun i => if i < no then at_ i else mwa i) mse1) → va_S A s.heap H locs → lv_has ls 5 [(3, Value.int (nI k3)), (2, Value.int b1), (0, Value.ref (a 0)), (1, Value.int (nI j))] → W p l e ({ frames := 4, cells := 0, slots := 0, locals := 93 } : Room) s m args below meth c H locs 0 0 G (F0 m 163 ls []) := by
                        intro n
                        induction n with
                        | zero => intro k3 hk3 hn; exact absurd hn (Nat.not_lt_zero _)
                        | succ n ih163 =>
                          intro k3 hk3 hn H locs ls hP hD hS hl
                          refine lv_iload_n hx hb dX6_leastFor_163 rfl (lv_at hl 0 rfl) ?_
                          refine lv_aload_n hx hb dX6_leastFor_164 rfl (lv_at hl 2 rfl) ?_
                          refine gM6_boats hx hb hta hown hK hP wd_8_13 dX6_leastFor_165 ?_
                          refine lv_icmp_ge (tgt := 189) hx hb dX6_leastFor_168 (by decide) (fun c168 => ?_) (fun c168 => ?_)
                          · have c168 : no ≤ k3 := (nI_leI (a := no) (b := k3) (by omega) (by omega)).mp c168
                            refine lv_iload_n hx hb dX6_leastFor_189 rfl (lv_at hl 1 rfl) ?_
                            refine z_iret hG hx hb hr hlocks hP hD hS (Nat.le_of_ble_eq_true rfl) (Nat.le_of_ble_eq_true rfl) dX6_leastFor_190 ?_
                            have hk9 : k3 = no := by omega
                            have hb9 : b1 = v := by
                              first
                              | exact hb1.elim (fun z => lst_uniq (by rw [z.1]; exact rd_end hE (by omega) h0 z.2.1 (nr_all z.2.2.2 c73 (by have := rs_720 hE (by omega) hb8 h0 z.2.1.1; omega))) hv) (fun z => z.1)
                              | exact hb1.elim (fun z => absurd z.1 c78) (fun z => z.1)
                            exact ⟨_, _, _, _, _, _, trivial, congrArg (fun z => some (Value.int z)) hb9, by rw [hk9, restore_eq hat1]⟩
                          · have c168 : ¬ no ≤ k3 := fun z => c168 ((nI_leI (a := no) (b := k3) (by omega) (by omega)).mpr z)
                            refine lv_aload_n hx hb dX6_leastFor_171 rfl (lv_at hl 2 rfl) ?_
                            refine gM6_at hx hb hta hown hK hP wd_5_6 dX6_leastFor_172 ?_
                            refine lv_iload_n hx hb dX6_leastFor_175 rfl (lv_at hl 0 rfl) ?_
                            refine lv_aload_n hx hb dX6_leastFor_176 rfl (lv_at hl 2 rfl) ?_
                            refine gM6_was hx hb hta hown hK hP wd_5_12 dX6_leastFor_177 ?_
                            refine lv_iload_n hx hb dX6_leastFor_180 rfl (lv_at hl 0 rfl) ?_
                            refine aM_mwa hx hb hK hP k3 rfl (by omega) dX6_leastFor_181 ?_
                            refine sM_at_ hx hb hK hP hD hS k3 rfl (by omega) dX6_leastFor_182 (fun H locs hP hD hS => ?_)
                            refine lv_iinc (v := nI (k3 + 1)) (lv' := [(3, Value.int (nI (k3 + 1))), (2, Value.int b1), (0, Value.ref (a 0)), (1, Value.int (nI j))]) hx hb dX6_leastFor_183 hl (k := 0) rfl (nI_add k3 1) (by decide) rfl (fun ls hl => ?_)
                            refine lv_goto (tgt := 163) hx hb dX6_leastFor_186 (by decide) ?_
                            have hl := lv_sub hl [0, 1, 2, 3] rfl
                            have ew7_at : upd (fun i => if i < k3 then (fun i => if i < no then at_ i else mwa i) i else at1 i) k3 ((fun i => if i < no then at_ i else mwa i) k3) = (fun i => if i < (k3 + 1) then (fun i => if i < no then at_ i else mwa i) i else at1 i) := by
                              first
                              | with_reducible rfl
                              | exact copy_step _ at1 k3
                            have ew7_at := congrArg (fun z => wM a y mth (nI t) tb tf ts cap clr mov hom wm (nI nw) wf wt (nI nb) fr bw bl (nI no) od ow ol ork olf oco z aw (nI mq1) mpl1 msh1 msl1 (fun i => if i < no then at_ i else mwa i) mse1) ew7_at
                            have hP : va_P D vwCl (wM a y mth (nI t) tb tf ts cap clr mov hom wm (nI nw) wf wt (nI nb) fr bw bl (nI no) od ow ol ork olf oco (fun i => if i < (k3 + 1) then (fun i => if i < no then at_ i else mwa i) i else at1 i) aw (nI mq1) mpl1 msh1 msl1 (fun i => if i < no then at_ i else mwa i) mse1) _ := zw_P ew7_at hP
                            have hD : va_D A (wM a y mth (nI t) tb tf ts cap clr mov hom wm (nI nw) wf wt (nI nb) fr bw bl (nI no) od ow ol ork olf oco (fun i => if i < (k3 + 1) then (fun i => if i < no then at_ i else mwa i) i else at1 i) aw (nI mq1) mpl1 msh1 msl1 (fun i => if i < no then at_ i else mwa i) mse1) := zw_D ew7_at hD
                            exact ih163 (k3 + 1) (by omega) (by omega) _ _ _ hP hD hS hl
                      have eq8_0 : (0 : Int32) = nI 0 := by
                        rfl
                      have hl := lv_sub hl [0, 1, 2, 3] rfl
                      have hl : lv_has ls 5 [(3, Value.int (0 : Int32)), (2, Value.int b1), (0, Value.ref (a 0)), (1, Value.int (nI j))] := hl
                      have hl : lv_has ls 5 [(3, Value.int (nI 0)), (2, Value.int b1), (0, Value.ref (a 0)), (1, Value.int (nI j))] := lv_as hl (congrArg (fun z => [(3, Value.int z), (2, Value.int b1), (0, Value.ref (a 0)), (1, Value.int (nI j))]) eq8_0)
                      have ew9_at : at1 = (fun i => if i < 0 then (fun i => if i < no then at_ i else mwa i) i else at1 i) := by
                        first
                        | with_reducible rfl
                        | exact funext fun j => (if_neg (Nat.not_lt_zero j)).symm
                      have ew9_at := congrArg (fun z => wM a y mth (nI t) tb tf ts cap clr mov hom wm (nI nw) wf wt (nI nb) fr bw bl (nI no) od ow ol ork olf oco z aw (nI mq1) mpl1 msh1 msl1 (fun i => if i < no then at_ i else mwa i) mse1) ew9_at
                      have hP : va_P D vwCl (wM a y mth (nI t) tb tf ts cap clr mov hom wm (nI nw) wf wt (nI nb) fr bw bl (nI no) od ow ol ork olf oco (fun i => if i < 0 then (fun i => if i < no then at_ i else mwa i) i else at1 i) aw (nI mq1) mpl1 msh1 msl1 (fun i => if i < no then at_ i else mwa i) mse1) _ := zw_P ew9_at hP
                      have hD : va_D A (wM a y mth (nI t) tb tf ts cap clr mov hom wm (nI nw) wf wt (nI nb) fr bw bl (nI no) od ow ol ork olf oco (fun i => if i < 0 then (fun i => if i < no then at_ i else mwa i) i else at1 i) aw (nI mq1) mpl1 msh1 msl1 (fun i => if i < no then at_ i else mwa i) mse1) := zw_D ew9_at hD
                      exact LP163 (no - 0 + 1) 0 (by omega) (Nat.lt_succ_self _) _ _ _ hP hD hS hl
                    · obtain ⟨hb0, hrd, hhs, hnr⟩ := hb1.resolve_right (fun z => z.2 c78)
                      subst hb0
                      obtain ⟨vi, rfl⟩ := fI_s c73
                      obtain ⟨hvi, hvs, hmin⟩ := nr_get hnr
                      have hmq1 := rs_720 hE (by omega) hb8 h0 hrd.1
                      have htk := rd_tk hrd
                      obtain ⟨n8, g8, u8, hR8, hp8, hu8, hl8⟩ := hrd.1.1 vi hvi
                      have hub := hrd.2.2.2.1 vi u8 hvi hu8 hl8
                      have hv8 := rn_va hE (by omega) h0 hR8
                      have hl : lv_has ls 5 [(3, Value.int (nI vi)), (2, Value.int (-1 : Int32)), (0, Value.ref (a 0)), (1, Value.int (nI j))] := hl
                      refine lv_aload_n hx hb dX6_leastFor_81 rfl (lv_at hl 2 rfl) ?_
                      refine gM6_isSettled hx hb hta hown hK hP wd_5_13 dX6_leastFor_82 ?_
                      refine lv_iload_n hx hb dX6_leastFor_85 rfl (lv_at hl 0 rfl) ?_
                      refine lv_iconst (v := (1 : Int32)) hx hb dX6_leastFor_86 (by decide) ?_
                      refine sM_mse hx hb hK hP hD hS vi rfl (by omega) (by decide) dX6_leastFor_87 (fun H locs hP hD hS => ?_)
                      refine lv_aload_n hx hb dX6_leastFor_88 rfl (lv_at hl 2 rfl) ?_
                      refine lv_aload_n hx hb dX6_leastFor_89 rfl (lv_at hl 2 rfl) ?_
                      refine gM6_place hx hb hta hown hK hP wd_5_9 dX6_leastFor_90 ?_
                      refine lv_iload_n hx hb dX6_leastFor_93 rfl (lv_at hl 0 rfl) ?_
                      refine aM_mpl hx hb hK hP vi rfl (by omega) dX6_leastFor_94 ?_
                      refine zr_top (y := nI (cdN g8 nb no 6)) hp8 ?_
                      refine z_callV (As := [Value.int (nI (cdN g8 nb no 6))]) (rest := []) hx hb hml hown hta zm_X6_arranges wd_33_10 (c_X6_arranges l D y a mth t tb tf ts cap clr mov hom wm nw wf wt nb fr bw bl no od ow ol ork olf oco at1 aw (nI mq1) mpl1 msh1 msl1 (fun i => if i < no then at_ i else mwa i) (upd mse1 vi (1 : Int32)) (cdN g8 nb no 6) g8 (by omega) (by omega) hv8.1 rfl) hN hK hP hD hS hA 0 rfl rfl rfl hl rfl (Nat.le_of_ble_eq_true rfl) ⟨Nat.le_of_ble_eq_true rfl, Nat.le_of_ble_eq_true rfl⟩ ⟨Nat.le_of_ble_eq_true rfl, Nat.le_of_ble_eq_true rfl⟩ dX6_leastFor_95 (fun v w' H locs hq hP hD hS => ?_)
                      obtain ⟨at9_10, hq10, rfl, rfl⟩ := hq
                      obtain ⟨h9a, h9b⟩ := hq10
                      have hR9 : RN no Wf Ed at_ n8 at9_10 u8 := rn_cong h9a hR8
                      have hv9 := rn_va hE (by omega) h0 hR9
                      have hj9 : at9_10 j ≠ -1 := fun z => hajn ((hv9.2 j hj).mp z)
                      obtain ⟨kb, hkb, ekb⟩ := (hv9.1.1 j hj).resolve_left hj9
                      have hp9 : mpl1 vi = nI (cdN at9_10 nb no 6) := by rw [cd_cong h9a 6]; exact hp8
                      have hcl9 := hCl.2 _ hv9.1 hj9
                      rw [ekb, show nN (nI kb) = kb from nI_clamp (by omega)] at hcl9
                      refine lv_aload_n hx hb dX6_leastFor_98 rfl (lv_at hl 2 rfl) ?_
                      refine lv_aload_n hx hb dX6_leastFor_99 rfl (lv_at hl 2 rfl) ?_
                      refine gM6_at hx hb hta hown hK hP wd_5_6 dX6_leastFor_100 ?_
                      refine lv_iload_n hx hb dX6_leastFor_103 rfl (lv_at hl 3 rfl) ?_
                      refine aM_at_ hx hb hK hP j rfl (by omega) dX6_leastFor_104 ?_
                      refine zr_top (y := nI kb) ekb ?_
                      refine lv_iconst (v := (-1 : Int32)) hx hb dX6_leastFor_105 (by decide) ?_
                      refine z_callV (As := [Value.int (nI kb), Value.int (-1 : Int32)]) (rest := []) hx hb hml hown hta zm_X6_isShut wd_18_4 (c_X6_isShut l D y a mth t tb tf ts cap clr mov hom wm nw wf wt nb fr bw bl no od ow ol ork olf oco at9_10 aw (nI mq1) mpl1 msh1 msl1 (fun i => if i < no then at_ i else mwa i) (upd mse1 vi (1 : Int32)) kb (-1 : Int32) (by omega) (by omega) (by omega) (by omega)) hN hK hP hD hS hA 0 rfl rfl rfl hl rfl (Nat.le_of_ble_eq_true rfl) ⟨Nat.le_of_ble_eq_true rfl, Nat.le_of_ble_eq_true rfl⟩ ⟨Nat.le_of_ble_eq_true rfl, Nat.le_of_ble_eq_true rfl⟩ dX6_leastFor_106 (fun v w' H locs hq hP hD hS => ?_)
                      obtain ⟨rfl, rfl⟩ := hq
                      refine lv_if_eq (tgt := 116) hx hb dX6_leastFor_109 (by decide) (fun c109 => ?_) (fun c109 => ?_)
                      · have c109 := bI_0 c109
                        refine lv_aload_n hx hb dX6_leastFor_116 rfl (lv_at hl 2 rfl) ?_
                        refine gM6_shifted hx hb hta hown hK hP wd_5_10 dX6_leastFor_117 ?_
                        refine lv_iload_n hx hb dX6_leastFor_120 rfl (lv_at hl 0 rfl) ?_
                        refine aM_msh hx hb hK hP vi rfl (by omega) dX6_leastFor_121 ?_
                        refine lv_istore_n (lv' := [(2, Value.int (msh1 vi)), (3, Value.int (nI vi)), (0, Value.ref (a 0)), (1, Value.int (nI j))]) hx hb dX6_leastFor_122 rfl hl (by decide) rfl (fun ls hl => ?_)
                        refine lv_iconst (v := (0 : Int32)) hx hb dX6_leastFor_123 (by decide) ?_
                        refine lv_istore (lv' := [(4, Value.int (0 : Int32)), (2, Value.int (msh1 vi)), (3, Value.int (nI vi)), (0, Value.ref (a 0)), (1, Value.int (nI j))]) hx hb dX6_leastFor_124 hl (by decide) rfl (fun ls hl => ?_)
                        have LP126 : ∀ (n : Nat) (i4 : Nat) (mpl2 : Nat → Int32) (msh2 : Nat → Int32) (msl2 : Nat → Int32) (mse2 : Nat → Int32) (mq2 : Nat), (i4 ≤ no) → (RT nb no Wf Ed at_ u8 (u8 + 200) mpl1 msh1 (upd mse1 vi 1) mq1 mpl2 msh2 msl2 mse2 mq2) → (∀ r, r < i4 → ∀ k0, k0 < nb → Ed at9_10 r k0 → cvd mpl2 msh2 mq2 (cdN (upd at9_10 r (nI k0)) nb no 6) (u8 + Wf r)) → no - i4 < n → ∀ (H : Heap) (locs : List Loc) (ls : Array Slot), va_P D vwCl (wM a y mth (nI t) tb tf ts cap clr mov hom wm (nI nw) wf wt (nI nb) fr bw bl (nI no) od ow ol ork olf oco at9_10 aw (nI mq2) mpl2 msh2 msl2 (fun i => if i < no then at_ i else mwa i) mse2) H → va_D A (wM a y mth (nI t) tb tf ts cap clr mov hom wm (nI nw) wf wt (nI nb) fr bw bl (nI no) od ow ol ork olf oco at9_10 aw (nI mq2) mpl2 msh2 msl2 (fun i => if i < no then at_ i else mwa i) mse2) → va_S A s.heap H locs → lv_has ls 5 [(4, Value.int (nI i4)), (2, Value.int (msh1 vi)), (3, Value.int (nI vi)), (0, Value.ref (a 0)), (1, Value.int (nI j))] → W p l e ({ frames := 4, cells := 0, slots := 0, locals := 93 } : Room) s m args below meth c H locs 0 0 G (F0 m 126 ls []) := by
                          intro n
                          induction n with
                          | zero => intro i4 mpl2 msh2 msl2 mse2 mq2 hi4 hg hcv hn; exact absurd hn (Nat.not_lt_zero _)
                          | succ n ih126 =>
                            intro i4 mpl2 msh2 msl2 mse2 mq2 hi4 hg hcv hn H locs ls hP hD hS hl
                            refine lv_iload hx hb dX6_leastFor_126 (lv_at hl 0 rfl) ?_
                            refine lv_aload_n hx hb dX6_leastFor_128 rfl (lv_at hl 3 rfl) ?_
                            refine gM6_boats hx hb hta hown hK hP wd_8_13 dX6_leastFor_129 ?_
                            refine lv_icmp_ge (tgt := 153) hx hb dX6_leastFor_132 (by decide) (fun c132 => ?_) (fun c132 => ?_)
                            · have c132 : no ≤ i4 := (nI_leI (a := no) (b := i4) (by omega) (by omega)).mp c132
                              refine lv_aload_n hx hb dX6_leastFor_153 rfl (lv_at hl 3 rfl) ?_
                              refine z_callV (As := []) (rest := []) hx hb hml hown hta zm_X6_nearest wd_33_6 (c_X6_nearest l D y a mth t tb tf ts cap clr mov hom wm nw wf wt nb fr bw bl no od ow ol ork olf oco at9_10 aw mq2 mpl2 msh2 msl2 (fun i => if i < no then at_ i else mwa i) mse2 (rs_720 hE (by omega) hb8 h0 hg.1)) hN hK hP hD hS hA 0 rfl rfl rfl hl rfl (Nat.le_of_ble_eq_true rfl) ⟨Nat.le_of_ble_eq_true rfl, Nat.le_of_ble_eq_true rfl⟩ ⟨Nat.le_of_ble_eq_true rfl, Nat.le_of_ble_eq_true rfl⟩ dX6_leastFor_154 (fun v w' H locs hq hP hD hS => ?_)
                              obtain ⟨v9_12, hq12, rfl, rfl⟩ := hq
                              have hnq := hq12
                              refine lv_istore_n (lv' := [(3, Value.int (fI v9_12)), (4, Value.int (nI i4)), (2, Value.int (msh1 vi)), (0, Value.ref (a 0)), (1, Value.int (nI j))]) hx hb dX6_leastFor_157 rfl hl (by decide) rfl (fun ls hl => ?_)
                              refine lv_goto (tgt := 71) hx hb dX6_leastFor_158 (by decide) ?_
                              have hl := lv_sub hl [0, 2, 3, 4] rfl
                              have hv13_hb1 : ((msh1 vi) = -1 ∧ RD nb no Wf Ed at_ Cl (tk + 1) mpl2 msh2 mse2 mq2 ∧ HS mpl2 msl2 mq2 ∧ NrR msh2 mse2 mq2 v9_12) ∨ ((msh1 vi) = v ∧ ¬ (msh1 vi) = -1) := by
                                first
                                | exact Or.inl ⟨rfl, rd_step hE (by omega) hb8 h0 hCl.1 hrd hvi hvs hR9 hp9 hu8 (by omega) hmin (fun z => by rw [hcl9.mp z] at c109; cases c109) hg (fun r k0 hr hk0 he => hcv r (by omega) k0 hk0 he), hg.2.1, hnq⟩
                                | exact Or.inr ⟨lst_uniq (rd_found hE (by omega) h0 hrd hR9 hu8 hl8 hmin (hcl9.mpr c109)) hv, by rw [hu8]; exact nI_m1 (by omega)⟩
                              have hv14_hat1 : ∀ i, no ≤ i → at9_10 i = at_ i := by
                                exact fun i hi => (h9b i hi).trans (hat1 i hi)
                              exact ih71 (tk + 1) (msh1 vi) v9_12 at9_10 mpl2 msh2 msl2 mse2 mq2 hv13_hb1 hv14_hat1 (by omega) _ _ _ hP hD hS hl
                            · have c132 : ¬ no ≤ i4 := fun z => c132 ((nI_leI (a := no) (b := i4) (by omega) (by omega)).mpr z)
                              refine lv_iload_n hx hb dX6_leastFor_135 rfl (lv_at hl 1 rfl) ?_
                              refine lv_iconst (v := (-1 : Int32)) hx hb dX6_leastFor_136 (by decide) ?_
                              refine lv_icmp_ne (tgt := 153) hx hb dX6_leastFor_137 (by decide) (fun c137 => ?_) (fun c137 => ?_)
                              · refine lv_aload_n hx hb dX6_leastFor_153 rfl (lv_at hl 3 rfl) ?_
                                refine z_callV (As := []) (rest := []) hx hb hml hown hta zm_X6_nearest wd_33_6 (c_X6_nearest l D y a mth t tb tf ts cap clr mov hom wm nw wf wt nb fr bw bl no od ow ol ork olf oco at9_10 aw mq2 mpl2 msh2 msl2 (fun i => if i < no then at_ i else mwa i) mse2 (rs_720 hE (by omega) hb8 h0 hg.1)) hN hK hP hD hS hA 0 rfl rfl rfl hl rfl (Nat.le_of_ble_eq_true rfl) ⟨Nat.le_of_ble_eq_true rfl, Nat.le_of_ble_eq_true rfl⟩ ⟨Nat.le_of_ble_eq_true rfl, Nat.le_of_ble_eq_true rfl⟩ dX6_leastFor_154 (fun v w' H locs hq hP hD hS => ?_)
                                obtain ⟨v9_15, hq15, rfl, rfl⟩ := hq
                                have hnq := hq15
                                refine lv_istore_n (lv' := [(3, Value.int (fI v9_15)), (4, Value.int (nI i4)), (2, Value.int (msh1 vi)), (0, Value.ref (a 0)), (1, Value.int (nI j))]) hx hb dX6_leastFor_157 rfl hl (by decide) rfl (fun ls hl => ?_)
                                refine lv_goto (tgt := 71) hx hb dX6_leastFor_158 (by decide) ?_
                                have hl := lv_sub hl [0, 2, 3, 4] rfl
                                have hv16_hb1 : ((msh1 vi) = -1 ∧ RD nb no Wf Ed at_ Cl (tk + 1) mpl2 msh2 mse2 mq2 ∧ HS mpl2 msl2 mq2 ∧ NrR msh2 mse2 mq2 v9_15) ∨ ((msh1 vi) = v ∧ ¬ (msh1 vi) = -1) := by
                                  first
                                  | exact Or.inl ⟨rfl, rd_step hE (by omega) hb8 h0 hCl.1 hrd hvi hvs hR9 hp9 hu8 (by omega) hmin (fun z => by rw [hcl9.mp z] at c109; cases c109) hg (fun r k0 hr hk0 he => hcv r (by omega) k0 hk0 he), hg.2.1, hnq⟩
                                  | exact Or.inr ⟨lst_uniq (rd_found hE (by omega) h0 hrd hR9 hu8 hl8 hmin (hcl9.mpr c109)) hv, by rw [hu8]; exact nI_m1 (by omega)⟩
                                have hv17_hat1 : ∀ i, no ≤ i → at9_10 i = at_ i := by
                                  exact fun i hi => (h9b i hi).trans (hat1 i hi)
                                exact ih71 (tk + 1) (msh1 vi) v9_15 at9_10 mpl2 msh2 msl2 mse2 mq2 hv16_hb1 hv17_hat1 (by omega) _ _ _ hP hD hS hl
                              · refine lv_aload_n hx hb dX6_leastFor_140 rfl (lv_at hl 3 rfl) ?_
                                refine lv_iload hx hb dX6_leastFor_141 (lv_at hl 0 rfl) ?_
                                refine lv_iload_n hx hb dX6_leastFor_143 rfl (lv_at hl 2 rfl) ?_
                                refine z_callV (As := [Value.int (nI i4), Value.int (nI vi)]) (rest := []) hx hb hml hown hta zm_X6_goesOn wd_33_14 (c_X6_goesOn l D y a mth t tb tf ts cap clr mov hom wm nw wf wt nb fr bw bl no od ow ol ork olf oco at9_10 aw mq2 mpl2 msh2 msl2 (fun i => if i < no then at_ i else mwa i) mse2 i4 vi Wf Ed at_ n8 u8 (by omega) (by omega) hfr (by omega) hE h0 hg.1 hg.2.1 (by have := hg.2.2.1; omega) hR9 (rt_fix (by omega) hg hvi hu8 (by omega) hl8) (by omega) hW hEd) hN hK hP hD hS hA 0 rfl rfl rfl hl rfl (Nat.le_of_ble_eq_true rfl) ⟨Nat.le_of_ble_eq_true rfl, Nat.le_of_ble_eq_true rfl⟩ ⟨Nat.le_of_ble_eq_true rfl, Nat.le_of_ble_eq_true rfl⟩ dX6_leastFor_144 (fun v w' H locs hq hP hD hS => ?_)
                                obtain ⟨mpl9_18, msh9_18, msl9_18, mse9_18, mq9_18, hq18, rfl, rfl⟩ := hq
                                have hgo := hq18
                                refine lv_iinc (v := nI (i4 + 1)) (lv' := [(4, Value.int (nI (i4 + 1))), (2, Value.int (msh1 vi)), (3, Value.int (nI vi)), (0, Value.ref (a 0)), (1, Value.int (nI j))]) hx hb dX6_leastFor_147 hl (k := 0) rfl (nI_add i4 1) (by decide) rfl (fun ls hl => ?_)
                                refine lv_goto (tgt := 126) hx hb dX6_leastFor_150 (by decide) ?_
                                have hl := lv_sub hl [0, 1, 2, 3, 4] rfl
                                have hv19_hg : RT nb no Wf Ed at_ u8 (u8 + 200) mpl1 msh1 (upd mse1 vi 1) mq1 mpl9_18 msh9_18 msl9_18 mse9_18 mq9_18 := by
                                  exact rt_trans hg hgo.1
                                have hv20_hcv : ∀ r, r < (i4 + 1) → ∀ k0, k0 < nb → Ed at9_10 r k0 → cvd mpl9_18 msh9_18 mq9_18 (cdN (upd at9_10 r (nI k0)) nb no 6) (u8 + Wf r) := by
                                  exact all_step (fun r hr k0 hk0 z => rt_cvd (by omega) hgo.1 (hcv r hr k0 hk0 z)) hgo.2
                                exact ih126 (i4 + 1) mpl9_18 msh9_18 msl9_18 mse9_18 mq9_18 (by omega) hv19_hg hv20_hcv (by omega) _ _ _ hP hD hS hl
                        have eq21_0 : (0 : Int32) = nI 0 := by
                          rfl
                        have hl := lv_sub hl [0, 1, 2, 3, 4] rfl
                        have hl : lv_has ls 5 [(4, Value.int (0 : Int32)), (2, Value.int (msh1 vi)), (3, Value.int (nI vi)), (0, Value.ref (a 0)), (1, Value.int (nI j))] := hl
                        have hl : lv_has ls 5 [(4, Value.int (nI 0)), (2, Value.int (msh1 vi)), (3, Value.int (nI vi)), (0, Value.ref (a 0)), (1, Value.int (nI j))] := lv_as hl (congrArg (fun z => [(4, Value.int z), (2, Value.int (msh1 vi)), (3, Value.int (nI vi)), (0, Value.ref (a 0)), (1, Value.int (nI j))]) eq21_0)
                        have ew22_mse : upd mse1 vi (1 : Int32) = (upd mse1 vi (1 : Int32)) := by
                          rfl
                        have ew22_mse := congrArg (fun z => wM a y mth (nI t) tb tf ts cap clr mov hom wm (nI nw) wf wt (nI nb) fr bw bl (nI no) od ow ol ork olf oco at9_10 aw (nI mq1) mpl1 msh1 msl1 (fun i => if i < no then at_ i else mwa i) z) ew22_mse
                        have hP : va_P D vwCl (wM a y mth (nI t) tb tf ts cap clr mov hom wm (nI nw) wf wt (nI nb) fr bw bl (nI no) od ow ol ork olf oco at9_10 aw (nI mq1) mpl1 msh1 msl1 (fun i => if i < no then at_ i else mwa i) (upd mse1 vi (1 : Int32))) _ := zw_P ew22_mse hP
                        have hD : va_D A (wM a y mth (nI t) tb tf ts cap clr mov hom wm (nI nw) wf wt (nI nb) fr bw bl (nI no) od ow ol ork olf oco at9_10 aw (nI mq1) mpl1 msh1 msl1 (fun i => if i < no then at_ i else mwa i) (upd mse1 vi (1 : Int32))) := zw_D ew22_mse hD
                        have hv23_hg : RT nb no Wf Ed at_ u8 (u8 + 200) mpl1 msh1 (upd mse1 vi 1) mq1 mpl1 msh1 msl1 (upd mse1 vi (1 : Int32)) mq1 := by
                          exact rt_refl (rs_settle hrd.1) hhs
                        have hv24_hcv : ∀ r, r < 0 → ∀ k0, k0 < nb → Ed at9_10 r k0 → cvd mpl1 msh1 mq1 (cdN (upd at9_10 r (nI k0)) nb no 6) (u8 + Wf r) := by
                          exact fun r hr => absurd hr (Nat.not_lt_zero _)
                        exact LP126 (no - 0 + 1) 0 mpl1 msh1 msl1 (upd mse1 vi (1 : Int32)) mq1 (by omega) hv23_hg hv24_hcv (Nat.lt_succ_self _) _ _ _ hP hD hS hl
                      · have c109 := bI_1 c109
                        refine lv_iconst (v := (-1 : Int32)) hx hb dX6_leastFor_112 (by decide) ?_
                        refine lv_goto (tgt := 122) hx hb dX6_leastFor_113 (by decide) ?_
                        refine lv_istore_n (lv' := [(2, Value.int (-1 : Int32)), (3, Value.int (nI vi)), (0, Value.ref (a 0)), (1, Value.int (nI j))]) hx hb dX6_leastFor_122 rfl hl (by decide) rfl (fun ls hl => ?_)
                        refine lv_iconst (v := (0 : Int32)) hx hb dX6_leastFor_123 (by decide) ?_
                        refine lv_istore (lv' := [(4, Value.int (0 : Int32)), (2, Value.int (-1 : Int32)), (3, Value.int (nI vi)), (0, Value.ref (a 0)), (1, Value.int (nI j))]) hx hb dX6_leastFor_124 hl (by decide) rfl (fun ls hl => ?_)
                        have LP126 : ∀ (n : Nat) (i4 : Nat) (mpl2 : Nat → Int32) (msh2 : Nat → Int32) (msl2 : Nat → Int32) (mse2 : Nat → Int32) (mq2 : Nat), (i4 ≤ no) → (RT nb no Wf Ed at_ u8 (u8 + 200) mpl1 msh1 (upd mse1 vi 1) mq1 mpl2 msh2 msl2 mse2 mq2) → (∀ r, r < i4 → ∀ k0, k0 < nb → Ed at9_10 r k0 → cvd mpl2 msh2 mq2 (cdN (upd at9_10 r (nI k0)) nb no 6) (u8 + Wf r)) → no - i4 < n → ∀ (H : Heap) (locs : List Loc) (ls : Array Slot), va_P D vwCl (wM a y mth (nI t) tb tf ts cap clr mov hom wm (nI nw) wf wt (nI nb) fr bw bl (nI no) od ow ol ork olf oco at9_10 aw (nI mq2) mpl2 msh2 msl2 (fun i => if i < no then at_ i else mwa i) mse2) H → va_D A (wM a y mth (nI t) tb tf ts cap clr mov hom wm (nI nw) wf wt (nI nb) fr bw bl (nI no) od ow ol ork olf oco at9_10 aw (nI mq2) mpl2 msh2 msl2 (fun i => if i < no then at_ i else mwa i) mse2) → va_S A s.heap H locs → lv_has ls 5 [(4, Value.int (nI i4)), (2, Value.int (-1 : Int32)), (3, Value.int (nI vi)), (0, Value.ref (a 0)), (1, Value.int (nI j))] → W p l e ({ frames := 4, cells := 0, slots := 0, locals := 93 } : Room) s m args below meth c H locs 0 0 G (F0 m 126 ls []) := by
                          intro n
                          induction n with
                          | zero => intro i4 mpl2 msh2 msl2 mse2 mq2 hi4 hg hcv hn; exact absurd hn (Nat.not_lt_zero _)
                          | succ n ih126 =>
                            intro i4 mpl2 msh2 msl2 mse2 mq2 hi4 hg hcv hn H locs ls hP hD hS hl
                            refine lv_iload hx hb dX6_leastFor_126 (lv_at hl 0 rfl) ?_
                            refine lv_aload_n hx hb dX6_leastFor_128 rfl (lv_at hl 3 rfl) ?_
                            refine gM6_boats hx hb hta hown hK hP wd_8_13 dX6_leastFor_129 ?_
                            refine lv_icmp_ge (tgt := 153) hx hb dX6_leastFor_132 (by decide) (fun c132 => ?_) (fun c132 => ?_)
                            · have c132 : no ≤ i4 := (nI_leI (a := no) (b := i4) (by omega) (by omega)).mp c132
                              refine lv_aload_n hx hb dX6_leastFor_153 rfl (lv_at hl 3 rfl) ?_
                              refine z_callV (As := []) (rest := []) hx hb hml hown hta zm_X6_nearest wd_33_6 (c_X6_nearest l D y a mth t tb tf ts cap clr mov hom wm nw wf wt nb fr bw bl no od ow ol ork olf oco at9_10 aw mq2 mpl2 msh2 msl2 (fun i => if i < no then at_ i else mwa i) mse2 (rs_720 hE (by omega) hb8 h0 hg.1)) hN hK hP hD hS hA 0 rfl rfl rfl hl rfl (Nat.le_of_ble_eq_true rfl) ⟨Nat.le_of_ble_eq_true rfl, Nat.le_of_ble_eq_true rfl⟩ ⟨Nat.le_of_ble_eq_true rfl, Nat.le_of_ble_eq_true rfl⟩ dX6_leastFor_154 (fun v w' H locs hq hP hD hS => ?_)
                              obtain ⟨v9_25, hq25, rfl, rfl⟩ := hq
                              have hnq := hq25
                              refine lv_istore_n (lv' := [(3, Value.int (fI v9_25)), (4, Value.int (nI i4)), (2, Value.int (-1 : Int32)), (0, Value.ref (a 0)), (1, Value.int (nI j))]) hx hb dX6_leastFor_157 rfl hl (by decide) rfl (fun ls hl => ?_)
                              refine lv_goto (tgt := 71) hx hb dX6_leastFor_158 (by decide) ?_
                              have hl := lv_sub hl [0, 2, 3, 4] rfl
                              have hv26_hb1 : ((-1 : Int32) = -1 ∧ RD nb no Wf Ed at_ Cl (tk + 1) mpl2 msh2 mse2 mq2 ∧ HS mpl2 msl2 mq2 ∧ NrR msh2 mse2 mq2 v9_25) ∨ ((-1 : Int32) = v ∧ ¬ (-1 : Int32) = -1) := by
                                first
                                | exact Or.inl ⟨rfl, rd_step hE (by omega) hb8 h0 hCl.1 hrd hvi hvs hR9 hp9 hu8 (by omega) hmin (fun z => by rw [hcl9.mp z] at c109; cases c109) hg (fun r k0 hr hk0 he => hcv r (by omega) k0 hk0 he), hg.2.1, hnq⟩
                                | exact Or.inr ⟨lst_uniq (rd_found hE (by omega) h0 hrd hR9 hu8 hl8 hmin (hcl9.mpr c109)) hv, by rw [hu8]; exact nI_m1 (by omega)⟩
                              have hv27_hat1 : ∀ i, no ≤ i → at9_10 i = at_ i := by
                                exact fun i hi => (h9b i hi).trans (hat1 i hi)
                              exact ih71 (tk + 1) (-1 : Int32) v9_25 at9_10 mpl2 msh2 msl2 mse2 mq2 hv26_hb1 hv27_hat1 (by omega) _ _ _ hP hD hS hl
                            · have c132 : ¬ no ≤ i4 := fun z => c132 ((nI_leI (a := no) (b := i4) (by omega) (by omega)).mpr z)
                              refine lv_iload_n hx hb dX6_leastFor_135 rfl (lv_at hl 1 rfl) ?_
                              refine lv_iconst (v := (-1 : Int32)) hx hb dX6_leastFor_136 (by decide) ?_
                              refine lv_icmp_ne (tgt := 153) hx hb dX6_leastFor_137 (by decide) (fun c137 => ?_) (fun c137 => ?_)
                              · exact absurd c137 (by decide)
                              · refine lv_aload_n hx hb dX6_leastFor_140 rfl (lv_at hl 3 rfl) ?_
                                refine lv_iload hx hb dX6_leastFor_141 (lv_at hl 0 rfl) ?_
                                refine lv_iload_n hx hb dX6_leastFor_143 rfl (lv_at hl 2 rfl) ?_
                                refine z_callV (As := [Value.int (nI i4), Value.int (nI vi)]) (rest := []) hx hb hml hown hta zm_X6_goesOn wd_33_14 (c_X6_goesOn l D y a mth t tb tf ts cap clr mov hom wm nw wf wt nb fr bw bl no od ow ol ork olf oco at9_10 aw mq2 mpl2 msh2 msl2 (fun i => if i < no then at_ i else mwa i) mse2 i4 vi Wf Ed at_ n8 u8 (by omega) (by omega) hfr (by omega) hE h0 hg.1 hg.2.1 (by have := hg.2.2.1; omega) hR9 (rt_fix (by omega) hg hvi hu8 (by omega) hl8) (by omega) hW hEd) hN hK hP hD hS hA 0 rfl rfl rfl hl rfl (Nat.le_of_ble_eq_true rfl) ⟨Nat.le_of_ble_eq_true rfl, Nat.le_of_ble_eq_true rfl⟩ ⟨Nat.le_of_ble_eq_true rfl, Nat.le_of_ble_eq_true rfl⟩ dX6_leastFor_144 (fun v w' H locs hq hP hD hS => ?_)
                                obtain ⟨mpl9_28, msh9_28, msl9_28, mse9_28, mq9_28, hq28, rfl, rfl⟩ := hq
                                have hgo := hq28
                                refine lv_iinc (v := nI (i4 + 1)) (lv' := [(4, Value.int (nI (i4 + 1))), (2, Value.int (-1 : Int32)), (3, Value.int (nI vi)), (0, Value.ref (a 0)), (1, Value.int (nI j))]) hx hb dX6_leastFor_147 hl (k := 0) rfl (nI_add i4 1) (by decide) rfl (fun ls hl => ?_)
                                refine lv_goto (tgt := 126) hx hb dX6_leastFor_150 (by decide) ?_
                                have hl := lv_sub hl [0, 1, 2, 3, 4] rfl
                                have hv29_hg : RT nb no Wf Ed at_ u8 (u8 + 200) mpl1 msh1 (upd mse1 vi 1) mq1 mpl9_28 msh9_28 msl9_28 mse9_28 mq9_28 := by
                                  exact rt_trans hg hgo.1
                                have hv30_hcv : ∀ r, r < (i4 + 1) → ∀ k0, k0 < nb → Ed at9_10 r k0 → cvd mpl9_28 msh9_28 mq9_28 (cdN (upd at9_10 r (nI k0)) nb no 6) (u8 + Wf r) := by
                                  exact all_step (fun r hr k0 hk0 z => rt_cvd (by omega) hgo.1 (hcv r hr k0 hk0 z)) hgo.2
                                exact ih126 (i4 + 1) mpl9_28 msh9_28 msl9_28 mse9_28 mq9_28 (by omega) hv29_hg hv30_hcv (by omega) _ _ _ hP hD hS hl
                        have eq31_0 : (0 : Int32) = nI 0 := by
                          rfl
                        have hl := lv_sub hl [0, 1, 2, 3, 4] rfl
                        have hl : lv_has ls 5 [(4, Value.int (0 : Int32)), (2, Value.int (-1 : Int32)), (3, Value.int (nI vi)), (0, Value.ref (a 0)), (1, Value.int (nI j))] := hl
                        have hl : lv_has ls 5 [(4, Value.int (nI 0)), (2, Value.int (-1 : Int32)), (3, Value.int (nI vi)), (0, Value.ref (a 0)), (1, Value.int (nI j))] := lv_as hl (congrArg (fun z => [(4, Value.int z), (2, Value.int (-1 : Int32)), (3, Value.int (nI vi)), (0, Value.ref (a 0)), (1, Value.int (nI j))]) eq31_0)
                        have ew32_mse : upd mse1 vi (1 : Int32) = (upd mse1 vi (1 : Int32)) := by
                          rfl
                        have ew32_mse := congrArg (fun z => wM a y mth (nI t) tb tf ts cap clr mov hom wm (nI nw) wf wt (nI nb) fr bw bl (nI no) od ow ol ork olf oco at9_10 aw (nI mq1) mpl1 msh1 msl1 (fun i => if i < no then at_ i else mwa i) z) ew32_mse
                        have hP : va_P D vwCl (wM a y mth (nI t) tb tf ts cap clr mov hom wm (nI nw) wf wt (nI nb) fr bw bl (nI no) od ow ol ork olf oco at9_10 aw (nI mq1) mpl1 msh1 msl1 (fun i => if i < no then at_ i else mwa i) (upd mse1 vi (1 : Int32))) _ := zw_P ew32_mse hP
                        have hD : va_D A (wM a y mth (nI t) tb tf ts cap clr mov hom wm (nI nw) wf wt (nI nb) fr bw bl (nI no) od ow ol ork olf oco at9_10 aw (nI mq1) mpl1 msh1 msl1 (fun i => if i < no then at_ i else mwa i) (upd mse1 vi (1 : Int32))) := zw_D ew32_mse hD
                        have hv33_hg : RT nb no Wf Ed at_ u8 (u8 + 200) mpl1 msh1 (upd mse1 vi 1) mq1 mpl1 msh1 msl1 (upd mse1 vi (1 : Int32)) mq1 := by
                          exact rt_refl (rs_settle hrd.1) hhs
                        have hv34_hcv : ∀ r, r < 0 → ∀ k0, k0 < nb → Ed at9_10 r k0 → cvd mpl1 msh1 mq1 (cdN (upd at9_10 r (nI k0)) nb no 6) (u8 + Wf r) := by
                          exact fun r hr => absurd hr (Nat.not_lt_zero _)
                        exact LP126 (no - 0 + 1) 0 mpl1 msh1 msl1 (upd mse1 vi (1 : Int32)) mq1 (by omega) hv33_hg hv34_hcv (Nat.lt_succ_self _) _ _ _ hP hD hS hl
              have hl := lv_sub hl [0, 1, 2, 3] rfl
              have hv35_hb1 : ((-1 : Int32) = -1 ∧ RD nb no Wf Ed at_ Cl 0 mpl9_2 msh9_2 mse9_2 mp9_2 ∧ HS mpl9_2 msl9_2 mp9_2 ∧ NrR msh9_2 mse9_2 mp9_2 v9_3) ∨ ((-1 : Int32) = v ∧ ¬ (-1 : Int32) = -1) := by
                exact Or.inl ⟨rfl, (rd_start hq2).1, (rd_start (W := Wf) (E := Ed) (Cl := Cl) hq2).2, hq3⟩
              have hv36_hat1 : ∀ i, no ≤ i → at_ i = at_ i := by
                exact fun _ _ => rfl
              exact LP71 (1000 - 0 + 1) 0 (-1 : Int32) v9_3 at_ mpl9_2 msh9_2 msl9_2 mse9_2 mp9_2 hv35_hb1 hv36_hat1 (Nat.lt_succ_self _) _ _ _ hP hD hS hl
            · have c34 : ¬ no ≤ k2 := fun z => c34 ((nI_leI (a := no) (b := k2) (by omega) (by omega)).mpr z)
              refine lv_aload_n hx hb dX6_leastFor_37 rfl (lv_at hl 1 rfl) ?_
              refine gM6_was hx hb hta hown hK hP wd_5_12 dX6_leastFor_38 ?_
              refine lv_iload_n hx hb dX6_leastFor_41 rfl (lv_at hl 0 rfl) ?_
              refine lv_aload_n hx hb dX6_leastFor_42 rfl (lv_at hl 1 rfl) ?_
              refine gM6_at hx hb hta hown hK hP wd_5_6 dX6_leastFor_43 ?_
              refine lv_iload_n hx hb dX6_leastFor_46 rfl (lv_at hl 0 rfl) ?_
              refine aM_at_ hx hb hK hP k2 rfl (by omega) dX6_leastFor_47 ?_
              refine sM_mwa hx hb hK hP hD hS k2 rfl (by omega) dX6_leastFor_48 (fun H locs hP hD hS => ?_)
              refine lv_iinc (v := nI (k2 + 1)) (lv' := [(2, Value.int (nI (k2 + 1))), (0, Value.ref (a 0)), (1, Value.int (nI j))]) hx hb dX6_leastFor_49 hl (k := 0) rfl (nI_add k2 1) (by decide) rfl (fun ls hl => ?_)
              refine lv_goto (tgt := 29) hx hb dX6_leastFor_52 (by decide) ?_
              have hl := lv_sub hl [0, 1, 2] rfl
              have ew37_mwa : upd (fun i => if i < k2 then at_ i else mwa i) k2 (at_ k2) = (fun i => if i < (k2 + 1) then at_ i else mwa i) := by
                first
                | with_reducible rfl
                | exact copy_step at_ mwa k2
              have ew37_mwa := congrArg (fun z => wM a y mth (nI t) tb tf ts cap clr mov hom wm (nI nw) wf wt (nI nb) fr bw bl (nI no) od ow ol ork olf oco at_ aw (nI 0) mpl msh (fun i => if i < 2048 then 0 else msl i) z mse) ew37_mwa
              have hP : va_P D vwCl (wM a y mth (nI t) tb tf ts cap clr mov hom wm (nI nw) wf wt (nI nb) fr bw bl (nI no) od ow ol ork olf oco at_ aw (nI 0) mpl msh (fun i => if i < 2048 then 0 else msl i) (fun i => if i < (k2 + 1) then at_ i else mwa i) mse) _ := zw_P ew37_mwa hP
              have hD : va_D A (wM a y mth (nI t) tb tf ts cap clr mov hom wm (nI nw) wf wt (nI nb) fr bw bl (nI no) od ow ol ork olf oco at_ aw (nI 0) mpl msh (fun i => if i < 2048 then 0 else msl i) (fun i => if i < (k2 + 1) then at_ i else mwa i) mse) := zw_D ew37_mwa hD
              exact ih29 (k2 + 1) (by omega) (by omega) _ _ _ hP hD hS hl
        have eq38_0 : (0 : Int32) = nI 0 := by
          rfl
        have hl := lv_sub hl [0, 1, 2] rfl
        have hl : lv_has ls 5 [(2, Value.int (0 : Int32)), (0, Value.ref (a 0)), (1, Value.int (nI j))] := hl
        have hl : lv_has ls 5 [(2, Value.int (nI 0)), (0, Value.ref (a 0)), (1, Value.int (nI j))] := lv_as hl (congrArg (fun z => [(2, Value.int z), (0, Value.ref (a 0)), (1, Value.int (nI j))]) eq38_0)
        have ew39_mwa : mwa = (fun i => if i < 0 then at_ i else mwa i) := by
          first
          | with_reducible rfl
          | exact funext fun j => (if_neg (Nat.not_lt_zero j)).symm
        have ew39_mwa := congrArg (fun z => wM a y mth (nI t) tb tf ts cap clr mov hom wm (nI nw) wf wt (nI nb) fr bw bl (nI no) od ow ol ork olf oco at_ aw (nI 0) mpl msh (fun i => if i < 2048 then 0 else msl i) z mse) ew39_mwa
        have hP : va_P D vwCl (wM a y mth (nI t) tb tf ts cap clr mov hom wm (nI nw) wf wt (nI nb) fr bw bl (nI no) od ow ol ork olf oco at_ aw (nI 0) mpl msh (fun i => if i < 2048 then 0 else msl i) (fun i => if i < 0 then at_ i else mwa i) mse) _ := zw_P ew39_mwa hP
        have hD : va_D A (wM a y mth (nI t) tb tf ts cap clr mov hom wm (nI nw) wf wt (nI nb) fr bw bl (nI no) od ow ol ork olf oco at_ aw (nI 0) mpl msh (fun i => if i < 2048 then 0 else msl i) (fun i => if i < 0 then at_ i else mwa i) mse) := zw_D ew39_mwa hD
        exact LP29 (no - 0 + 1) 0 (by omega) (Nat.lt_succ_self _) _ _ _ hP hD hS hl
      · have c11 : ¬ 2048 ≤ k := fun z => c11 ((nI_leI (a := 2048) (b := k) (by omega) (by omega)).mpr z)
        refine lv_aload_n hx hb dX6_leastFor_14 rfl (lv_at hl 1 rfl) ?_
        refine gM6_slot hx hb hta hown hK hP wd_5_11 dX6_leastFor_15 ?_
        refine lv_iload_n hx hb dX6_leastFor_18 rfl (lv_at hl 0 rfl) ?_
        refine lv_iconst (v := (0 : Int32)) hx hb dX6_leastFor_19 (by decide) ?_
        refine sM_msl hx hb hK hP hD hS k rfl (by omega) dX6_leastFor_20 (fun H locs hP hD hS => ?_)
        refine lv_iinc (v := nI (k + 1)) (lv' := [(2, Value.int (nI (k + 1))), (0, Value.ref (a 0)), (1, Value.int (nI j))]) hx hb dX6_leastFor_21 hl (k := 0) rfl (nI_add k 1) (by decide) rfl (fun ls hl => ?_)
        refine lv_goto (tgt := 7) hx hb dX6_leastFor_24 (by decide) ?_
        have hl := lv_sub hl [0, 1, 2] rfl
        have ew40_msl : upd (fun i => if i < k then 0 else msl i) k (0 : Int32) = (fun i => if i < (k + 1) then 0 else msl i) := by
          first
          | with_reducible rfl
          | exact fill_step 0 msl k
        have ew40_msl := congrArg (fun z => wM a y mth (nI t) tb tf ts cap clr mov hom wm (nI nw) wf wt (nI nb) fr bw bl (nI no) od ow ol ork olf oco at_ aw (nI 0) mpl msh z mwa mse) ew40_msl
        have hP : va_P D vwCl (wM a y mth (nI t) tb tf ts cap clr mov hom wm (nI nw) wf wt (nI nb) fr bw bl (nI no) od ow ol ork olf oco at_ aw (nI 0) mpl msh (fun i => if i < (k + 1) then 0 else msl i) mwa mse) _ := zw_P ew40_msl hP
        have hD : va_D A (wM a y mth (nI t) tb tf ts cap clr mov hom wm (nI nw) wf wt (nI nb) fr bw bl (nI no) od ow ol ork olf oco at_ aw (nI 0) mpl msh (fun i => if i < (k + 1) then 0 else msl i) mwa mse) := zw_D ew40_msl hD
        exact ih7 (k + 1) (by omega) (by omega) _ _ _ hP hD hS hl
  have eq41_0 : (0 : Int32) = nI 0 := by
    rfl
  have hl := lv_sub hl [0, 1, 2] rfl
  have hl : lv_has ls 5 [(2, Value.int (0 : Int32)), (0, Value.ref (a 0)), (1, Value.int (nI j))] := hl
  have hl : lv_has ls 5 [(2, Value.int (nI 0)), (0, Value.ref (a 0)), (1, Value.int (nI j))] := lv_as hl (congrArg (fun z => [(2, Value.int z), (0, Value.ref (a 0)), (1, Value.int (nI j))]) eq41_0)
  have ew42_msl : msl = (fun i => if i < 0 then 0 else msl i) := by
    first
    | with_reducible rfl
    | exact funext fun j => (if_neg (Nat.not_lt_zero j)).symm
  have ew42_msl := congrArg (fun z => wM a y mth (nI t) tb tf ts cap clr mov hom wm (nI nw) wf wt (nI nb) fr bw bl (nI no) od ow ol ork olf oco at_ aw (nI 0) mpl msh z mwa mse) ew42_msl
  have hP : va_P D vwCl (wM a y mth (nI t) tb tf ts cap clr mov hom wm (nI nw) wf wt (nI nb) fr bw bl (nI no) od ow ol ork olf oco at_ aw (nI 0) mpl msh (fun i => if i < 0 then 0 else msl i) mwa mse) _ := zw_P ew42_msl hP
  have hD : va_D A (wM a y mth (nI t) tb tf ts cap clr mov hom wm (nI nw) wf wt (nI nb) fr bw bl (nI no) od ow ol ork olf oco at_ aw (nI 0) mpl msh (fun i => if i < 0 then 0 else msl i) mwa mse) := zw_D ew42_msl hD
  exact LP7 (2048 - 0 + 1) 0 (by omega) (Nat.lt_succ_self _) _ _ _ hP hD hS hl
