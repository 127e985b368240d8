set_option maxHeartbeats 800000 in
set_option maxRecDepth 100000 in
theorem c_X6_arranges (l : Launch) (D : va_G) (y : Nat → ClassId) (a : Nat → Nat) (mth : Int32) (t : Nat) (tb tf ts cap clr mov hom : Int32) (wm : Int64) (nw : Nat) (wf wt : Nat → Int32) (nb : Nat) (fr bw bl : Nat → Int32) (no : Nat) (od ow ol ork olf oco at_ aw : Nat → Int32) (mp : Int32) (mpl msh msl mwa mse : Nat → Int32) (cc : Nat) (g : Nat → Int32) (hb8 : no ≤ 8) (hb6 : nb ≤ 6) (hva : Va nb no g) (hcc : cc = cdN g nb no 6) : zP l D y yX6_arranges cX6_arranges 4 none 0 0 0 0 [Value.ref (a 0), Value.int (nI cc)] (wM a y mth (nI t) tb tf ts cap clr mov hom wm (nI nw) wf wt (nI nb) fr bw bl (nI no) od ow ol ork olf oco at_ aw mp mpl msh msl mwa mse) (fun o9 w9 => ∃ (at9 : Nat → Int32), ((∀ j, j < no → at9 j = g j) ∧ ∀ j, no ≤ j → at9 j = at_ j) ∧ o9 = none ∧ w9 = wM a y mth (nI t) tb tf ts cap clr mov hom wm (nI nw) wf wt (nI nb) fr bw bl (nI no) od ow ol ork olf oco at9 aw mp mpl msh msl mwa mse) := by
  refine zP.of (by decide +kernel) (Nat.le_of_ble_eq_true rfl) ?_
  intro p e s m args below meth c A ls hx hb hr hta hown hlocks hml hin hN hK hP hD hS hA hl
  refine z_gen (fun G hG => ?_)
  have hl : lv_has ls 4 [(0, Value.ref (a 0)), (1, Value.int (nI cc))] := hl
  refine lv_iload_n hx hb dX6_arranges_0 rfl (lv_at hl 1 rfl) ?_
  refine lv_istore_n (lv' := [(2, Value.int (nI cc)), (0, Value.ref (a 0)), (1, Value.int (nI cc))]) hx hb dX6_arranges_1 rfl hl (by decide) rfl (fun ls hl => ?_)
  refine lv_iconst (v := (0 : Int32)) hx hb dX6_arranges_2 (by decide) ?_
  refine lv_istore_n (lv' := [(3, Value.int (0 : Int32)), (2, Value.int (nI cc)), (0, Value.ref (a 0)), (1, Value.int (nI cc))]) hx hb dX6_arranges_3 rfl hl (by decide) rfl (fun ls hl => ?_)
  have LP4 : ∀ (n : Nat) (j : Nat), (j ≤ no) → no - j < n → ∀ (H : Heap) (locs : List Loc) (ls : Array Slot), va_P D vwCl (wM a y mth (nI t) tb tf ts cap clr mov hom wm (nI nw) wf wt (nI nb) fr bw bl (nI no) od ow ol ork olf oco (fun i => if i < j then -1 else at_ i) aw mp mpl msh msl mwa mse) H → va_D A (wM a y mth (nI t) tb tf ts cap clr mov hom wm (nI nw) wf wt (nI nb) fr bw bl (nI no) od ow ol ork olf oco (fun i => if i < j then -1 else at_ i) aw mp mpl msh msl mwa mse) → va_S A s.heap H locs → lv_has ls 4 [(3, Value.int (nI j)), (2, Value.int (nI cc)), (0, Value.ref (a 0)), (1, Value.int (nI cc))] → W p l e ({ frames := 0, cells := 0, slots := 0, locals := 0 } : Room) s m args below meth c H locs 0 0 G (F0 m 4 ls []) := by
    intro n
    induction n with
    | zero => intro j hj hn; exact absurd hn (Nat.not_lt_zero _)
    | succ n ih4 =>
      intro j hj hn H locs ls hP hD hS hl
      refine lv_iload_n hx hb dX6_arranges_4 rfl (lv_at hl 0 rfl) ?_
      refine lv_aload_n hx hb dX6_arranges_5 rfl (lv_at hl 2 rfl) ?_
      refine gM6_boats hx hb hta hown hK hP wd_8_13 dX6_arranges_6 ?_
      refine lv_icmp_ge (tgt := 25) hx hb dX6_arranges_9 (by decide) (fun c9 => ?_) (fun c9 => ?_)
      · have c9 : no ≤ j := (nI_leI (a := no) (b := j) (by omega) (by omega)).mp c9
        refine lv_iconst (v := (5 : Int32)) hx hb dX6_arranges_25 (by decide) ?_
        refine lv_istore_n (lv' := [(3, Value.int (5 : Int32)), (2, Value.int (nI cc)), (0, Value.ref (a 0)), (1, Value.int (nI cc))]) hx hb dX6_arranges_26 rfl hl (by decide) rfl (fun ls hl => ?_)
        have LP27 : ∀ (n : Nat) (b : Nat) (at1 : Nat → Int32), (b ≤ 6) → (arG at_ g no b at1) → b < n → ∀ (H : Heap) (locs : List Loc) (ls : Array Slot), va_P D vwCl (wM a y mth (nI t) tb tf ts cap clr mov hom wm (nI nw) wf wt (nI nb) fr bw bl (nI no) od ow ol ork olf oco at1 aw mp mpl msh msl mwa mse) H → va_D A (wM a y mth (nI t) tb tf ts cap clr mov hom wm (nI nw) wf wt (nI nb) fr bw bl (nI no) od ow ol ork olf oco at1 aw mp mpl msh msl mwa mse) → va_S A s.heap H locs → lv_has ls 4 [(3, Value.int (fI b)), (2, Value.int (nI (cdN g nb no b))), (0, Value.ref (a 0)), (1, Value.int (nI cc))] → W p l e ({ frames := 0, cells := 0, slots := 0, locals := 0 } : Room) s m args below meth c H locs 0 0 G (F0 m 27 ls []) := by
          intro n
          induction n with
          | zero => intro b at1 hbb hag hn; exact absurd hn (Nat.not_lt_zero _)
          | succ n ih27 =>
            intro b at1 hbb hag hn H locs ls hP hD hS hl
            refine lv_iload_n hx hb dX6_arranges_27 rfl (lv_at hl 0 rfl) ?_
            refine lv_if_lt (tgt := 61) hx hb dX6_arranges_28 (by decide) (fun c28 => ?_) (fun c28 => ?_)
            · refine z_vret hG hx hb hr hlocks hP hD hS (Nat.le_of_ble_eq_true rfl) (Nat.le_of_ble_eq_true rfl) dX6_arranges_61 ?_
              obtain rfl : b = 0 := fI_neg (by omega) c28
              exact ⟨_, ⟨fun j hj => (hag.1 j hj).trans (ar_0 hva (by omega) hj), hag.2⟩, rfl, rfl⟩
            · obtain ⟨b2, rfl⟩ := fI_pos c28
              have hcd := cd_6 (g := g) (nb := nb) (no := no) (k := b2 + 1) hb8 (by omega)
              have hl : lv_has ls 4 [(3, Value.int (nI b2)), (2, Value.int (nI (cdN g nb no (b2 + 1)))), (0, Value.ref (a 0)), (1, Value.int (nI cc))] := hl
              refine lv_iload_n hx hb dX6_arranges_31 rfl (lv_at hl 1 rfl) ?_
              refine lv_bipush (v := (9 : Int32)) hx hb dX6_arranges_32 (by decide) ?_
              refine lv_irem hx hb dX6_arranges_34 (by decide) ?_
              refine zr_top (y := nI (cdN g nb no (b2 + 1) % 9)) (pk_rem (by omega) (by decide) (by decide)) ?_
              refine lv_if_le (tgt := 50) hx hb dX6_arranges_35 (by decide) (fun c35 => ?_) (fun c35 => ?_)
              · have c35 : (cdN g nb no (b2 + 1) % 9) ≤ 0 := (nI_leI (a := (cdN g nb no (b2 + 1) % 9)) (b := 0) (by omega) (by omega)).mp c35
                refine lv_iload_n hx hb dX6_arranges_50 rfl (lv_at hl 1 rfl) ?_
                refine lv_bipush (v := (9 : Int32)) hx hb dX6_arranges_51 (by decide) ?_
                refine lv_idiv hx hb dX6_arranges_53 (by decide) ?_
                refine zr_top (y := nI (cdN g nb no b2)) ((pk_div (by omega) (by decide) (by decide)).trans (congrArg nI (cd_mod hb8 b2).2)) ?_
                refine lv_istore_n (lv' := [(2, Value.int (nI (cdN g nb no b2))), (3, Value.int (nI b2)), (0, Value.ref (a 0)), (1, Value.int (nI cc))]) hx hb dX6_arranges_54 rfl hl (by decide) rfl (fun ls hl => ?_)
                refine lv_iinc (v := fI b2) (lv' := [(3, Value.int (fI b2)), (2, Value.int (nI (cdN g nb no b2))), (0, Value.ref (a 0)), (1, Value.int (nI cc))]) hx hb dX6_arranges_55 hl (k := 1) rfl (fI_dec b2 (by omega)) (by decide) rfl (fun ls hl => ?_)
                refine lv_goto (tgt := 27) hx hb dX6_arranges_58 (by decide) ?_
                have hl := lv_sub hl [0, 1, 2, 3] rfl
                have hv1_hag : arG at_ g no b2 at1 := by
                  first
                  | exact arG_skip hva (by omega) hb8 (by omega) hag c35
                  | exact arG_set hva (by omega) hb8 (by omega) hag c35
                exact ih27 b2 at1 (by omega) hv1_hag (by omega) _ _ _ hP hD hS hl
              · have c35 : ¬ (cdN g nb no (b2 + 1) % 9) ≤ 0 := fun z => c35 ((nI_leI (a := (cdN g nb no (b2 + 1) % 9)) (b := 0) (by omega) (by omega)).mpr z)
                refine lv_aload_n hx hb dX6_arranges_38 rfl (lv_at hl 2 rfl) ?_
                refine gM6_at hx hb hta hown hK hP wd_5_6 dX6_arranges_39 ?_
                refine lv_iload_n hx hb dX6_arranges_42 rfl (lv_at hl 1 rfl) ?_
                refine lv_bipush (v := (9 : Int32)) hx hb dX6_arranges_43 (by decide) ?_
                refine lv_irem hx hb dX6_arranges_45 (by decide) ?_
                refine zr_top (y := nI (cdN g nb no (b2 + 1) % 9)) (pk_rem (by omega) (by decide) (by decide)) ?_
                refine lv_iconst (v := (1 : Int32)) hx hb dX6_arranges_46 (by decide) ?_
                refine lv_isub hx hb dX6_arranges_47 ?_
                refine zr_top (y := nI (cdN g nb no (b2 + 1) % 9 - 1)) (pk_sub (b := 1) (by omega)) ?_
                refine lv_iload_n hx hb dX6_arranges_48 rfl (lv_at hl 0 rfl) ?_
                refine sM_at_ hx hb hK hP hD hS (cdN g nb no (b2 + 1) % 9 - 1) rfl (by omega) dX6_arranges_49 (fun H locs hP hD hS => ?_)
                refine lv_iload_n hx hb dX6_arranges_50 rfl (lv_at hl 1 rfl) ?_
                refine lv_bipush (v := (9 : Int32)) hx hb dX6_arranges_51 (by decide) ?_
                refine lv_idiv hx hb dX6_arranges_53 (by decide) ?_
                refine zr_top (y := nI (cdN g nb no b2)) ((pk_div (by omega) (by decide) (by decide)).trans (congrArg nI (cd_mod hb8 b2).2)) ?_
                refine lv_istore_n (lv' := [(2, Value.int (nI (cdN g nb no b2))), (3, Value.int (nI b2)), (0, Value.ref (a 0)), (1, Value.int (nI cc))]) hx hb dX6_arranges_54 rfl hl (by decide) rfl (fun ls hl => ?_)
                refine lv_iinc (v := fI b2) (lv' := [(3, Value.int (fI b2)), (2, Value.int (nI (cdN g nb no b2))), (0, Value.ref (a 0)), (1, Value.int (nI cc))]) hx hb dX6_arranges_55 hl (k := 1) rfl (fI_dec b2 (by omega)) (by decide) rfl (fun ls hl => ?_)
                refine lv_goto (tgt := 27) hx hb dX6_arranges_58 (by decide) ?_
                have hl := lv_sub hl [0, 1, 2, 3] rfl
                have ew2_at : upd at1 (cdN g nb no (b2 + 1) % 9 - 1) (nI b2) = (upd at1 (cdN g nb no (b2 + 1) % 9 - 1) (nI b2)) := by
                  rfl
                have ew2_at := congrArg (fun z => wM a y mth (nI t) tb tf ts cap clr mov hom wm (nI nw) wf wt (nI nb) fr bw bl (nI no) od ow ol ork olf oco z aw mp mpl msh msl mwa mse) ew2_at
                have hP : va_P D vwCl (wM a y mth (nI t) tb tf ts cap clr mov hom wm (nI nw) wf wt (nI nb) fr bw bl (nI no) od ow ol ork olf oco (upd at1 (cdN g nb no (b2 + 1) % 9 - 1) (nI b2)) aw mp mpl msh msl mwa mse) _ := zw_P ew2_at hP
                have hD : va_D A (wM a y mth (nI t) tb tf ts cap clr mov hom wm (nI nw) wf wt (nI nb) fr bw bl (nI no) od ow ol ork olf oco (upd at1 (cdN g nb no (b2 + 1) % 9 - 1) (nI b2)) aw mp mpl msh msl mwa mse) := zw_D ew2_at hD
                have hv3_hag : arG at_ g no b2 (upd at1 (cdN g nb no (b2 + 1) % 9 - 1) (nI b2)) := by
                  first
                  | exact arG_skip hva (by omega) hb8 (by omega) hag c35
                  | exact arG_set hva (by omega) hb8 (by omega) hag c35
                exact ih27 b2 (upd at1 (cdN g nb no (b2 + 1) % 9 - 1) (nI b2)) (by omega) hv3_hag (by omega) _ _ _ hP hD hS hl
        have eq4_0 : (5 : Int32) = fI 6 := by
          first
          | with_reducible rfl
          | rw [hcc]
          | rfl
        have eq5_1 : nI cc = nI (cdN g nb no 6) := by
          first
          | with_reducible rfl
          | rw [hcc]
          | rfl
        have hl := lv_sub hl [0, 1, 2, 3] rfl
        have hl : lv_has ls 4 [(3, Value.int (5 : Int32)), (2, Value.int (nI cc)), (0, Value.ref (a 0)), (1, Value.int (nI cc))] := hl
        have hl : lv_has ls 4 [(3, Value.int (fI 6)), (2, Value.int (nI cc)), (0, Value.ref (a 0)), (1, Value.int (nI cc))] := lv_as hl (congrArg (fun z => [(3, Value.int z), (2, Value.int (nI cc)), (0, Value.ref (a 0)), (1, Value.int (nI cc))]) eq4_0)
        have hl : lv_has ls 4 [(3, Value.int (fI 6)), (2, Value.int (nI (cdN g nb no 6))), (0, Value.ref (a 0)), (1, Value.int (nI cc))] := lv_as hl (congrArg (fun z => [(3, Value.int (fI 6)), (2, Value.int z), (0, Value.ref (a 0)), (1, Value.int (nI cc))]) eq5_1)
        have hv6_hag : arG at_ g no 6 (fun i => if i < j then -1 else at_ i) := by
          rw [show j = no by omega]; exact arG_start hva (by omega)
        exact LP27 (6 + 1) 6 (fun i => if i < j then -1 else at_ i) (by omega) hv6_hag (Nat.lt_succ_self _) _ _ _ hP hD hS hl
      · have c9 : ¬ no ≤ j := fun z => c9 ((nI_leI (a := no) (b := j) (by omega) (by omega)).mpr z)
        refine lv_aload_n hx hb dX6_arranges_12 rfl (lv_at hl 2 rfl) ?_
        refine gM6_at hx hb hta hown hK hP wd_5_6 dX6_arranges_13 ?_
        refine lv_iload_n hx hb dX6_arranges_16 rfl (lv_at hl 0 rfl) ?_
        refine lv_iconst (v := (-1 : Int32)) hx hb dX6_arranges_17 (by decide) ?_
        refine sM_at_ hx hb hK hP hD hS j rfl (by omega) dX6_arranges_18 (fun H locs hP hD hS => ?_)
        refine lv_iinc (v := nI (j + 1)) (lv' := [(3, Value.int (nI (j + 1))), (2, Value.int (nI cc)), (0, Value.ref (a 0)), (1, Value.int (nI cc))]) hx hb dX6_arranges_19 hl (k := 0) rfl (nI_add j 1) (by decide) rfl (fun ls hl => ?_)
        refine lv_goto (tgt := 4) hx hb dX6_arranges_22 (by decide) ?_
        have hl := lv_sub hl [0, 1, 2, 3] rfl
        have ew7_at : upd (fun i => if i < j then -1 else at_ i) j (-1 : Int32) = (fun i => if i < (j + 1) then -1 else at_ i) := by
          first
          | with_reducible rfl
          | exact fill_step (-1) at_ j
        have ew7_at := congrArg (fun z => wM a y mth (nI t) tb tf ts cap clr mov hom wm (nI nw) wf wt (nI nb) fr bw bl (nI no) od ow ol ork olf oco z aw mp mpl msh msl mwa mse) ew7_at
        have hP : va_P D vwCl (wM a y mth (nI t) tb tf ts cap clr mov hom wm (nI nw) wf wt (nI nb) fr bw bl (nI no) od ow ol ork olf oco (fun i => if i < (j + 1) then -1 else at_ i) aw mp mpl msh msl mwa mse) _ := zw_P ew7_at hP
        have hD : va_D A (wM a y mth (nI t) tb tf ts cap clr mov hom wm (nI nw) wf wt (nI nb) fr bw bl (nI no) od ow ol ork olf oco (fun i => if i < (j + 1) then -1 else at_ i) aw mp mpl msh msl mwa mse) := zw_D ew7_at hD
        exact ih4 (j + 1) (by omega) (by omega) _ _ _ hP hD hS hl
  have eq8_0 : (0 : Int32) = nI 0 := by
    rfl
  have hl := lv_sub hl [0, 1, 2, 3] rfl
  have hl : lv_has ls 4 [(3, Value.int (0 : Int32)), (2, Value.int (nI cc)), (0, Value.ref (a 0)), (1, Value.int (nI cc))] := hl
  have hl : lv_has ls 4 [(3, Value.int (nI 0)), (2, Value.int (nI cc)), (0, Value.ref (a 0)), (1, Value.int (nI cc))] := lv_as hl (congrArg (fun z => [(3, Value.int z), (2, Value.int (nI cc)), (0, Value.ref (a 0)), (1, Value.int (nI cc))]) eq8_0)
  have ew9_at : at_ = (fun i => if i < 0 then -1 else at_ i) := by
    first
    | with_reducible rfl
    | exact funext fun j => (if_neg (Nat.not_lt_zero j)).symm
  have ew9_at := congrArg (fun z => wM a y mth (nI t) tb tf ts cap clr mov hom wm (nI nw) wf wt (nI nb) fr bw bl (nI no) od ow ol ork olf oco z aw mp mpl msh msl mwa mse) ew9_at
  have hP : va_P D vwCl (wM a y mth (nI t) tb tf ts cap clr mov hom wm (nI nw) wf wt (nI nb) fr bw bl (nI no) od ow ol ork olf oco (fun i => if i < 0 then -1 else at_ i) aw mp mpl msh msl mwa mse) _ := zw_P ew9_at hP
  have hD : va_D A (wM a y mth (nI t) tb tf ts cap clr mov hom wm (nI nw) wf wt (nI nb) fr bw bl (nI no) od ow ol ork olf oco (fun i => if i < 0 then -1 else at_ i) aw mp mpl msh msl mwa mse) := zw_D ew9_at hD
  exact LP4 (no - 0 + 1) 0 (by omega) (Nat.lt_succ_self _) _ _ _ hP hD hS hl
