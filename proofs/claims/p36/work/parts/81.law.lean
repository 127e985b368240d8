/-! the law over the script of the refutation: 598 cells at least are new behind it -/
def room_b : Room := { frames := 21, cells := 3000, slots := 20000, locals := 10880 }
def lw_Qb (_ : Array Value) (s : State) (_ : Outcome) (t : State) : Prop := s.heap.size + 598 ≤ t.heap.size
def lw_Zb (below : List Frame) (a : Array Value) (s : State) : State → Prop := fun t => ∃ o, t.status = .running ∧ Ended t below o ∧ lw_Qb a s o t
theorem lw_retb {p : Program} {l : Launch} {e : Env} {s : State} {m : MethodId} {below : List Frame} {meth : Method} {c : Code} {b : Nat} (hx : p.tables.exec = Jvm.exec) (hb : c.code = code) (hr : meth.sig.returnType = ret) (hlocks : meth.locks = false) {pc : Nat} {H : Heap} {locs : List Loc} {ls : Array Slot} (hdg : decode code pc = .ok (.ireturn, 1)) (hg : s.heap.size + 598 ≤ H.size) : W p l e room_b s m #[Value.ref b] below meth c H locs 3000 20000 (lw_Zb below #[Value.ref b] s) (F0 m pc ls [.int 1]) := by
  intro T hT X
  obtain ⟨fs, hret, hrun, hended, hW, hframe⟩ := X.leave (v := some (.int 1)) (hlocks := hlocks) (fun h => by rw [hr] at h; cases h)
  have hmeth' : T.vm.method? m = some meth := X.method'
  refine ⟨T.setFrames fs, ?_, .returned (some (.int 1)), hrun, hended, (by show s.heap.size + 598 ≤ T.heap.size; rw [hT]; exact hg)⟩
  jvm_step X.here [X.here.top, hx, hb, hdg, hmeth', hr, ret, narrow_b1]
  (try refine ⟨rfl, ?_⟩); (try refine ⟨rfl, ?_⟩)
  first | (intro acts; rw [hret _ acts rfl rfl rfl]) | rw [hret _ _ rfl rfl rfl]
  exact Steps.refl _
theorem lw_flags {l : Launch} (h : l.flags = flags0) : l.stackTraces = false := by
  unfold Launch.stackTraces
  rw [h]
  decide +kernel
/-- an hour that passes over boats without a coat changes no coat -/
theorem pd1 (k : Nat) : pdF (fun _ => 0) (fun _ => 0) 0 6 k (fun _ => 0) (nN (nI 1)) = (fun _ => 0) := by
  show pdF (fun _ => 0) (fun _ => 0) 0 6 k (fun _ => 0) (0 + 1) = _
  rw [pdF, if_neg (by simp [badF])]
  rfl
def LC (p : Program) (s : State) (m : MethodId) (meth : Method) (c : Code) (b : Nat) (D : va_G) (y : Nat → ClassId) : Prop :=
  p.tables.exec = Jvm.exec ∧ c.code = cL_law ∧ meth.sig.returnType = ret ∧ c.maxLocals = 12 ∧ s.vm.findClass RL = some m.cls ∧ (∀ w ∈ WA, w.before #[Value.ref b] s = true) ∧ va_X b 83 scr s s.heap ∧ b < s.heap.size ∧ meth.locks = false ∧ zN (lwA s) s s.heap ∧ zH s ∧ va_K D vwCl (zT y) s
set_option maxHeartbeats 4000000 in
set_option maxRecDepth 100000 in
theorem law_loop {p : Program} {l : Launch} {e : Env} {s : State} {m : MethodId} {below : List Frame} {meth : Method} {c : Code} {D : va_G} {y : Nat → ClassId} {b : Nat} {a : Nat → Nat} (hlt : l.stackTraces = false) (C0 : LC p s m meth c b D y) (bw bl bi bb od ow ol ork ob : Nat → Int32) (hbb : ∀ j, j < 5 → bb j = -1) (hob : ∀ j, j < 6 → ob j = -1) :
    ∀ (n k : Nat), k ≤ 26 → 26 - k < n → ∀ (H : Heap) (locs : List Loc) (ls : Array Slot), va_P D vwCl (wB a y (nI 40) (nI 0) (nI k) (-1) 0 0 (nI 150) (nI 0) (nI 0) (nI 0) (fun _ => 0) (fun _ => 0) (nI 5) bw bl bi bb (nI 6) od ow ol ork ob (fun _ => 0) (fun _ => 0) 0 0 0 (fun _ => 0) (fun _ => 0) (fun _ => 0)) H → va_D (lwA s) (wB a y (nI 40) (nI 0) (nI k) (-1) 0 0 (nI 150) (nI 0) (nI 0) (nI 0) (fun _ => 0) (fun _ => 0) (nI 5) bw bl bi bb (nI 6) od ow ol ork ob (fun _ => 0) (fun _ => 0) 0 0 0 (fun _ => 0) (fun _ => 0) (fun _ => 0)) → va_S (lwA s) s.heap H locs → s.heap.size + 23 * k ≤ H.size → lv_has ls 12 [(4, Value.int (nI k)), (3, Value.int (nI 6)), (2, Value.int (nI 5)), (1, Value.ref (a 0)), (0, Value.ref b)] →
      W p l e room_b s m #[Value.ref b] below meth c H locs (100 + 90 * k) (3000 + 600 * k) (lw_Zb below #[Value.ref b] s) (F0 m 44 ls []) := by
  obtain ⟨hx, hb, hr, hml, hown, hta, hX, hbl, hlocks, hN, hH, hK⟩ := C0
  have hA : ∀ q : Nat, s.heap.size ≤ q → lwA s q := fun _ h => h
  have hbA : ¬ lwA s b := Nat.not_le.mpr hbl
  intro n
  induction n with
  | zero => intro k _ hn; exact absurd hn (Nat.not_lt_zero _)
  | succ n ih =>
    intro k hk26 hnk H locs ls hP hD hS hg hl
    refine lv_iload hx hb dL_law_44 (lv_at hl 0 rfl) ?_
    refine lv_bipush (v := nI 26) hx hb dL_law_46 (by decide) ?_
    refine lv_icmp_ge (tgt := 481) hx hb dL_law_48 (by decide) (fun h9 => ?_) (fun h9 => ?_)
    · have hk : k = 26 := by
        have := (nI_leI (a := 26) (b := k) (by decide) (by omega)).mp h9
        omega
      subst hk
      refine lv_aload_n hx hb dL_law_481 rfl (lv_at hl 3 rfl) ?_
      refine z_callVg (As := []) (rest := []) hx hb hml hown hta zm_X5_forgetWeather wd_23_19 (c_X5_forgetWeather l D y a (nI 40) (nI 0) 26 (-1) 0 0 (nI 150) (nI 0) (nI 0) 0 (fun _ => 0) (fun _ => 0) 5 bw bl bi bb 6 od ow ol ork ob (fun _ => 0) (fun _ => 0) 0 0 0 (fun _ => 0) (fun _ => 0) (fun _ => 0) (by decide)) hN hK hP hD hS hA 0 rfl rfl rfl hl rfl (Nat.le_of_ble_eq_true rfl) ⟨(Nat.le_of_ble_eq_true rfl), (Nat.le_of_ble_eq_true rfl)⟩ ⟨by show _ ≤ 3000; omega, by show _ ≤ 20000; omega⟩ dL_law_482 (fun v w' H locs hq hP hD hS hn => ?_)
      obtain ⟨rfl, rfl⟩ := hq
      have hg := Nat.le_trans hg hn
      have hP : va_P D vwCl (wB a y (nI 40) (nI 0) (nI 26) (-1) 0 0 (nI 150) (nI 0) (nI 0) (nI 0) (fun _ => 0) (fun _ => 0) (nI 5) bw bl bi bb (nI 6) od ow ol ork ob (fun _ => 0) (fun _ => 0) 0 0 0 (fun _ => 0) (fun _ => 0) (fun _ => 0)) H := hP
      have hD : va_D (lwA s) (wB a y (nI 40) (nI 0) (nI 26) (-1) 0 0 (nI 150) (nI 0) (nI 0) (nI 0) (fun _ => 0) (fun _ => 0) (nI 5) bw bl bi bb (nI 6) od ow ol ork ob (fun _ => 0) (fun _ => 0) 0 0 0 (fun _ => 0) (fun _ => 0) (fun _ => 0)) := hD
      refine zr_top (y := nI 0) (rfl) ?_
      refine lv_bipush (v := nI 6) hx hb dL_law_485 (by decide) ?_
      refine lv_icmp_gt (tgt := 503) hx hb dL_law_487 (by decide) (fun h9 => absurd h9 (by decide)) (fun _ => ?_)
      refine lv_aload_n hx hb dL_law_490 rfl (lv_at hl 3 rfl) ?_
      refine z_callVg (As := []) (rest := []) hx hb hml hown hta zm_X5_movedWeight wd_24_3 (c_X5_movedWeight l D y a (nI 40) (nI 0) 26 (-1) 0 0 (nI 150) (nI 0) (nI 0) 0 (fun _ => 0) (fun _ => 0) 5 bw bl bi bb 6 od ow ol ork ob (fun _ => 0) (fun _ => 0) 0 0 0 (fun _ => 0) (fun _ => 0) (fun _ => 0)) hN hK hP hD hS hA 0 rfl rfl rfl hl rfl (Nat.le_of_ble_eq_true rfl) ⟨(Nat.le_of_ble_eq_true rfl), (Nat.le_of_ble_eq_true rfl)⟩ ⟨by show _ ≤ 3000; omega, by show _ ≤ 20000; omega⟩ dL_law_491 (fun v w' H locs hq hP hD hS hn => ?_)
      obtain ⟨rfl, rfl⟩ := hq
      have hg := Nat.le_trans hg hn
      have hP : va_P D vwCl (wB a y (nI 40) (nI 0) (nI 26) (-1) 0 0 (nI 150) (nI 0) (nI 0) (nI 0) (fun _ => 0) (fun _ => 0) (nI 5) bw bl bi bb (nI 6) od ow ol ork ob (fun _ => 0) (fun _ => 0) 0 0 0 (fun _ => 0) (fun _ => 0) (fun _ => 0)) H := hP
      have hD : va_D (lwA s) (wB a y (nI 40) (nI 0) (nI 26) (-1) 0 0 (nI 150) (nI 0) (nI 0) (nI 0) (fun _ => 0) (fun _ => 0) (nI 5) bw bl bi bb (nI 6) od ow ol ork ob (fun _ => 0) (fun _ => 0) 0 0 0 (fun _ => 0) (fun _ => 0) (fun _ => 0)) := hD
      refine lv_lconst (v := (0 : Int64)) hx hb dL_law_494 (by decide) ?_
      refine W.lcmp hx hb dL_law_495 ?_
      refine zr_top (y := nI 0) (by decide +kernel) ?_
      refine lv_if_lt (tgt := 503) hx hb dL_law_496 (by decide) (fun h9 => absurd h9 (by decide)) (fun _ => ?_)
      refine lv_iconst (v := nI 1) hx hb dL_law_499 (by decide) ?_
      refine lv_goto (tgt := 504) hx hb dL_law_500 (by decide) ?_
      exact W.widen (by omega) (by omega) (lw_retb hx hb hr hlocks dL_law_504 hg)
    · have hk : k < 26 := by
        have h8 : ¬ 26 ≤ k := fun z => h9 ((nI_leI (a := 26) (b := k) (by decide) (by omega)).mpr z)
        omega
      refine lv_aload_n hx hb dL_law_51 rfl (lv_at hl 4 rfl) ?_
      refine lv_bipush (v := nI 57) hx hb dL_law_52 (by decide) ?_
      refine lv_iload hx hb dL_law_54 (lv_at hl 0 rfl) ?_
      refine lv_iadd hx hb dL_law_56 ?_
      refine zr_top (y := nI (57 + k)) (nI_add 57 k) ?_
      refine z_callL (wa := []) (w1 := []) (wb := wB a y (nI 40) (nI 0) (nI k) (-1) 0 0 (nI 150) (nI 0) (nI 0) (nI 0) (fun _ => 0) (fun _ => 0) (nI 5) bw bl bi bb (nI 6) od ow ol ork ob (fun _ => 0) (fun _ => 0) 0 0 0 (fun _ => 0) (fun _ => 0) (fun _ => 0)) (As := [Value.ref b, Value.int (nI (57 + k))]) (rest := []) hx hb hml hown hta zm_L_cell wd_4_8 (c_L_cell l D y b (57 + k) (by omega)) hH hX hbl hbA hN hK hP hD hS hA rfl hl rfl (Nat.le_of_ble_eq_true rfl) ⟨(Nat.le_of_ble_eq_true rfl), (Nat.le_of_ble_eq_true rfl)⟩ ⟨by show _ ≤ 3000; omega, by show _ ≤ 20000; omega⟩ dL_law_57 (fun v w' H locs hq hP hD hS hn => ?_)
      obtain ⟨rfl, rfl⟩ := hq
      have hg := Nat.le_trans hg hn
      have hP : va_P D vwCl (wB a y (nI 40) (nI 0) (nI k) (-1) 0 0 (nI 150) (nI 0) (nI 0) (nI 0) (fun _ => 0) (fun _ => 0) (nI 5) bw bl bi bb (nI 6) od ow ol ork ob (fun _ => 0) (fun _ => 0) 0 0 0 (fun _ => 0) (fun _ => 0) (fun _ => 0)) H := hP
      have hD : va_D (lwA s) (wB a y (nI 40) (nI 0) (nI k) (-1) 0 0 (nI 150) (nI 0) (nI 0) (nI 0) (fun _ => 0) (fun _ => 0) (nI 5) bw bl bi bb (nI 6) od ow ol ork ob (fun _ => 0) (fun _ => 0) 0 0 0 (fun _ => 0) (fun _ => 0) (fun _ => 0)) := hD
      refine zr_top (y := nI 1280) (scr_hi k) ?_
      refine lv_iconst (v := nI 1) hx hb dL_law_60 (by decide) ?_
      refine lv_iushr (v := nI 640) hx hb dL_law_61 (by decide +kernel) ?_
      refine lv_istore (lv' := [(5, Value.int (nI 640)), (4, Value.int (nI k)), (3, Value.int (nI 6)), (2, Value.int (nI 5)), (1, Value.ref (a 0)), (0, Value.ref b)]) hx hb dL_law_62 hl (by decide) rfl (fun ls hl => ?_)
      refine lv_iload hx hb dL_law_64 (lv_at hl 0 rfl) ?_
      refine lv_iload_n hx hb dL_law_66 rfl (lv_at hl 2 rfl) ?_
      refine lv_irem hx hb dL_law_67 (by decide) ?_
      refine zr_top (y := nI 4) (by decide +kernel) ?_
      refine lv_istore (lv' := [(6, Value.int (nI 4)), (5, Value.int (nI 640)), (4, Value.int (nI k)), (3, Value.int (nI 6)), (2, Value.int (nI 5)), (1, Value.ref (a 0)), (0, Value.ref b)]) hx hb dL_law_68 hl (by decide) rfl (fun ls hl => ?_)
      refine lv_iload hx hb dL_law_70 (lv_at hl 1 rfl) ?_
      refine lv_bipush (v := nI 8) hx hb dL_law_72 (by decide) ?_
      refine lv_idiv hx hb dL_law_74 (by decide) ?_
      refine zr_top (y := nI 80) (by decide +kernel) ?_
      refine lv_iload_n hx hb dL_law_75 rfl (lv_at hl 4 rfl) ?_
      refine lv_irem hx hb dL_law_76 (by decide) ?_
      refine zr_top (y := nI 0) (by decide +kernel) ?_
      refine lv_istore (lv' := [(7, Value.int (nI 0)), (6, Value.int (nI 4)), (5, Value.int (nI 640)), (4, Value.int (nI k)), (3, Value.int (nI 6)), (2, Value.int (nI 5)), (1, Value.ref (a 0)), (0, Value.ref b)]) hx hb dL_law_77 hl (by decide) rfl (fun ls hl => ?_)
      refine lv_iload hx hb dL_law_79 (lv_at hl 2 rfl) ?_
      refine lv_bipush (v := nI 64) hx hb dL_law_81 (by decide) ?_
      refine lv_idiv hx hb dL_law_83 (by decide) ?_
      refine zr_top (y := nI 10) (by decide +kernel) ?_
      refine lv_bipush (v := nI 16) hx hb dL_law_84 (by decide) ?_
      refine lv_irem hx hb dL_law_86 (by decide) ?_
      refine zr_top (y := nI 10) (by decide +kernel) ?_
      refine lv_istore (lv' := [(8, Value.int (nI 10)), (7, Value.int (nI 0)), (6, Value.int (nI 4)), (5, Value.int (nI 640)), (4, Value.int (nI k)), (3, Value.int (nI 6)), (2, Value.int (nI 5)), (1, Value.ref (a 0)), (0, Value.ref b)]) hx hb dL_law_87 hl (by decide) rfl (fun ls hl => ?_)
      refine lv_iload hx hb dL_law_89 (lv_at hl 3 rfl) ?_
      refine lv_sipush (v := nI 1024) hx hb dL_law_91 (by decide) ?_
      refine lv_idiv hx hb dL_law_94 (by decide) ?_
      refine zr_top (y := nI 0) (by decide +kernel) ?_
      refine lv_bipush (v := nI 48) hx hb dL_law_95 (by decide) ?_
      refine lv_irem hx hb dL_law_97 (by decide) ?_
      refine zr_top (y := nI 0) (by decide +kernel) ?_
      refine lv_iconst (v := nI 1) hx hb dL_law_98 (by decide) ?_
      refine lv_iadd hx hb dL_law_99 ?_
      refine zr_top (y := nI 1) (by decide +kernel) ?_
      refine lv_istore (lv' := [(9, Value.int (nI 1)), (8, Value.int (nI 10)), (7, Value.int (nI 0)), (6, Value.int (nI 4)), (5, Value.int (nI 640)), (4, Value.int (nI k)), (3, Value.int (nI 6)), (2, Value.int (nI 5)), (1, Value.ref (a 0)), (0, Value.ref b)]) hx hb dL_law_100 hl (by decide) rfl (fun ls hl => ?_)
      refine lv_iload hx hb dL_law_102 (lv_at hl 1 rfl) ?_
      refine lv_iconst (v := nI 5) hx hb dL_law_104 (by decide) ?_
      refine lv_icmp_ge (tgt := 137) hx hb dL_law_105 (by decide) (fun _ => ?_) (fun h9 => absurd (by decide) h9)
      refine lv_iload hx hb dL_law_137 (lv_at hl 1 rfl) ?_
      refine lv_bipush (v := nI 7) hx hb dL_law_139 (by decide) ?_
      refine lv_icmp_ge (tgt := 155) hx hb dL_law_141 (by decide) (fun _ => ?_) (fun h9 => absurd (by decide) h9)
      refine lv_iload hx hb dL_law_155 (lv_at hl 1 rfl) ?_
      refine lv_bipush (v := nI 10) hx hb dL_law_157 (by decide) ?_
      refine lv_icmp_ge (tgt := 175) hx hb dL_law_159 (by decide) (fun _ => ?_) (fun h9 => absurd (by decide) h9)
      refine lv_iload hx hb dL_law_175 (lv_at hl 1 rfl) ?_
      refine lv_bipush (v := nI 13) hx hb dL_law_177 (by decide) ?_
      refine lv_icmp_ge (tgt := 212) hx hb dL_law_179 (by decide) (fun h9 => absurd h9 (by decide)) (fun _ => ?_)
      refine lv_aload_n hx hb dL_law_182 rfl (lv_at hl 8 rfl) ?_
      refine z_callVg (As := []) (rest := []) hx hb hml hown hta zm_X5_time wd_19_1 (c_X5_time l D y a (nI 40) (nI 0) k (-1) 0 0 (nI 150) (nI 0) (nI 0) 0 (fun _ => 0) (fun _ => 0) 5 bw bl bi bb 6 od ow ol ork ob (fun _ => 0) (fun _ => 0) 0 0 0 (fun _ => 0) (fun _ => 0) (fun _ => 0)) hN hK hP hD hS hA 0 rfl rfl rfl hl rfl (Nat.le_of_ble_eq_true rfl) ⟨(Nat.le_of_ble_eq_true rfl), (Nat.le_of_ble_eq_true rfl)⟩ ⟨by show _ ≤ 3000; omega, by show _ ≤ 20000; omega⟩ dL_law_183 (fun v w' H locs hq hP hD hS hn => ?_)
      obtain ⟨rfl, rfl⟩ := hq
      have hg := Nat.le_trans hg hn
      refine lv_istore (lv' := [(11, Value.int (nI k)), (9, Value.int (nI 1)), (8, Value.int (nI 10)), (7, Value.int (nI 0)), (6, Value.int (nI 4)), (5, Value.int (nI 640)), (4, Value.int (nI k)), (3, Value.int (nI 6)), (2, Value.int (nI 5)), (1, Value.ref (a 0)), (0, Value.ref b)]) hx hb dL_law_186 hl (by decide) rfl (fun ls hl => ?_)
      refine lv_aload_n hx hb dL_law_188 rfl (lv_at hl 9 rfl) ?_
      refine lv_iload hx hb dL_law_189 (lv_at hl 1 rfl) ?_
      refine z_callW (As := [Value.ref (a 0), Value.int (nI 1)]) (rest := []) hx hb hml hown hta zw_pass wd_16_11 (c_L_pass l hlt D y a (nI 40) (nI 0) k (-1) 0 0 (nI 150) (nI 0) (nI 0) 0 (fun _ => 0) (fun _ => 0) 5 bw bl bi bb 6 od ow ol ork ob (fun _ => 0) (fun _ => 0) 0 0 0 (fun _ => 0) (fun _ => 0) (fun _ => 0) (nI 1) (by decide) (by decide) (by omega) (by rw [psC, if_pos (by decide +kernel), if_pos (by show k + 1 ≤ 9999; omega)]) b) hH hX hbl hbA hN hK hP hD hS hA rfl hl rfl (Nat.le_of_ble_eq_true rfl) ⟨(Nat.le_of_ble_eq_true rfl), (Nat.le_of_ble_eq_true rfl)⟩ ⟨by show _ ≤ 3000; omega, by show _ ≤ 20000; omega⟩ dL_law_191 (fun v w' H locs hq hP hD hS hn => ?_)
      obtain ⟨rfl, rfl⟩ := hq
      have hg := Nat.le_trans hg hn
      have hP : va_P D vwCl (wB a y (nI 40) (nI 0) (nI (k + 1)) (-1) 0 0 (nI 150) (nI 0) (nI 0) (nI 0) (fun _ => 0) (fun _ => 0) (nI 5) bw bl bi bb (nI 6) od ow ol ork ob (fun _ => 0) (fun _ => 0) 0 0 0 (fun _ => 0) (fun _ => 0) (fun _ => 0)) H := by rw [pd1 k] at hP; exact hP
      have hD : va_D (lwA s) (wB a y (nI 40) (nI 0) (nI (k + 1)) (-1) 0 0 (nI 150) (nI 0) (nI 0) (nI 0) (fun _ => 0) (fun _ => 0) (nI 5) bw bl bi bb (nI 6) od ow ol ork ob (fun _ => 0) (fun _ => 0) 0 0 0 (fun _ => 0) (fun _ => 0) (fun _ => 0)) := by rw [pd1 k] at hD; exact hD
      refine zr_top (y := nI (k + 1)) (rfl) ?_
      refine lv_iload hx hb dL_law_194 (lv_at hl 0 rfl) ?_
      refine lv_iload hx hb dL_law_196 (lv_at hl 1 rfl) ?_
      refine lv_iadd hx hb dL_law_198 ?_
      refine zr_top (y := nI (k + 1)) (nI_add k 1) ?_
      refine lv_icmp_ne (tgt := 206) hx hb dL_law_199 (by decide) (fun h9 => absurd rfl h9) (fun _ => ?_)
      refine lv_iconst (v := nI 1) hx hb dL_law_202 (by decide) ?_
      refine lv_goto (tgt := 207) hx hb dL_law_203 (by decide) ?_
      refine lv_istore (lv' := [(10, Value.int (nI 1)), (11, Value.int (nI k)), (9, Value.int (nI 1)), (8, Value.int (nI 10)), (7, Value.int (nI 0)), (6, Value.int (nI 4)), (5, Value.int (nI 640)), (4, Value.int (nI k)), (3, Value.int (nI 6)), (2, Value.int (nI 5)), (1, Value.ref (a 0)), (0, Value.ref b)]) hx hb dL_law_207 hl (by decide) rfl (fun ls hl => ?_)
      refine lv_goto (tgt := 459) hx hb dL_law_209 (by decide) ?_
      refine lv_iload hx hb dL_law_459 (lv_at hl 0 rfl) ?_
      refine lv_if_eq (tgt := 473) hx hb dL_law_461 (by decide) (fun h9 => absurd h9 (by decide)) (fun _ => ?_)
      refine lv_aload_n hx hb dL_law_464 rfl (lv_at hl 10 rfl) ?_
      refine lv_iload_n hx hb dL_law_465 rfl (lv_at hl 9 rfl) ?_
      refine lv_iload_n hx hb dL_law_466 rfl (lv_at hl 8 rfl) ?_
      refine z_callM (As := [Value.ref (a 0), Value.int (nI 5), Value.int (nI 6)]) (rest := []) hx hb hml hown hta zm_L_places wd_21_13 (c_L_places l hlt D y a (nI 40) (nI 0) (k + 1) (-1) 0 0 (nI 150) (nI 0) (nI 0) 0 (fun _ => 0) (fun _ => 0) bw bl bi bb od ow ol ork ob (fun _ => 0) (fun _ => 0) 0 0 0 (fun _ => 0) (fun _ => 0) (fun _ => 0) hbb hob (fun _ _ => rfl) b) hH hX hbl hbA hN hK hP hD hS hA rfl hl rfl (Nat.le_of_ble_eq_true rfl) ⟨(Nat.le_of_ble_eq_true rfl), (Nat.le_of_ble_eq_true rfl)⟩ ⟨by show _ ≤ 3000; omega, by show _ ≤ 20000; omega⟩ dL_law_467 (fun v w' H locs hq hP hD hS hn => ?_)
      obtain ⟨rfl, rfl⟩ := hq
      have hg : s.heap.size + 23 * (k + 1) ≤ H.size := by omega
      refine lv_if_ne (tgt := 475) hx hb dL_law_470 (by decide) (fun _ => ?_) (fun h9 => absurd h9 (by decide))
      refine lv_iinc (v := nI (k + 1)) (lv' := [(4, Value.int (nI (k + 1))), (10, Value.int (nI 1)), (11, Value.int (nI k)), (9, Value.int (nI 1)), (8, Value.int (nI 10)), (7, Value.int (nI 0)), (6, Value.int (nI 4)), (5, Value.int (nI 640)), (3, Value.int (nI 6)), (2, Value.int (nI 5)), (1, Value.ref (a 0)), (0, Value.ref b)]) hx hb dL_law_475 hl (k := 7) rfl (nI_add k 1) (by decide) rfl (fun ls hl => ?_)
      refine lv_goto (tgt := 44) hx hb dL_law_478 (by decide) ?_
      refine W.widen (k := 100 + 90 * (k + 1)) (n := 3000 + 600 * (k + 1)) (by omega) (by omega) ?_
      exact ih (k + 1) (by omega) (by omega) _ _ _ hP hD hS hg (lv_sub hl [0, 8, 9, 10, 11] rfl)
set_option maxHeartbeats 4000000 in
set_option maxRecDepth 100000 in
/-- THE LAW, from its entry -/
theorem whole_b {p : Program} {e : Env} {s : State} {m : MethodId} {below : List Frame} {meth : Method} {c : Code} (l : Launch) (hflags : l.flags = flags0) {b : Nat} {D : va_G} {y : Nat → ClassId} (C0 : LC p s m meth c b D y) : W p l e room_b s m #[Value.ref b] below meth c s.heap [] 0 0 (lw_Zb below #[Value.ref b] s) (entryFrame m ([Value.ref b] : List Value).toArray 12) := by
  have hlt : l.stackTraces = false := lw_flags hflags
  have C1 := C0
  obtain ⟨hx, hb, hr, hml, hown, hta, hX, hbl, hlocks, hN, hH, hK⟩ := C0
  have hA : ∀ q : Nat, s.heap.size ≤ q → lwA s q := fun _ h => h
  have hbA : ¬ lwA s b := Nat.not_le.mpr hbl
  have hS : va_S (lwA s) s.heap s.heap [] := va_S.rf
  have hP : va_P D vwCl [] s.heap := fun k q h => by simp at h
  have hD : va_D (lwA s) [] := ⟨fun i j p q h => by simp at h, fun k q h => by simp at h⟩
  have hl := lv_entry ([.ref b]) (n := 12) (Nat.le_of_ble_eq_true rfl)
  rw [lg_entry_eq]
  generalize (lg_sl ([.ref b]) ++ List.replicate (12 - (lg_sl ([.ref b])).length) Slot.unset).toArray = ls at hl ⊢
  have hl : lv_has ls 12 [(0, .ref b)] := hl
  refine va_new (D := D) (ci := 7) (fs := [.null, .null, .null, .null, .null, .int 0, .int 0, .int 0, .int 0, .int 0, .long 0]) (C := RX5) (T := TX5) (N := 11) hx hb hta inlX5 tyX5 tyX5_ok hown (hta _ wd_1_0) (hta _ wd_1_1) (hta _ wd_1_2) hK hP hD hS hA rfl (fun j hj => by rcases (show j = 0 ∨ j = 1 ∨ j = 2 ∨ j = 3 ∨ j = 4 ∨ j = 5 ∨ j = 6 ∨ j = 7 ∨ j = 8 ∨ j = 9 ∨ j = 10 by omega) with rfl | rfl | rfl | rfl | rfl | rfl | rfl | rfl | rfl | rfl | rfl <;> rfl) (Nat.le_of_ble_eq_true rfl) (Nat.le_of_ble_eq_true rfl) dL_law_0 (fun q1 H hP hD hS => ?_)
  refine lv_dup hx hb dL_law_3 rfl ?_
  refine z_callI (As := []) (rest := [Value.ref q1]) (wa := []) (w1 := [(q1, .inr (7, [.null, .null, .null, .null, .null, .int 0, .int 0, .int 0, .int 0, .int 0, .long 0]))]) (wb := []) hx hb hml hown hta wd_1_5 wd_1_2 wd_1_4 rfl (by decide +kernel) wd_1_3 (c_X5_init l D y q1) hN hK hP hD hS hA rfl hl rfl (Nat.le_of_ble_eq_true rfl) ⟨(Nat.le_of_ble_eq_true rfl), (Nat.le_of_ble_eq_true rfl)⟩ ⟨(Nat.le_of_ble_eq_true rfl), (Nat.le_of_ble_eq_true rfl)⟩ dL_law_4 (fun v w' H locs hq hP hD hS => ?_)
  obtain ⟨rfl, a, rfl, rfl⟩ := hq
  have hP : va_P D vwCl (wB a y 100 10 (nI 0) (-1) 0 0 200 40 10 (nI 0) (fun _ => 0) (fun _ => 0) (nI 0) (fun _ => 0) (fun _ => 0) (fun _ => 0) (fun _ => 0) (nI 0) (fun _ => 0) (fun _ => 0) (fun _ => 0) (fun _ => 0) (fun _ => 0) (fun _ => 0) (fun _ => 0) 0 0 0 (fun _ => 0) (fun _ => 0) (fun _ => 0)) H := z_nn hP
  have hD : va_D (lwA s) (wB a y 100 10 (nI 0) (-1) 0 0 200 40 10 (nI 0) (fun _ => 0) (fun _ => 0) (nI 0) (fun _ => 0) (fun _ => 0) (fun _ => 0) (fun _ => 0) (nI 0) (fun _ => 0) (fun _ => 0) (fun _ => 0) (fun _ => 0) (fun _ => 0) (fun _ => 0) (fun _ => 0) 0 0 0 (fun _ => 0) (fun _ => 0) (fun _ => 0)) := z_nnD hD
  have hg : s.heap.size + 0 ≤ H.size := hS.1
  refine lv_astore_n (lv' := [(1, Value.ref (a 0)), (0, Value.ref b)]) hx hb dL_law_7 rfl hl (by decide) rfl (fun ls hl => ?_)
  refine lv_iconst (v := nI 1) hx hb dL_law_8 (by decide) ?_
  refine lv_aload_n hx hb dL_law_9 rfl (lv_at hl 1 rfl) ?_
  refine lv_bipush (v := nI 55) hx hb dL_law_10 (by decide) ?_
  refine lv_iconst (v := nI 5) hx hb dL_law_12 (by decide) ?_
  refine z_callL (wa := []) (w1 := []) (wb := wB a y 100 10 (nI 0) (-1) 0 0 200 40 10 (nI 0) (fun _ => 0) (fun _ => 0) (nI 0) (fun _ => 0) (fun _ => 0) (fun _ => 0) (fun _ => 0) (nI 0) (fun _ => 0) (fun _ => 0) (fun _ => 0) (fun _ => 0) (fun _ => 0) (fun _ => 0) (fun _ => 0) 0 0 0 (fun _ => 0) (fun _ => 0) (fun _ => 0)) (As := [Value.ref b, Value.int (nI 55), Value.int (nI 5)]) (rest := [Value.int (nI 1)]) hx hb hml hown hta zm_L_pick wd_4_4 (c_L_pick l D y b 55 (by decide) (nI 5) (by decide)) hH hX hbl hbA hN hK hP hD hS hA rfl hl rfl (Nat.le_of_ble_eq_true rfl) ⟨(Nat.le_of_ble_eq_true rfl), (Nat.le_of_ble_eq_true rfl)⟩ ⟨(Nat.le_of_ble_eq_true rfl), (Nat.le_of_ble_eq_true rfl)⟩ dL_law_13 (fun v w' H locs hq hP hD hS hn => ?_)
  obtain ⟨rfl, rfl⟩ := hq
  have hg := Nat.le_trans hg hn
  have hP : va_P D vwCl (wB a y 100 10 (nI 0) (-1) 0 0 200 40 10 (nI 0) (fun _ => 0) (fun _ => 0) (nI 0) (fun _ => 0) (fun _ => 0) (fun _ => 0) (fun _ => 0) (nI 0) (fun _ => 0) (fun _ => 0) (fun _ => 0) (fun _ => 0) (fun _ => 0) (fun _ => 0) (fun _ => 0) 0 0 0 (fun _ => 0) (fun _ => 0) (fun _ => 0)) H := hP
  have hD : va_D (lwA s) (wB a y 100 10 (nI 0) (-1) 0 0 200 40 10 (nI 0) (fun _ => 0) (fun _ => 0) (nI 0) (fun _ => 0) (fun _ => 0) (fun _ => 0) (fun _ => 0) (nI 0) (fun _ => 0) (fun _ => 0) (fun _ => 0) (fun _ => 0) (fun _ => 0) (fun _ => 0) (fun _ => 0) 0 0 0 (fun _ => 0) (fun _ => 0) (fun _ => 0)) := hD
  refine zr_top (y := nI 4) (by decide +kernel) ?_
  refine lv_iadd hx hb dL_law_16 ?_
  refine zr_top (y := nI 5) (by decide +kernel) ?_
  refine lv_istore_n (lv' := [(2, Value.int (nI 5)), (1, Value.ref (a 0)), (0, Value.ref b)]) hx hb dL_law_17 rfl hl (by decide) rfl (fun ls hl => ?_)
  refine lv_iconst (v := nI 1) hx hb dL_law_18 (by decide) ?_
  refine lv_aload_n hx hb dL_law_19 rfl (lv_at hl 2 rfl) ?_
  refine lv_bipush (v := nI 56) hx hb dL_law_20 (by decide) ?_
  refine lv_bipush (v := nI 6) hx hb dL_law_22 (by decide) ?_
  refine z_callL (wa := []) (w1 := []) (wb := wB a y 100 10 (nI 0) (-1) 0 0 200 40 10 (nI 0) (fun _ => 0) (fun _ => 0) (nI 0) (fun _ => 0) (fun _ => 0) (fun _ => 0) (fun _ => 0) (nI 0) (fun _ => 0) (fun _ => 0) (fun _ => 0) (fun _ => 0) (fun _ => 0) (fun _ => 0) (fun _ => 0) 0 0 0 (fun _ => 0) (fun _ => 0) (fun _ => 0)) (As := [Value.ref b, Value.int (nI 56), Value.int (nI 6)]) (rest := [Value.int (nI 1)]) hx hb hml hown hta zm_L_pick wd_4_4 (c_L_pick l D y b 56 (by decide) (nI 6) (by decide)) hH hX hbl hbA hN hK hP hD hS hA rfl hl rfl (Nat.le_of_ble_eq_true rfl) ⟨(Nat.le_of_ble_eq_true rfl), (Nat.le_of_ble_eq_true rfl)⟩ ⟨(Nat.le_of_ble_eq_true rfl), (Nat.le_of_ble_eq_true rfl)⟩ dL_law_24 (fun v w' H locs hq hP hD hS hn => ?_)
  obtain ⟨rfl, rfl⟩ := hq
  have hg := Nat.le_trans hg hn
  have hP : va_P D vwCl (wB a y 100 10 (nI 0) (-1) 0 0 200 40 10 (nI 0) (fun _ => 0) (fun _ => 0) (nI 0) (fun _ => 0) (fun _ => 0) (fun _ => 0) (fun _ => 0) (nI 0) (fun _ => 0) (fun _ => 0) (fun _ => 0) (fun _ => 0) (fun _ => 0) (fun _ => 0) (fun _ => 0) 0 0 0 (fun _ => 0) (fun _ => 0) (fun _ => 0)) H := hP
  have hD : va_D (lwA s) (wB a y 100 10 (nI 0) (-1) 0 0 200 40 10 (nI 0) (fun _ => 0) (fun _ => 0) (nI 0) (fun _ => 0) (fun _ => 0) (fun _ => 0) (fun _ => 0) (nI 0) (fun _ => 0) (fun _ => 0) (fun _ => 0) (fun _ => 0) (fun _ => 0) (fun _ => 0) (fun _ => 0) 0 0 0 (fun _ => 0) (fun _ => 0) (fun _ => 0)) := hD
  refine zr_top (y := nI 5) (by decide +kernel) ?_
  refine lv_iadd hx hb dL_law_27 ?_
  refine zr_top (y := nI 6) (by decide +kernel) ?_
  refine lv_istore_n (lv' := [(3, Value.int (nI 6)), (2, Value.int (nI 5)), (1, Value.ref (a 0)), (0, Value.ref b)]) hx hb dL_law_28 rfl hl (by decide) rfl (fun ls hl => ?_)
  refine lv_aload_n hx hb dL_law_29 rfl (lv_at hl 2 rfl) ?_
  refine lv_aload_n hx hb dL_law_30 rfl (lv_at hl 3 rfl) ?_
  refine lv_iload_n hx hb dL_law_31 rfl (lv_at hl 1 rfl) ?_
  refine lv_iload_n hx hb dL_law_32 rfl (lv_at hl 0 rfl) ?_
  refine z_callM (As := [Value.ref (a 0), Value.ref b, Value.int (nI 5), Value.int (nI 6)]) (rest := []) hx hb hml hown hta zm_L_builds wd_4_12 (c_L_builds l hlt D y a b) hH hX hbl hbA hN hK hP hD hS hA rfl hl rfl (Nat.le_of_ble_eq_true rfl) ⟨(Nat.le_of_ble_eq_true rfl), (Nat.le_of_ble_eq_true rfl)⟩ ⟨(Nat.le_of_ble_eq_true rfl), (Nat.le_of_ble_eq_true rfl)⟩ dL_law_33 (fun v w' H locs hq hP hD hS hn => ?_)
  obtain ⟨bw, bl, bi, bb, od, ow, ol, ork, ob, hbb, hob, rfl, rfl⟩ := hq
  have hg := Nat.le_trans hg hn
  refine lv_if_ne (tgt := 41) hx hb dL_law_36 (by decide) (fun _ => ?_) (fun h9 => absurd h9 (by decide))
  refine lv_iconst (v := nI 0) hx hb dL_law_41 (by decide) ?_
  refine lv_istore (lv' := [(4, Value.int (nI 0)), (3, Value.int (nI 6)), (2, Value.int (nI 5)), (1, Value.ref (a 0)), (0, Value.ref b)]) hx hb dL_law_42 hl (by decide) rfl (fun ls hl => ?_)
  refine W.widen (k := 100 + 90 * 0) (n := 3000 + 600 * 0) (Nat.le_of_ble_eq_true rfl) (Nat.le_of_ble_eq_true rfl) ?_
  exact law_loop hlt C1 bw bl bi bb od ow ol ork ob hbb hob 27 0 (by decide) (by decide) _ _ _ hP hD hS (Nat.le_trans (by omega) hg) (lv_sub hl [0, 1, 2, 3, 4] rfl)
