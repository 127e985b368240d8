section ZL0
variable {p : Program} {l : Launch} {e : Env} {R : Room} {s : State} {m : MethodId} {args : Array Value} {below : List Frame} {meth : Method} {c : Code} {H H0 : Heap} {locs : List Loc} {cells slots mc ms : Nat} {Qg : State → Prop}
  {D : va_G} {y : Nat → ClassId} {A : Nat → Prop} {w w' w1 : va_W} {Q : Option Value → va_W → Prop} {cc : ByteArray} {pc : Nat} {ls : Array Slot}
  {own C : String} {ym : MethodName} {bytes : ByteArray} {maxL nL n ng index fr lo b a0 N ci q0 : Nat} {ret : Option FieldType} {hh : List (Nat × Nat × Nat × Nat)} {As rest st0 : List Value} {lv : List (Nat × Value)} {T : u_T} {fs : List Value}
theorem z_nn (h : va_P D vwCl ([] ++ (w ++ [])) H) : va_P D vwCl w H := by rw [List.nil_append, List.append_nil] at h; exact h
theorem z_nnD (h : va_D A ([] ++ (w ++ []))) : va_D A w := by rw [List.nil_append, List.append_nil] at h; exact h
theorem z_mm (h : va_P D vwCl w H) : va_P D vwCl ([] ++ (w ++ [])) H := by rw [List.nil_append, List.append_nil]; exact h
theorem z_mmD (h : va_D A w) : va_D A ([] ++ (w ++ [])) := by rw [List.nil_append, List.append_nil]; exact h
/-- a call of a wrapper, over all the cells -/
theorem z_callW (hx : p.tables.exec = Jvm.exec) (hb : c.code = cc) (hml : c.maxLocals = nL) (hown : s.vm.findClass own = some m.cls) (hta : ∀ w ∈ WA, w.before args s = true) (vm : (.static ym ∈ WA ∧ .initialized ym.cls ∈ WA ∧ .codeWith ym bytes maxL (some .int) hh ∈ WA) ∧ ym.cls ≠ "java/lang/invoke/MethodHandle" ∧ ym.cls ≠ "java/lang/invoke/VarHandle" ∧ (parseMethodDescriptor ym.desc).map (fun d => d.parameters.length) = some n) (hl : .methodLink own index ym ∈ WA)
    (hM : zWr l D y ym bytes maxL hh fr mc ms lo b As w Q ng) (hH : zH s) (hX : va_X b 83 scr s s.heap) (hbl : b < s.heap.size) (hbA : ¬ A b) (hN : zN A s s.heap) (hK : va_K D vwCl (zT y) s) (hP : va_P D vwCl w H) (hD : va_D A w) (hS : va_S A s.heap H locs) (hA : ∀ q, s.heap.size ≤ q → A q) (hn : As.length = n) (hls : lv_has ls nL lv)
    (hst : st0 = As.reverse ++ rest) (hW : (rest.map fun v => v.category).sum ≤ 8) (hR : fr + 1 ≤ R.frames ∧ 8 + (maxL + 11) + lo ≤ R.locals) (hf : cells + mc ≤ R.cells ∧ slots + ms ≤ R.slots) (hdg : decode cc pc = .ok (.invokestatic index, 3))
    (kk : ∀ (v : Option Value) (w' : va_W) (H1 : Heap) (locs1 : List Loc), Q v w' → va_P D vwCl w' H1 → va_D A w' → va_S A s.heap H1 locs1 → H.size + ng ≤ H1.size → W p l e R s m args below meth c H1 locs1 (cells + mc) (slots + ms) Qg (F0 m (pc + 3) ls (v.toList ++ rest))) : W p l e R s m args below meth c H locs cells slots Qg (F0 m pc ls st0) :=
  z_callWr (wa := []) (wb := []) hx hb hml hown hta vm hl hM hH hX hbl hbA hN hK (z_mm hP) (z_mmD hD) hS hA hn hls hst hW hR hf hdg (fun v w' H1 locs1 h1 h2 h3 h4 h5 => kk v w' H1 locs1 h1 (z_nn h2) (z_nnD h3) h4 h5)
/-- a call of a method of the law's, over all the cells -/
theorem z_callM (hx : p.tables.exec = Jvm.exec) (hb : c.code = cc) (hml : c.maxLocals = nL) (hown : s.vm.findClass own = some m.cls) (hta : ∀ w ∈ WA, w.before args s = true) (vm : zSM C ym bytes maxL ret n) (hl : .methodLink own index ym ∈ WA)
    (hM : zL l D y ym bytes maxL ret fr mc ms lo b As w Q ng) (hH : zH s) (hX : va_X b 83 scr s s.heap) (hbl : b < s.heap.size) (hbA : ¬ A b) (hN : zN A s s.heap) (hK : va_K D vwCl (zT y) s) (hP : va_P D vwCl w H) (hD : va_D A w) (hS : va_S A s.heap H locs) (hA : ∀ q, s.heap.size ≤ q → A q) (hn : As.length = n) (hls : lv_has ls nL lv)
    (hst : st0 = As.reverse ++ rest) (hW : (rest.map fun v => v.category).sum ≤ 8) (hR : fr + 1 ≤ R.frames ∧ 8 + (maxL + 11) + lo ≤ R.locals) (hf : cells + mc ≤ R.cells ∧ slots + ms ≤ R.slots) (hdg : decode cc pc = .ok (.invokestatic index, 3))
    (kk : ∀ (v : Option Value) (w' : va_W) (H1 : Heap) (locs1 : List Loc), Q v w' → va_P D vwCl w' H1 → va_D A w' → va_S A s.heap H1 locs1 → H.size + ng ≤ H1.size → W p l e R s m args below meth c H1 locs1 (cells + mc) (slots + ms) Qg (F0 m (pc + 3) ls (v.toList ++ rest))) : W p l e R s m args below meth c H locs cells slots Qg (F0 m pc ls st0) :=
  z_callL (wa := []) (wb := []) hx hb hml hown hta vm hl hM hH hX hbl hbA hN hK (z_mm hP) (z_mmD hD) hS hA hn hls hst hW hR hf hdg (fun v w' H1 locs1 h1 h2 h3 h4 h5 => kk v w' H1 locs1 h1 (z_nn h2) (z_nnD h3) h4 h5)
/-- a call of a method of an object; the heap doesn't shrink -/
theorem z_callG {a : Array Value} (hr : va_Run p l e R s m args below meth c H locs cells slots mc ms (F0 m pc ls st0) rest (zQ D (va_A w H.size) Q a) (va_A w H.size)) (hD : va_D A w) (hS : va_S A H0 H locs) (hA : ∀ q, H0.size ≤ q → A q)
    (kk : ∀ (v : Option Value) (w' : va_W) (H1 : Heap) (locs1 : List Loc), Q v w' → va_P D vwCl w' H1 → va_D A w' → va_S A H0 H1 locs1 → H.size ≤ H1.size → W p l e R s m args below meth c H1 locs1 (cells + mc) (slots + ms) Qg (F0 m (pc + 3) ls (v.toList ++ rest))) : W p l e R s m args below meth c H locs cells slots Qg (F0 m pc ls st0) := by
  intro T hT X
  obtain ⟨v, st₀, t, T', L, h0, X', hL, e1, -, ⟨v', w', hv, hQ, hP1, hD1, hF⟩, st⟩ := hr T hT X
  cases hv
  have hI := z_in hD hS hA
  obtain ⟨-, -, hS1⟩ := vx_keep h0 e1 hS (fun q _ h => hI q h) hI hL hF
  obtain ⟨t2, a1, b1⟩ := kk v w' T'.heap _ hQ (by rw [e1]; exact hP1) (hD1.weaken (fun _ _ _ h => hI _ h)) hS1 (by rw [e1]; exact h0 ▸ hF.1) T' rfl X'
  exact ⟨t2, st t2 a1, b1⟩
theorem z_callVg (hx : p.tables.exec = Jvm.exec) (hb : c.code = cc) (hml : c.maxLocals = nL) (hown : s.vm.findClass own = some m.cls) (hta : ∀ w ∈ WA, w.before args s = true) (vm : zVM C ym bytes maxL ret n) (hl : .methodLink own index ym ∈ WA)
    (hM : zP l D y ym bytes maxL ret fr mc ms lo (.ref a0 :: As) w Q) (hN : zN A s s.heap) (hK : va_K D vwCl (zT y) s) (hP : va_P D vwCl w H) (hD : va_D A w) (hS : va_S A s.heap H locs) (hA : ∀ q, s.heap.size ≤ q → A q) (q0 : Nat) (he : w[q0]? = some (a0, .inr (ci, fs))) (hc : vwCl[ci]? = some (C, T, N)) (hn : As.length = n) (hls : lv_has ls nL lv)
    (hst : st0 = As.reverse ++ .ref a0 :: rest) (hW : (rest.map fun v => v.category).sum ≤ 8) (hR : fr + 1 ≤ R.frames ∧ 8 + (maxL + 11) + lo ≤ R.locals) (hf : cells + mc ≤ R.cells ∧ slots + ms ≤ R.slots) (hdg : decode cc pc = .ok (.invokevirtual index, 3))
    (kk : ∀ (v : Option Value) (w' : va_W) (H1 : Heap) (locs1 : List Loc), Q v w' → va_P D vwCl w' H1 → va_D A w' → va_S A s.heap H1 locs1 → H.size ≤ H1.size → W p l e R s m args below meth c H1 locs1 (cells + mc) (slots + ms) Qg (F0 m (pc + 3) ls (v.toList ++ rest))) : W p l e R s m args below meth c H locs cells slots Qg (F0 m pc ls st0) :=
  z_callG (va_runV (As := As) (rest := rest) (cc := cc) (nL := nL) (Ts := WA) ⟨hx, hb, hml, hown, hta⟩ (hM H.size) (z_cw hta vm hl hR) ⟨zBx_blind, va_recv hK hP hc he, fun U hU hW => ⟨rfl, ⟨by rw [hU], by rw [hU]; exact hP, va_K.moved hW.alike hK, hD.weaken (fun _ _ _ _ => trivial)⟩, hN.here hS (z_in hD hS hA) hU hW⟩⟩ rfl hn hls.1 hst (lv_room hW) hdg hf) hD hS hA kk
end ZL0
/-- the number that is made of a drawn cell -/
def ush (x : Int32) : Int32 := (x.toUInt32 >>> ((nI 1).toUInt32 &&& Int32.toUInt32 31)).toInt32
def pk (x n : Int32) : Int32 := ush x - ush x / n * n
theorem zm_L_cell : zSM RL yL_cell cL_cell 2 (some .int) 2 := ⟨⟨wd_4_9, wd_4_6, wd_4_10⟩, by decide +kernel⟩
set_option maxHeartbeats 4000000 in
set_option maxRecDepth 100000 in
theorem c_L_cell (l : Launch) (D : va_G) (y : Nat → ClassId) (b k : Nat) (hk : k < 83) : zL l D y yL_cell cL_cell 2 (some .int) 0 0 0 0 b [Value.ref b, Value.int (nI k)] ([]) (fun o9 w9 => o9 = some (Value.int (scr k)) ∧ w9 = []) 0 := by
  refine zL.of (by decide +kernel) (Nat.le_of_ble_eq_true rfl) ?_
  intro p e s m args below meth c A ls hx hb hr hta hown hlocks hml hH hX hbl hbA hN hK hP hD hS hA hl
  refine z_gen (fun G hG => ?_)
  have hg : s.heap.size + 0 ≤ s.heap.size := Nat.le_refl _
  have hl : lv_has ls 2 [(0, Value.ref b), (1, Value.int (nI k))] := hl
  refine lv_iload_n hx hb dL_cell_0 rfl (lv_at hl 1 rfl) ?_
  refine lv_aload_n hx hb dL_cell_1 rfl (lv_at hl 0 rfl) ?_
  refine va_slen hx hb hX hbl hbA hS dL_cell_2 ?_
  refine lv_icmp_ge (tgt := 12) hx hb dL_cell_3 (by decide) (fun h9 => absurd ((nI_leI (a := 83) (b := k) (by decide) (by omega)).mp h9) (by omega)) (fun _ => ?_)
  refine lv_aload_n hx hb dL_cell_6 rfl (lv_at hl 0 rfl) ?_
  refine lv_iload_n hx hb dL_cell_7 rfl (lv_at hl 1 rfl) ?_
  refine va_sld hx hb hX hbl hbA hS (vp_in_nI hk (by decide)) dL_cell_8 ?_
  refine zr_top (congrArg scr (nI_clamp (n := k) (by omega))) ?_
  refine lv_goto (tgt := 18) hx hb dL_cell_9 (by decide) ?_
  exact z_iretG hG hx hb hr hlocks hP hD hS (Nat.le_of_ble_eq_true rfl) (Nat.le_of_ble_eq_true rfl) dL_cell_18 ⟨rfl, rfl⟩ hg
theorem zm_L_pick : zSM RL yL_pick cL_pick 3 (some .int) 3 := ⟨⟨wd_4_5, wd_4_6, wd_4_7⟩, by decide +kernel⟩
theorem zm_L_builds : zSM RL yL_builds cL_builds 5 (some .boolean) 4 := ⟨⟨wd_4_13, wd_4_6, wd_4_14⟩, by decide +kernel⟩
theorem zm_L_places : zSM RL yL_places cL_places 8 (some .boolean) 3 := ⟨⟨wd_21_14, wd_4_6, wd_21_15⟩, by decide +kernel⟩
set_option maxHeartbeats 4000000 in
set_option maxRecDepth 100000 in
theorem c_L_pick (l : Launch) (D : va_G) (y : Nat → ClassId) (b k : Nat) (hk : k < 83) (n : Int32) (hn0 : ¬ n = 0) : zL l D y yL_pick cL_pick 3 (some .int) 1 0 0 21 b [Value.ref b, Value.int (nI k), Value.int n] ([]) (fun o9 w9 => o9 = some (Value.int (pk (scr k) n)) ∧ w9 = []) 0 := by
  refine zL.of (by decide +kernel) (Nat.le_of_ble_eq_true rfl) ?_
  intro p e s m args below meth c A ls hx hb hr hta hown hlocks hml hH hX hbl hbA hN hK hP hD hS hA hl
  refine z_gen (fun G hG => ?_)
  have hg : s.heap.size + 0 ≤ s.heap.size := Nat.le_refl _
  have hl : lv_has ls 3 [(0, Value.ref b), (1, Value.int (nI k)), (2, Value.int n)] := hl
  refine lv_aload_n hx hb dL_pick_0 rfl (lv_at hl 0 rfl) ?_
  refine lv_iload_n hx hb dL_pick_1 rfl (lv_at hl 1 rfl) ?_
  refine z_callL (wa := []) (w1 := []) (wb := []) (As := [Value.ref b, Value.int (nI k)]) (rest := []) hx hb hml hown hta zm_L_cell wd_4_8 (c_L_cell l D y b k hk) hH hX hbl hbA hN hK hP hD hS hA rfl hl rfl (Nat.le_of_ble_eq_true rfl) ⟨(Nat.le_of_ble_eq_true rfl), (Nat.le_of_ble_eq_true rfl)⟩ ⟨(Nat.le_of_ble_eq_true rfl), (Nat.le_of_ble_eq_true rfl)⟩ dL_pick_2 (fun v w' H locs hq hP hD hS hn => ?_)
  obtain ⟨rfl, rfl⟩ := hq
  have hg := Nat.le_trans hg hn
  refine lv_iconst (v := nI 1) hx hb dL_pick_5 (by decide) ?_
  refine lv_iushr (v := ush (scr k)) hx hb dL_pick_6 rfl ?_
  refine lv_iload_n hx hb dL_pick_7 rfl (lv_at hl 2 rfl) ?_
  refine lv_irem hx hb dL_pick_8 hn0 ?_
  exact z_iretG hG hx hb hr hlocks hP hD hS (Nat.le_of_ble_eq_true rfl) (Nat.le_of_ble_eq_true rfl) dL_pick_9 ⟨rfl, rfl⟩ hg
theorem scr_hi (k : Nat) : scr (57 + k) = nI 1280 := by
  unfold scr
  rw [if_neg (by omega), if_neg (by omega), if_pos (by omega)]
  decide
