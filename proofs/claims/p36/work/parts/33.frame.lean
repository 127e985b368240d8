/-! a callee's cells among others: what is beside them stays -/
theorem zf_P {D : va_G} {cl : List vw_C} {ws : va_W} {H : Heap} : va_P D cl ws H ↔ ∀ q ∈ ws, va_at D cl q H := by
  constructor
  · intro h q hq
    obtain ⟨k, hk⟩ := List.getElem?_of_mem hq
    exact h k q hk
  · intro h k q hk
    exact h q (List.mem_of_getElem? hk)
theorem zf_D {A : Nat → Prop} {ws : va_W} : va_D A ws ↔ ws.Pairwise (fun p q => p.1 ≠ q.1) ∧ ∀ q ∈ ws, A q.1 := by
  constructor
  · intro h
    refine ⟨List.pairwise_iff_getElem.mpr fun i j hi hj hij e => ?_, fun q hq => ?_⟩
    · have := h.1 i j _ _ (List.getElem?_eq_getElem hi) (List.getElem?_eq_getElem hj) e
      omega
    · obtain ⟨k, hk⟩ := List.getElem?_of_mem hq
      exact h.2 k q hk
  · intro h
    have hp := List.pairwise_iff_getElem.mp h.1
    refine ⟨fun i j p q hi hj e => ?_, fun k q hk => h.2 q (List.mem_of_getElem? hk)⟩
    obtain ⟨hi1, rfl⟩ := List.getElem?_eq_some_iff.mp hi
    obtain ⟨hj1, rfl⟩ := List.getElem?_eq_some_iff.mp hj
    rcases Nat.lt_trichotomy i j with g | g | g
    · exact absurd e (hp i j hi1 hj1 g)
    · exact g
    · exact absurd e.symm (hp j i hj1 hi1 g)
theorem zf_in {w1 : va_W} {sz : Nat} {q : Nat × va_E} (h : q ∈ w1) : va_A w1 sz q.1 := by
  obtain ⟨k, hk⟩ := List.getElem?_of_mem h
  exact Or.inl ⟨k, q.2, hk⟩
theorem zf_out {w1 : va_W} {H : Heap} {a : Nat} (hl : a < H.size) (h : ∀ q ∈ w1, q.1 ≠ a) : ¬ va_A w1 H.size a := by
  rintro (⟨k, e, hk⟩ | hk)
  · exact h _ (List.mem_of_getElem? hk) rfl
  · omega
theorem z_fr {D : va_G} {cl : List vw_C} {A : Nat → Prop} {wa w1 wb w1' : va_W} {H H1 : Heap} (hP : va_P D cl (wa ++ (w1 ++ wb)) H) (hD : va_D A (wa ++ (w1 ++ wb)))
    (hk : ∀ q, q < H.size → ¬ va_A w1 H.size q → H1[q]? = H[q]?) (hP1 : va_P D cl w1' H1) (hD1 : va_D (va_A w1 H.size) w1') (hF : ∀ q, va_A w1 H.size q → A q) :
    va_P D cl (wa ++ (w1' ++ wb)) H1 ∧ va_D A (wa ++ (w1' ++ wb)) := by
  have P0 := zf_P.mp hP
  obtain ⟨D1, D2⟩ := zf_D.mp hD
  have P1 := zf_P.mp hP1
  obtain ⟨E1, E2⟩ := zf_D.mp hD1
  obtain ⟨Da, Dr, Dar⟩ := List.pairwise_append.mp D1
  obtain ⟨D1', Db, D1b⟩ := List.pairwise_append.mp Dr
  have oa : ∀ q ∈ wa, q.1 < H.size ∧ ¬ va_A w1 H.size q.1 := fun q hq => by
    have hl := (P0 q (List.mem_append_left _ hq)).lt
    exact ⟨hl, zf_out hl fun z hz e => Dar q hq z (List.mem_append_left _ hz) e.symm⟩
  have ob : ∀ q ∈ wb, q.1 < H.size ∧ ¬ va_A w1 H.size q.1 := fun q hq => by
    have hl := (P0 q (List.mem_append_right _ (List.mem_append_right _ hq))).lt
    exact ⟨hl, zf_out hl fun z hz e => D1b z hz q hq e⟩
  refine ⟨zf_P.mpr fun q hq => ?_, zf_D.mpr ⟨?_, fun q hq => ?_⟩⟩
  · rcases List.mem_append.mp hq with hq | hq
    · exact (P0 q (List.mem_append_left _ hq)).kept (hk _ (oa q hq).1 (oa q hq).2)
    · rcases List.mem_append.mp hq with hq | hq
      · exact P1 q hq
      · exact (P0 q (List.mem_append_right _ (List.mem_append_right _ hq))).kept (hk _ (ob q hq).1 (ob q hq).2)
  · refine List.pairwise_append.mpr ⟨Da, List.pairwise_append.mpr ⟨E1, Db, fun p hp q hq e => ?_⟩, fun p hp q hq e => ?_⟩
    · exact (ob q hq).2 (by rw [← e]; exact E2 p hp)
    · rcases List.mem_append.mp hq with hq | hq
      · exact (oa p hp).2 (by rw [e]; exact E2 q hq)
      · exact Dar p hp q (List.mem_append_right _ hq) e
  · rcases List.mem_append.mp hq with hq | hq
    · exact D2 q (List.mem_append_left _ hq)
    · rcases List.mem_append.mp hq with hq | hq
      · exact hF _ (E2 q hq)
      · exact D2 q (List.mem_append_right _ (List.mem_append_right _ hq))
theorem zf_sub {D : va_G} {cl : List vw_C} {wa w1 wb : va_W} {H : Heap} (hP : va_P D cl (wa ++ (w1 ++ wb)) H) : va_P D cl w1 H := zf_P.mpr fun q hq => zf_P.mp hP q (List.mem_append_right _ (List.mem_append_left _ hq))
theorem zf_subD {A : Nat → Prop} {wa w1 wb : va_W} (hD : va_D A (wa ++ (w1 ++ wb))) : va_D A w1 := by
  obtain ⟨h1, h2⟩ := zf_D.mp hD
  exact zf_D.mpr ⟨(List.pairwise_append.mp (List.pairwise_append.mp h1).2.1).1, fun q hq => h2 q (List.mem_append_right _ (List.mem_append_left _ hq))⟩
section ZF
variable {p : Program} {l : Launch} {e : Env} {R : Room} {s : State} {m : MethodId} {args : Array Value} {below : List Frame} {meth : Method} {c : Code} {H : Heap} {locs : List Loc} {cells slots mc ms : Nat} {Qg : State → Prop}
  {D : va_G} {y : Nat → ClassId} {A : Nat → Prop} {w wa wb w1 : va_W} {Q : Option Value → va_W → Prop} {X : String → Prop} {cc : ByteArray} {pc : Nat} {ls : Array Slot}
  {own C host : String} {ym : MethodName} {bytes : ByteArray} {maxL nL n index fr lo : Nat} {ret : Option FieldType} {b : Nat} {As rest st0 : List Value} {T : u_T} {N ci q0 : Nat} {fs : List Value} {lv : List (Nat × Value)}
/-- a run of a callee, its cells in the middle -/
theorem z_callF {a : Array Value} (hr : va_Run p l e R s m args below meth c H locs cells slots mc ms (F0 m pc ls st0) rest (zQ D (va_A w1 H.size) Q a) (va_A w1 H.size)) (hP : va_P D vwCl (wa ++ (w1 ++ wb)) H) (hD : va_D A (wa ++ (w1 ++ wb))) (hS : va_S A s.heap H locs) (hA : ∀ q, s.heap.size ≤ q → A q)
    (kk : ∀ (v : Option Value) (w' : va_W) (H1 : Heap) (locs1 : List Loc), Q v w' → va_P D vwCl (wa ++ (w' ++ wb)) H1 → va_D A (wa ++ (w' ++ wb)) → va_S A s.heap H1 locs1 → W p l e R s m args below meth c H1 locs1 (cells + mc) (slots + ms) Qg (F0 m (pc + 3) ls (v.toList ++ rest))) : W p l e R s m args below meth c H locs cells slots Qg (F0 m pc ls st0) := by
  intro T hT X
  obtain ⟨v, st₀, t, T', L, h0, X', hL, e1, -, ⟨v', w', hv, hQ, hP1, hD1, hF⟩, st⟩ := hr T hT X
  cases hv
  have hI := z_in (zf_subD hD) hS hA
  obtain ⟨-, hk, hS1⟩ := vx_keep h0 e1 hS (fun q _ h => hI q h) hI hL hF
  obtain ⟨g1, g2⟩ := z_fr (H1 := T'.heap) hP hD hk (by rw [e1]; exact hP1) hD1 hI
  obtain ⟨t2, a1, b1⟩ := kk v w' T'.heap _ hQ g1 g2 hS1 T' rfl X'
  exact ⟨t2, st t2 a1, b1⟩
theorem z_ok (hN : zN A s s.heap) (hK : va_K D vwCl (zT y) s) (hP : va_P D vwCl w1 H) (hD : va_D A w1) (hS : va_S A s.heap H locs) (hA : ∀ q, s.heap.size ≤ q → A q) : ∀ U : State, U.heap = H → s.WarmedH U.vm → zBx D y w1 H.size U := fun U hU hW =>
  ⟨⟨by rw [hU], by rw [hU]; exact hP, va_K.moved hW.alike hK, hD.weaken (fun _ _ _ _ => trivial)⟩, hN.here hS (z_in hD hS hA) hU hW⟩
/-- calls with the callee's cells in the middle -/
theorem z_callVF (hx : p.tables.exec = Jvm.exec) (hb : c.code = cc) (hml : c.maxLocals = nL) (hown : s.vm.findClass own = some m.cls) (hta : ∀ w ∈ WA, w.before args s = true) (vm : zVM C ym bytes maxL ret n) (hl : .methodLink own index ym ∈ WA)
    (hM : zP l D y ym bytes maxL ret fr mc ms lo (.ref b :: As) w1 Q) (hN : zN A s s.heap) (hK : va_K D vwCl (zT y) s) (hP : va_P D vwCl (wa ++ (w1 ++ wb)) H) (hD : va_D A (wa ++ (w1 ++ wb))) (hS : va_S A s.heap H locs) (hA : ∀ q, s.heap.size ≤ q → A q) (q0 : Nat) (he : w1[q0]? = some (b, .inr (ci, fs))) (hc : vwCl[ci]? = some (C, T, N)) (hn : As.length = n) (hls : lv_has ls nL lv)
    (hst : st0 = As.reverse ++ .ref b :: rest) (hW : (rest.map fun v => v.category).sum ≤ 8) (hR : fr + 1 ≤ R.frames ∧ 8 + (maxL + 11) + lo ≤ R.locals) (hf : cells + mc ≤ R.cells ∧ slots + ms ≤ R.slots) (hdg : decode cc pc = .ok (.invokevirtual index, 3))
    (kk : ∀ (v : Option Value) (w' : va_W) (H1 : Heap) (locs1 : List Loc), Q v w' → va_P D vwCl (wa ++ (w' ++ wb)) H1 → va_D A (wa ++ (w' ++ wb)) → va_S A s.heap H1 locs1 → W p l e R s m args below meth c H1 locs1 (cells + mc) (slots + ms) Qg (F0 m (pc + 3) ls (v.toList ++ rest))) : W p l e R s m args below meth c H locs cells slots Qg (F0 m pc ls st0) :=
  z_callF (va_runV (As := As) (rest := rest) (cc := cc) (nL := nL) (Ts := WA) ⟨hx, hb, hml, hown, hta⟩ (hM H.size) (z_cw hta vm hl hR) ⟨zBx_blind, va_recv hK (zf_sub hP) hc he, fun U hU hW => ⟨rfl, z_ok hN hK (zf_sub hP) (zf_subD hD) hS hA U hU hW⟩⟩ rfl hn hls.1 hst (lv_room hW) hdg hf) hP hD hS hA kk
theorem z_callIN (hx : p.tables.exec = Jvm.exec) (hb : c.code = cc) (hml : c.maxLocals = nL) (hown : s.vm.findClass own = some m.cls) (hta : ∀ w ∈ WA, w.before args s = true) (hcode : .code ym bytes maxL none ∈ WA) (hini : .initialized ym.cls ∈ WA) (hinst : .instanceMethod ym ∈ WA) (hnm : ym.name = "<init>") (hd : ym.cls ≠ "java/lang/invoke/MethodHandle" ∧ ym.cls ≠ "java/lang/invoke/VarHandle" ∧ (parseMethodDescriptor ym.desc).map (fun d => d.parameters.length) = some n) (hl : .methodLinkNest own index ym host ∈ zNG)
    (hM : zP l D y ym bytes maxL none fr mc ms lo (.ref b :: As) w1 Q) (hN : zN A s s.heap) (hK : va_K D vwCl (zT y) s) (hP : va_P D vwCl (wa ++ (w1 ++ wb)) H) (hD : va_D A (wa ++ (w1 ++ wb))) (hS : va_S A s.heap H locs) (hA : ∀ q, s.heap.size ≤ q → A q) (hn : As.length = n) (hls : lv_has ls nL lv)
    (hst : st0 = As.reverse ++ .ref b :: rest) (hW : (rest.map fun v => v.category).sum ≤ 8) (hR : fr + 1 ≤ R.frames ∧ 8 + (maxL + 11) + lo ≤ R.locals) (hf : cells + mc ≤ R.cells ∧ slots + ms ≤ R.slots) (hdg : decode cc pc = .ok (.invokespecial index, 3))
    (kk : ∀ (v : Option Value) (w' : va_W) (H1 : Heap) (locs1 : List Loc), Q v w' → va_P D vwCl (wa ++ (w' ++ wb)) H1 → va_D A (wa ++ (w' ++ wb)) → va_S A s.heap H1 locs1 → W p l e R s m args below meth c H1 locs1 (cells + mc) (slots + ms) Qg (F0 m (pc + 3) ls (v.toList ++ rest))) : W p l e R s m args below meth c H locs cells slots Qg (F0 m pc ls st0) :=
  z_callF (va_runIN (As := As) (rest := rest) (cc := cc) (nL := nL) (Ts := WA) ⟨hx, hb, hml, hown, hta⟩ (hM H.size) ⟨va_cnB n hta (zg_code hcode) rfl rfl rfl (hN.2.1 _ hl) (hta _ hini) hd hR, hnm, hta _ hinst⟩ ⟨zBx_blind, fun U hU hW => ⟨rfl, z_ok hN hK (zf_sub hP) (zf_subD hD) hS hA U hU hW⟩⟩ rfl hn hls.1 hst (lv_room hW) hdg hf) hP hD hS hA kk
theorem z_callI (hx : p.tables.exec = Jvm.exec) (hb : c.code = cc) (hml : c.maxLocals = nL) (hown : s.vm.findClass own = some m.cls) (hta : ∀ w ∈ WA, w.before args s = true) (hcode : .code ym bytes maxL none ∈ WA) (hini : .initialized ym.cls ∈ WA) (hinst : .instanceMethod ym ∈ WA) (hnm : ym.name = "<init>") (hd : ym.cls ≠ "java/lang/invoke/MethodHandle" ∧ ym.cls ≠ "java/lang/invoke/VarHandle" ∧ (parseMethodDescriptor ym.desc).map (fun d => d.parameters.length) = some n) (hl : .methodLink own index ym ∈ WA)
    (hM : zP l D y ym bytes maxL none fr mc ms lo (.ref b :: As) w1 Q) (hN : zN A s s.heap) (hK : va_K D vwCl (zT y) s) (hP : va_P D vwCl (wa ++ (w1 ++ wb)) H) (hD : va_D A (wa ++ (w1 ++ wb))) (hS : va_S A s.heap H locs) (hA : ∀ q, s.heap.size ≤ q → A q) (hn : As.length = n) (hls : lv_has ls nL lv)
    (hst : st0 = As.reverse ++ .ref b :: rest) (hW : (rest.map fun v => v.category).sum ≤ 8) (hR : fr + 1 ≤ R.frames ∧ 8 + (maxL + 11) + lo ≤ R.locals) (hf : cells + mc ≤ R.cells ∧ slots + ms ≤ R.slots) (hdg : decode cc pc = .ok (.invokespecial index, 3))
    (kk : ∀ (v : Option Value) (w' : va_W) (H1 : Heap) (locs1 : List Loc), Q v w' → va_P D vwCl (wa ++ (w' ++ wb)) H1 → va_D A (wa ++ (w' ++ wb)) → va_S A s.heap H1 locs1 → W p l e R s m args below meth c H1 locs1 (cells + mc) (slots + ms) Qg (F0 m (pc + 3) ls (v.toList ++ rest))) : W p l e R s m args below meth c H locs cells slots Qg (F0 m pc ls st0) :=
  z_callF (va_runI (As := As) (rest := rest) (cc := cc) (nL := nL) (Ts := WA) ⟨hx, hb, hml, hown, hta⟩ (hM H.size) (cwI n hta (zg_code hcode) rfl rfl rfl (hta _ hini) (hta _ hl) (hta _ hinst) hnm hd hR) ⟨zBx_blind, fun U hU hW => ⟨rfl, z_ok hN hK (zf_sub hP) (zf_subD hD) hS hA U hU hW⟩⟩ rfl hn hls.1 hst (lv_room hW) hdg hf) hP hD hS hA kk
/-- new rows -/
theorem z_newI {w0 : va_W} {i : Int32} {N' : Nat} (hx : p.tables.exec = Jvm.exec) (hb : c.code = cc) (hta : ∀ w ∈ WA, w.before args s = true) (hw : .arrayClass .int ∈ WA) (hK : va_K D vwCl (zT y) s) (hP : va_P D vwCl w0 H) (hD : va_D A w0) (hS : va_S A s.heap H locs) (hA : ∀ q, s.heap.size ≤ q → A q)
    (hi : i = nI N') (hN : N' ≤ 100000) (hcells : cells + 1 ≤ R.cells) (hslots : slots + N' ≤ R.slots) (hdg : decode cc pc = .ok (.newarray .int, 2))
    (kk : ∀ (q : Nat) (H1 : Heap), va_P D vwCl (w0 ++ [(q, .inl (y 0, N', .inl (fun _ => 0)))]) H1 → va_D A (w0 ++ [(q, .inl (y 0, N', .inl (fun _ => 0)))]) → va_S A s.heap H1 locs → W p l e R s m args below meth c H1 locs (cells + 1) (slots + N') Qg (F0 m (pc + 2) ls (.ref q :: rest))) : W p l e R s m args below meth c H locs cells slots Qg (F0 m pc ls (.int i :: rest)) := by
  subst hi
  refine va_newa (atype := .int) (a0 := (N', .inl (fun _ => 0))) hx hb (hta _ hw) rfl hK hP hD hS hA (fun _ => rfl) (nI_pos (by omega)) (nI_clamp (by omega)) (by show N' * 4 ≤ 536870912; omega) hcells hslots hdg (fun q cA H1 hK1 hP1 hD1 hS1 => ?_)
  have e1 : s.vm.findClass ("[" ++ (FieldType.int).toString) = some cA := (hK1.2 1 (cA, .int) rfl).2
  have e2 : s.vm.findClass ("[" ++ (FieldType.int).toString) = some (y 0) := (hK.2 0 (y 0, .int) rfl).2
  obtain rfl : cA = y 0 := Option.some.inj (e1.symm.trans e2)
  exact kk q H1 hP1 hD1 hS1
end ZF
