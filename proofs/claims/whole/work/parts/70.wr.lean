def zBw (D : va_G) (y : Nat → ClassId) (w : va_W) (sz : Nat) (U : State) : Prop := zBx D y w sz U ∧ zH U
/-- a wrapper: it catches all that it calls may throw -/
def zWr (l : Launch) (D : va_G) (y : Nat → ClassId) (ym : MethodName) (cc : ByteArray) (maxL : Nat) (hh : List (Nat × Nat × Nat × Nat)) (fr mc ms lo : Nat) (av : List Value) (w : va_W) (Q : Option Value → va_W → Prop) : Prop :=
  ∀ sz : Nat, Met l ym (.codeWith ym cc maxL (some .int) hh :: WA) { frames := fr, cells := mc, slots := ms, locals := lo } (va_Pc av (zBw D y w sz)) (zQ D (va_A w sz) Q) mc ms (va_A w sz)
theorem zWr.of {l : Launch} {D : va_G} {y : Nat → ClassId} {ym : MethodName} {cc : ByteArray} {maxL : Nat} {hh : List (Nat × Nat × Nat × Nat)} {fr mc ms lo : Nat} {av : List Value} {w : va_W} {Q : Option Value → va_W → Prop} (hy : plainName ym.cls = true) (hav : (lg_sl av).length ≤ maxL)
    (k : ∀ (p : Program) (e : Env) (s : State) (m : MethodId) (args : Array Value) (below : List Frame) (meth : Method) (c : Code) (A : Nat → Prop) (ls : Array Slot),
      p.tables.exec = Jvm.exec → c.code = cc → meth.sig.returnType = some .int → (∀ w ∈ WA, w.before args s = true) → s.vm.findClass ym.cls = some m.cls → meth.locks = false → c.maxLocals = maxL → c.exceptionTable.toList = tableOf hh → zH s → zN A s s.heap → va_K D vwCl (zT y) s → va_P D vwCl w s.heap → va_D A w → va_S A s.heap s.heap [] → (∀ q, s.heap.size ≤ q → A q) → lv_has ls maxL (lv_args 0 av) →
      W p l e { frames := fr, cells := mc, slots := ms, locals := lo } s m args below meth c s.heap [] 0 0 (MQ below (zQ D A Q) args s mc ms A) (F0 m 0 ls [])) : zWr l D y ym cc maxL hh fr mc ms lo av w Q := by
  intro sz
  refine va_MetW (hh := hh) (cc := cc) (maxL := maxL) (ret := some .int) hy rfl ?_
  intro p e s m args below meth c s₁ B hml hv
  obtain ⟨rfl, ⟨⟨hsz, hP, hK, hD⟩, hN⟩, hH⟩ := hv
  subst hsz
  rw [lg_entry_eq]
  exact k p e s m _ below meth c _ _ B.exec B.bytes B.returns (fun w h => atoms_spec (ws := .codeWith ym cc maxL (some .int) hh :: WA) B.pre w (List.mem_cons_of_mem _ h)) (findClass_of_methodNamed B.named) B.notSynchronized hml (vx_table (x := ym) B (atoms_spec (ws := .codeWith ym cc maxL (some .int) hh :: WA) B.pre _ List.mem_cons_self)) hH hN hK hP hD.self va_S.rf (fun q h => Or.inr h) (lv_entry av hav)
section ZWR
variable {p : Program} {l : Launch} {e : Env} {R : Room} {s : State} {m : MethodId} {args : Array Value} {below : List Frame} {meth : Method} {c : Code} {H : Heap} {locs : List Loc} {cells slots mc ms : Nat} {Qg : State → Prop}
  {D : va_G} {y : Nat → ClassId} {A : Nat → Prop} {w wa wb w1 : va_W} {Q : Option Value → va_W → Prop} {cc : ByteArray} {pc : Nat} {ls : Array Slot}
  {own C : String} {ym : MethodName} {bytes : ByteArray} {maxL nL n index fr lo : Nat} {hh : List (Nat × Nat × Nat × Nat)} {As rest st0 : List Value} {lv : List (Nat × Value)}
theorem zBw_blind {av : List Value} {sz : Nat} : FrameBlind (va_Pc av (zBw D y w sz)) := fun a U g mk q => by
  obtain ⟨q0, qB, qH⟩ := q
  obtain ⟨r0, rB⟩ := zBx_blind (av := av) (w := w) (sz := sz) (D := D) (y := y) a U g mk ⟨q0, qB⟩
  exact ⟨r0, rB, zH.moved (u := U) (U := U.calling g mk a) (Vm.Alike.refl U.vm) qH⟩
theorem zg_codeW (h : .codeWith ym bytes maxL (some .int) hh ∈ WA) : GoodIn WA (.codeWith ym bytes maxL (some .int) hh :: WA) := fun w hw => by
  rcases List.mem_cons.mp hw with rfl | hw
  · exact ⟨h, good_of_word (wa_good _ h)⟩
  · exact ⟨hw, good_of_word (wa_good _ hw)⟩
/-- a call of a wrapper, its cells in the middle -/
theorem z_callWr (hx : p.tables.exec = Jvm.exec) (hb : c.code = cc) (hml : c.maxLocals = nL) (hown : s.vm.findClass own = some m.cls) (hta : ∀ w ∈ WA, w.before args s = true) (vm : (.static ym ∈ WA ∧ .initialized ym.cls ∈ WA ∧ .codeWith ym bytes maxL (some .int) hh ∈ WA) ∧ ym.cls ≠ "java/lang/invoke/MethodHandle" ∧ ym.cls ≠ "java/lang/invoke/VarHandle" ∧ (parseMethodDescriptor ym.desc).map (fun d => d.parameters.length) = some n) (hl : .methodLink own index ym ∈ WA)
    (hM : zWr l D y ym bytes maxL hh fr mc ms lo As w1 Q) (hH : zH s) (hN : zN A s s.heap) (hK : va_K D vwCl (zT y) s) (hP : va_P D vwCl (wa ++ (w1 ++ wb)) H) (hD : va_D A (wa ++ (w1 ++ wb))) (hS : va_S A s.heap H locs) (hA : ∀ q, s.heap.size ≤ q → A q) (hn : As.length = n) (hls : lv_has ls nL lv)
    (hst : st0 = As.reverse ++ rest) (hW : (rest.map fun v => v.category).sum ≤ 8) (hR : fr + 1 ≤ R.frames ∧ 8 + (maxL + 11) + lo ≤ R.locals) (hf : cells + mc ≤ R.cells ∧ slots + ms ≤ R.slots) (hdg : decode cc pc = .ok (.invokestatic index, 3))
    (kk : ∀ (v : Option Value) (w' : va_W) (H1 : Heap) (locs1 : List Loc), Q v w' → va_P D vwCl (wa ++ (w' ++ wb)) H1 → va_D A (wa ++ (w' ++ wb)) → va_S A s.heap H1 locs1 → W p l e R s m args below meth c H1 locs1 (cells + mc) (slots + ms) Qg (F0 m (pc + 3) ls (v.toList ++ rest))) : W p l e R s m args below meth c H locs cells slots Qg (F0 m pc ls st0) :=
  z_callF (vx_runSW (hh := hh) (bytes := bytes) (maxL := maxL) (ret := some .int) (As := As) (rest := rest) (cc := cc) (nL := nL) (Ts := WA) ⟨hx, hb, hml, hown, hta⟩ (hM H.size)
    ⟨⟨rfl, rfl, hR.1, hR.2, pay_in hta (zg_codeW vm.1.2.2), List.mem_cons_self⟩, hta _ vm.1.2.2, hta _ vm.1.2.1, ⟨vm.2.1, vm.2.2.1⟩, fun sig h => by
      have h2 := vm.2.2.2
      rw [h] at h2
      exact (Option.some.inj h2).symm, hta _ hl, hta _ vm.1.1⟩
    ⟨zBw_blind, fun U hU hW => ⟨rfl, z_ok hN hK (zf_sub hP) (zf_subD hD) hS hA U hU hW, hH.moved hW.alike⟩⟩ rfl hn hls.1 hst (lv_room hW) hdg hf) hP hD hS hA kk
end ZWR
