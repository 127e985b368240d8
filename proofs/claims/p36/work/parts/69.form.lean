/-! the law's methods: with the object's cells, the script beside, and how much the heap grows at least -/
def zEl : List String := ["java/lang/IndexOutOfBoundsException", "java/lang/IllegalArgumentException", "java/lang/IllegalStateException", "java/util/NoSuchElementException"]
def zH (U : State) : Prop := ∀ E ∈ zEl, ∀ F ∈ zEl, E ≠ F → va_Nc E F U
theorem zH.moved {u U : State} (h : u.vm.Alike U.vm) (k : zH u) : zH U := fun E hE F hF hn => va_Nc.moved h (k E hE F hF hn)
/-- the script of the refutation: 5 berths, 6 boats, and in each step an hour passes -/
def scr (k : Nat) : Int32 := if k = 55 then 8 else if k = 56 then 10 else if 57 ≤ k then 1280 else 0
/-- what a method of the law's finds at its start: the object's cells, and the script beside them -/
def zBs (D : va_G) (y : Nat → ClassId) (w : va_W) (b sz : Nat) (U : State) : Prop := (zBx D y w sz U ∧ zH U) ∧ (va_X b 83 scr U U.heap ∧ b < sz ∧ ∀ q ∈ w, q.1 ≠ b)
/-- its end: as for all methods, and at least n cells are new -/
def zQg (D : va_G) (A : Nat → Prop) (Q : Option Value → va_W → Prop) (n : Nat) : Array Value → State → Outcome → State → Prop := fun a st oc t => zQ D A Q a st oc t ∧ st.heap.size + n ≤ t.heap.size
def zL (l : Launch) (D : va_G) (y : Nat → ClassId) (ym : MethodName) (cc : ByteArray) (maxL : Nat) (ret : Option FieldType) (fr mc ms lo b : Nat) (av : List Value) (w : va_W) (Q : Option Value → va_W → Prop) (n : Nat) : Prop :=
  ∀ sz : Nat, Met l ym (.code ym cc maxL ret :: WA) { frames := fr, cells := mc, slots := ms, locals := lo } (va_Pc av (zBs D y w b sz)) (zQg D (va_A w sz) Q n) mc ms (va_A w sz)
/-- a wrapper: it catches all that it calls may throw -/
def zWr (l : Launch) (D : va_G) (y : Nat → ClassId) (ym : MethodName) (cc : ByteArray) (maxL : Nat) (hh : List (Nat × Nat × Nat × Nat)) (fr mc ms lo b : Nat) (av : List Value) (w : va_W) (Q : Option Value → va_W → Prop) (n : Nat) : Prop :=
  ∀ sz : Nat, Met l ym (.codeWith ym cc maxL (some .int) hh :: WA) { frames := fr, cells := mc, slots := ms, locals := lo } (va_Pc av (zBs D y w b sz)) (zQg D (va_A w sz) Q n) mc ms (va_A w sz)
theorem zA_b {w : va_W} {b sz : Nat} (h1 : b < sz) (h2 : ∀ q ∈ w, q.1 ≠ b) : ¬ va_A w sz b := by
  rintro (⟨k, e, h⟩ | h)
  · exact h2 _ (List.mem_of_getElem? h) rfl
  · omega
theorem zL.of {l : Launch} {D : va_G} {y : Nat → ClassId} {ym : MethodName} {cc : ByteArray} {maxL : Nat} {ret : Option FieldType} {fr mc ms lo b : Nat} {av : List Value} {w : va_W} {Q : Option Value → va_W → Prop} {n : Nat} (hy : plainName ym.cls = true) (hav : (lg_sl av).length ≤ maxL)
    (k : ∀ (p : Program) (e : Env) (s : State) (m : MethodId) (args : Array Value) (below : List Frame) (meth : Method) (c : Code) (A : Nat → Prop) (ls : Array Slot),
      p.tables.exec = Jvm.exec → c.code = cc → meth.sig.returnType = ret → (∀ w ∈ WA, w.before args s = true) → s.vm.findClass ym.cls = some m.cls → meth.locks = false → c.maxLocals = maxL → zH s → va_X b 83 scr s s.heap → b < s.heap.size → ¬ A b → zN A s s.heap → va_K D vwCl (zT y) s → va_P D vwCl w s.heap → va_D A w → va_S A s.heap s.heap [] → (∀ q, s.heap.size ≤ q → A q) → lv_has ls maxL (lv_args 0 av) →
      W p l e { frames := fr, cells := mc, slots := ms, locals := lo } s m args below meth c s.heap [] 0 0 (MQ below (zQg D A Q n) args s mc ms A) (F0 m 0 ls [])) : zL l D y ym cc maxL ret fr mc ms lo b av w Q n := by
  intro sz
  refine Met.ofW (cc := cc) (maxL := maxL) (ret := ret) hy rfl ?_
  intro p e s m args below meth c s₁ B hml hv
  obtain ⟨rfl, ⟨⟨⟨hsz, hP, hK, hD⟩, hN⟩, hH⟩, hX, hbl, hbw⟩ := hv
  subst hsz
  rw [lg_entry_eq]
  exact k p e s m _ below meth c _ _ B.exec B.bytes B.returns (fun w h => atoms_spec (ws := .code ym cc maxL ret :: WA) B.pre w (List.mem_cons_of_mem _ h)) (findClass_of_methodNamed B.named) B.notSynchronized hml hH hX hbl (zA_b hbl hbw) hN hK hP hD.self va_S.rf (fun q h => Or.inr h) (lv_entry av hav)
theorem zWr.of {l : Launch} {D : va_G} {y : Nat → ClassId} {ym : MethodName} {cc : ByteArray} {maxL : Nat} {hh : List (Nat × Nat × Nat × Nat)} {fr mc ms lo b : Nat} {av : List Value} {w : va_W} {Q : Option Value → va_W → Prop} {n : Nat} (hy : plainName ym.cls = true) (hav : (lg_sl av).length ≤ maxL)
    (k : ∀ (p : Program) (e : Env) (s : State) (m : MethodId) (args : Array Value) (below : List Frame) (meth : Method) (c : Code) (A : Nat → Prop) (ls : Array Slot),
      p.tables.exec = Jvm.exec → c.code = cc → meth.sig.returnType = some .int → (∀ w ∈ WA, w.before args s = true) → s.vm.findClass ym.cls = some m.cls → meth.locks = false → c.maxLocals = maxL → c.exceptionTable.toList = tableOf hh → zH s → zN A s s.heap → va_K D vwCl (zT y) s → va_P D vwCl w s.heap → va_D A w → va_S A s.heap s.heap [] → (∀ q, s.heap.size ≤ q → A q) → lv_has ls maxL (lv_args 0 av) →
      W p l e { frames := fr, cells := mc, slots := ms, locals := lo } s m args below meth c s.heap [] 0 0 (MQ below (zQg D A Q n) args s mc ms A) (F0 m 0 ls [])) : zWr l D y ym cc maxL hh fr mc ms lo b av w Q n := by
  intro sz
  refine va_MetW (hh := hh) (cc := cc) (maxL := maxL) (ret := some .int) hy rfl ?_
  intro p e s m args below meth c s₁ B hml hv
  obtain ⟨rfl, ⟨⟨⟨hsz, hP, hK, hD⟩, hN⟩, hH⟩, hX, hbl, hbw⟩ := hv
  subst hsz
  rw [lg_entry_eq]
  exact k p e s m _ below meth c _ _ B.exec B.bytes B.returns (fun w h => atoms_spec (ws := .codeWith ym cc maxL (some .int) hh :: WA) B.pre w (List.mem_cons_of_mem _ h)) (findClass_of_methodNamed B.named) B.notSynchronized hml (vx_table (x := ym) B (atoms_spec (ws := .codeWith ym cc maxL (some .int) hh :: WA) B.pre _ List.mem_cons_self)) hH hN hK hP hD.self va_S.rf (fun q h => Or.inr h) (lv_entry av hav)
section ZLW
variable {p : Program} {l : Launch} {e : Env} {R : Room} {s : State} {m : MethodId} {args : Array Value} {below : List Frame} {meth : Method} {c : Code} {H : Heap} {locs : List Loc} {cells slots mc ms : Nat} {Qg : State → Prop}
  {D : va_G} {y : Nat → ClassId} {A : Nat → Prop} {w w' wa wb w1 : va_W} {Q : Option Value → va_W → Prop} {cc : ByteArray} {pc : Nat} {ls : Array Slot}
  {own C : String} {ym : MethodName} {bytes : ByteArray} {maxL nL n ng index fr lo b : Nat} {ret : Option FieldType} {hh : List (Nat × Nat × Nat × Nat)} {As rest st0 : List Value} {lv : List (Nat × Value)}
theorem z_iretG {v : Int32} (hG : Qg = MQ below (zQg D A Q ng) args s mc ms A) (hx : p.tables.exec = Jvm.exec) (hb : c.code = cc) (hr : meth.sig.returnType = some .int) (hlocks : meth.locks = false) (hP : va_P D vwCl w' H) (hD : va_D A w') (hS : va_S A s.heap H locs) (hc : cells ≤ mc) (hs : slots ≤ ms) (d : decode cc pc = .ok (.ireturn, 1)) (hQ : Q (some (.int v)) w') (hg : s.heap.size + ng ≤ H.size) : W p l e R s m args below meth c H locs cells slots Qg (F0 m pc ls [.int v]) := by
  subst hG
  exact W.widen hc hs (W.iret hx hb hr (fun t ht _ => ⟨⟨_, _, rfl, hQ, by rw [ht]; exact hP, hD, hS.F ht⟩, by rw [ht]; exact hg⟩) hS.2.2 d hlocks)
theorem z_zretG {v : Int32} {ty : FieldType} (hG : Qg = MQ below (zQg D A Q ng) args s mc ms A) (hx : p.tables.exec = Jvm.exec) (hb : c.code = cc) (hr : meth.sig.returnType = some ty) (hlocks : meth.locks = false) (hP : va_P D vwCl w' H) (hD : va_D A w') (hS : va_S A s.heap H locs) (hc : cells ≤ mc) (hs : slots ≤ ms) (d : decode cc pc = .ok (.ireturn, 1)) (hn : narrow ty (.int v) = .int v) (hQ : Q (some (.int v)) w') (hg : s.heap.size + ng ≤ H.size) : W p l e R s m args below meth c H locs cells slots Qg (F0 m pc ls [.int v]) := by
  subst hG
  exact W.widen hc hs (W.zret hx hb hr hn (fun t ht _ => ⟨⟨_, _, rfl, hQ, by rw [ht]; exact hP, hD, hS.F ht⟩, by rw [ht]; exact hg⟩) hS.2.2 d hlocks)
theorem zBs_blind {av : List Value} {sz : Nat} : FrameBlind (va_Pc av (zBs D y w b sz)) := fun a U g mk q => by
  obtain ⟨q0, ⟨qB, qH⟩, qX, q1⟩ := q
  obtain ⟨r0, rB⟩ := zBx_blind (av := av) (w := w) (sz := sz) (D := D) (y := y) a U g mk ⟨q0, qB⟩
  exact ⟨r0, ⟨rB, zH.moved (u := U) (U := U.calling g mk a) (Vm.Alike.refl U.vm) qH⟩, va_X.moved (u := U) (U := U.calling g mk a) (Vm.Alike.refl U.vm) qX, q1⟩
theorem zs_ok (hH : zH s) (hX : va_X b 83 scr s s.heap) (hbl : b < s.heap.size) (hbA : ¬ A b) (hN : zN A s s.heap) (hK : va_K D vwCl (zT y) s) (hP : va_P D vwCl w1 H) (hD : va_D A w1) (hS : va_S A s.heap H locs) (hA : ∀ q, s.heap.size ≤ q → A q) : ∀ U : State, U.heap = H → s.WarmedH U.vm → zBs D y w1 b H.size U := fun U hU hW =>
  ⟨⟨z_ok hN hK hP hD hS hA U hU hW, hH.moved hW.alike⟩, by rw [hU]; exact va_X.moved hW.alike (hX.kept (hS.2.1 b hbl hbA)), Nat.lt_of_lt_of_le hbl hS.1, fun q hq e => hbA (e ▸ (zf_D.mp hD).2 q hq)⟩
theorem z_callFg {a : Array Value} (hr : va_Run p l e R s m args below meth c H locs cells slots mc ms (F0 m pc ls st0) rest (zQg D (va_A w1 H.size) Q ng a) (va_A w1 H.size)) (hP : va_P D vwCl (wa ++ (w1 ++ wb)) H) (hD : va_D A (wa ++ (w1 ++ wb))) (hS : va_S A s.heap H locs) (hA : ∀ q, s.heap.size ≤ q → A q)
    (kk : ∀ (v : Option Value) (w' : va_W) (H1 : Heap) (locs1 : List Loc), Q v w' → va_P D vwCl (wa ++ (w' ++ wb)) H1 → va_D A (wa ++ (w' ++ wb)) → va_S A s.heap H1 locs1 → H.size + ng ≤ H1.size → W p l e R s m args below meth c H1 locs1 (cells + mc) (slots + ms) Qg (F0 m (pc + 3) ls (v.toList ++ rest))) : W p l e R s m args below meth c H locs cells slots Qg (F0 m pc ls st0) := by
  intro T hT X
  obtain ⟨v, st₀, t, T', L, h0, X', hL, e1, -, ⟨⟨v', w', hv, hQ, hP1, hD1, hF⟩, hgw⟩, st⟩ := hr T hT X
  cases hv
  have hI := z_in (zf_subD hD) hS hA
  obtain ⟨-, hk, hS1⟩ := vx_keep h0 e1 hS (fun q _ h => hI q h) hI hL hF
  obtain ⟨g1, g2⟩ := z_fr (H1 := T'.heap) hP hD hk (by rw [e1]; exact hP1) hD1 hI
  obtain ⟨t2, a1, b1⟩ := kk v w' T'.heap _ hQ g1 g2 hS1 (by rw [e1]; exact h0 ▸ hgw) T' rfl X'
  exact ⟨t2, st t2 a1, b1⟩
theorem zg_codeW (h : .codeWith ym bytes maxL (some .int) hh ∈ WA) : GoodIn WA (.codeWith ym bytes maxL (some .int) hh :: WA) := fun w hw => by
  rcases List.mem_cons.mp hw with rfl | hw
  · exact ⟨h, good_of_word (wa_good _ h)⟩
  · exact ⟨hw, good_of_word (wa_good _ hw)⟩
/-- a call of a method of the law's -/
theorem z_callL (hx : p.tables.exec = Jvm.exec) (hb : c.code = cc) (hml : c.maxLocals = nL) (hown : s.vm.findClass own = some m.cls) (hta : ∀ w ∈ WA, w.before args s = true) (vm : zSM C ym bytes maxL ret n) (hl : .methodLink own index ym ∈ WA)
    (hM : zL l D y ym bytes maxL ret fr mc ms lo b As w1 Q ng) (hH : zH s) (hX : va_X b 83 scr s s.heap) (hbl : b < s.heap.size) (hbA : ¬ A b) (hN : zN A s s.heap) (hK : va_K D vwCl (zT y) s) (hP : va_P D vwCl (wa ++ (w1 ++ wb)) H) (hD : va_D A (wa ++ (w1 ++ wb))) (hS : va_S A s.heap H locs) (hA : ∀ q, s.heap.size ≤ q → A q) (hn : As.length = n) (hls : lv_has ls nL lv)
    (hst : st0 = As.reverse ++ rest) (hW : (rest.map fun v => v.category).sum ≤ 8) (hR : fr + 1 ≤ R.frames ∧ 8 + (maxL + 11) + lo ≤ R.locals) (hf : cells + mc ≤ R.cells ∧ slots + ms ≤ R.slots) (hdg : decode cc pc = .ok (.invokestatic index, 3))
    (kk : ∀ (v : Option Value) (w' : va_W) (H1 : Heap) (locs1 : List Loc), Q v w' → va_P D vwCl (wa ++ (w' ++ wb)) H1 → va_D A (wa ++ (w' ++ wb)) → va_S A s.heap H1 locs1 → H.size + ng ≤ H1.size → W p l e R s m args below meth c H1 locs1 (cells + mc) (slots + ms) Qg (F0 m (pc + 3) ls (v.toList ++ rest))) : W p l e R s m args below meth c H locs cells slots Qg (F0 m pc ls st0) :=
  z_callFg (va_runS (As := As) (rest := rest) (cc := cc) (nL := nL) (Ts := WA) ⟨hx, hb, hml, hown, hta⟩ (hM H.size) (z_sw hta vm hl hR) ⟨zBs_blind, fun U hU hW => ⟨rfl, zs_ok hH hX hbl hbA hN hK (zf_sub hP) (zf_subD hD) hS hA U hU hW⟩⟩ rfl hn hls.1 hst (lv_room hW) hdg hf) hP hD hS hA kk
/-- a call of a wrapper -/
theorem z_callWr (hx : p.tables.exec = Jvm.exec) (hb : c.code = cc) (hml : c.maxLocals = nL) (hown : s.vm.findClass own = some m.cls) (hta : ∀ w ∈ WA, w.before args s = true) (vm : (.static ym ∈ WA ∧ .initialized ym.cls ∈ WA ∧ .codeWith ym bytes maxL (some .int) hh ∈ WA) ∧ ym.cls ≠ "java/lang/invoke/MethodHandle" ∧ ym.cls ≠ "java/lang/invoke/VarHandle" ∧ (parseMethodDescriptor ym.desc).map (fun d => d.parameters.length) = some n) (hl : .methodLink own index ym ∈ WA)
    (hM : zWr l D y ym bytes maxL hh fr mc ms lo b As w1 Q ng) (hH : zH s) (hX : va_X b 83 scr s s.heap) (hbl : b < s.heap.size) (hbA : ¬ A b) (hN : zN A s s.heap) (hK : va_K D vwCl (zT y) s) (hP : va_P D vwCl (wa ++ (w1 ++ wb)) H) (hD : va_D A (wa ++ (w1 ++ wb))) (hS : va_S A s.heap H locs) (hA : ∀ q, s.heap.size ≤ q → A q) (hn : As.length = n) (hls : lv_has ls nL lv)
    (hst : st0 = As.reverse ++ rest) (hW : (rest.map fun v => v.category).sum ≤ 8) (hR : fr + 1 ≤ R.frames ∧ 8 + (maxL + 11) + lo ≤ R.locals) (hf : cells + mc ≤ R.cells ∧ slots + ms ≤ R.slots) (hdg : decode cc pc = .ok (.invokestatic index, 3))
    (kk : ∀ (v : Option Value) (w' : va_W) (H1 : Heap) (locs1 : List Loc), Q v w' → va_P D vwCl (wa ++ (w' ++ wb)) H1 → va_D A (wa ++ (w' ++ wb)) → va_S A s.heap H1 locs1 → H.size + ng ≤ H1.size → W p l e R s m args below meth c H1 locs1 (cells + mc) (slots + ms) Qg (F0 m (pc + 3) ls (v.toList ++ rest))) : W p l e R s m args below meth c H locs cells slots Qg (F0 m pc ls st0) :=
  z_callFg (vx_runSW (hh := hh) (bytes := bytes) (maxL := maxL) (ret := some .int) (As := As) (rest := rest) (cc := cc) (nL := nL) (Ts := WA) ⟨hx, hb, hml, hown, hta⟩ (hM H.size)
    ⟨⟨rfl, rfl, hR.1, hR.2, pay_in hta (zg_codeW vm.1.2.2), List.mem_cons_self⟩, hta _ vm.1.2.2, hta _ vm.1.2.1, ⟨vm.2.1, vm.2.2.1⟩, fun sig h => by
      have h2 := vm.2.2.2
      rw [h] at h2
      exact (Option.some.inj h2).symm, hta _ hl, hta _ vm.1.1⟩
    ⟨zBs_blind, fun U hU hW => ⟨rfl, zs_ok hH hX hbl hbA hN hK (zf_sub hP) (zf_subD hD) hS hA U hU hW⟩⟩ rfl hn hls.1 hst (lv_room hW) hdg hf) hP hD hS hA kk
end ZLW
theorem zc_own : ∀ E ∈ zEl, Cond.castable E E ∈ zNG := by decide +kernel
section ZCT
variable {p : Program} {l : Launch} {e : Env} {R : Room} {s : State} {m : MethodId} {args : Array Value} {below : List Frame} {meth : Method} {c : Code} {H : Heap} {locs : List Loc} {cells slots : Nat} {Qg : State → Prop} {A : Nat → Prop} {pc : Nat} {ls : Array Slot} {rest : List Value}
theorem z_catch {E : String} {a1 b1 h1 k1 : Nat} {hh : List (Nat × Nat × Nat × Nat)} (hh1 hh2 : List (Nat × Nat × Nat × Nat)) {ce : Cell} {q : Addr} (hown : s.vm.findClass RL = some m.cls) (hta : ∀ w ∈ WA, w.before args s = true) (hH : zH s) (hN : zN A s s.heap)
    (hex : c.exceptionTable.toList = tableOf hh) (hsp : hh = hh1 ++ (a1, b1, h1, k1) :: hh2) (hpre : ∀ z ∈ hh1, z.2.2.2 ≠ 0 ∧ ∃ F ∈ zEl, E ≠ F ∧ Cond.classLink RL z.2.2.2 F ∈ WA) (hE : E ∈ zEl) (hcov : a1 ≤ pc ∧ pc < b1) (hk : k1 ≠ 0) (hl : Cond.classLink RL k1 E ∈ WA)
    (hc9 : H[q]? = some ce) (hv9 : ce.vm = .none) (hcl9 : s.vm.findClass E = some ce.cls) (kk : W p l e R s m args below meth c H locs cells slots Qg (F0 m h1 ls [.ref q])) : vx_W p l e R s m args below meth c H locs cells slots Qg (F0 m pc ls rest) q := by
  refine vx_catch (own := RL) (name := E) (E := E) hown (tableOf hh1) ⟨a1, b1, h1, k1⟩ (tableOf hh2) (by rw [hex, hsp]; simp [tableOf]) (fun z hz => ?_) (by simp [covers, hcov]) hk (hta _ hl) (va_Nw.use rfl (hN.2.1 _ (zc_own E hE))) hc9 hv9 hcl9 kk
  obtain ⟨u, hu, rfl⟩ := List.mem_map.mp hz
  obtain ⟨g1, F, g2, g3, g4⟩ := hpre u hu
  exact Or.inr ⟨g1, F, hta _ g4, hH E hE F g2 g3⟩
end ZCT
