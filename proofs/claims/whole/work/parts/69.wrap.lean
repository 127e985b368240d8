/-! the law's wrappers: static, with handlers; what they call has its cells among others -/
def zEl : List String := ["java/lang/IndexOutOfBoundsException", "java/lang/IllegalArgumentException", "java/lang/IllegalStateException", "java/lang/ArithmeticException", "java/util/NoSuchElementException"]
def zH (U : State) : Prop := ∀ E ∈ zEl, ∀ F ∈ zEl, E ≠ F → va_Nc E F U
theorem zH.moved {u U : State} (h : u.vm.Alike U.vm) (k : zH u) : zH U := fun E hE F hF hn => va_Nc.moved h (k E hE F hF hn)
section ZXF
variable {p : Program} {l : Launch} {e : Env} {R : Room} {s : State} {m : MethodId} {args : Array Value} {below : List Frame} {meth : Method} {c : Code} {H : Heap} {locs : List Loc} {cells slots mc ms : Nat} {Qg : State → Prop}
  {D : va_G} {y : Nat → ClassId} {A : Nat → Prop} {w wa wb w1 : va_W} {Q : Option Value → va_W → Prop} {X : String → Prop} {Xw : String → va_W → Prop} {cc : ByteArray} {pc : Nat} {ls : Array Slot}
  {own C host : String} {ym : MethodName} {bytes : ByteArray} {maxL nL n index fr lo : Nat} {ret : Option FieldType} {b : Nat} {As rest st0 : List Value} {T : u_T} {N ci q0 : Nat} {fs : List Value} {lv : List (Nat × Value)}
theorem z_xcallFw {a : Array Value} (hr : vx_Run p l e R s m args below meth c H locs cells slots mc ms (F0 m pc ls st0) rest (zQ D (va_A w1 H.size) Q a) (zXCw D (va_A w1 H.size) Xw) (va_A w1 H.size)) (hP : va_P D vwCl (wa ++ (w1 ++ wb)) H) (hD : va_D A (wa ++ (w1 ++ wb))) (hS : va_S A s.heap H locs) (hA : ∀ q, s.heap.size ≤ q → A q)
    (kx : ∀ (E : String) (ce : Cell) (q : Addr) (w' : va_W) (H1 : Heap) (locs1 : List Loc), Xw E w' → va_P D vwCl (wa ++ (w' ++ wb)) H1 → va_D A (wa ++ (w' ++ wb)) → va_S A s.heap H1 locs1 → H1[q]? = some ce → ce.vm = .none → s.vm.findClass E = some ce.cls → vx_W p l e R s m args below meth c H1 locs1 (cells + mc) (slots + ms) Qg (F0 m pc ls rest) q)
    (kk : ∀ (v : Option Value) (w' : va_W) (H1 : Heap) (locs1 : List Loc), Q v w' → va_P D vwCl (wa ++ (w' ++ wb)) H1 → va_D A (wa ++ (w' ++ wb)) → va_S A s.heap H1 locs1 → W p l e R s m args below meth c H1 locs1 (cells + mc) (slots + ms) Qg (F0 m (pc + 3) ls (v.toList ++ rest))) : W p l e R s m args below meth c H locs cells slots Qg (F0 m pc ls st0) := by
  intro T hT X
  have hI := z_in (zf_subD hD) hS hA
  rcases hr T hT X with ⟨v, st₀, t, T', L, h0, X', hL, e1, -, ⟨v', w', hv, hQ, hP1, hD1, hF⟩, st⟩ | ⟨q, st₀, t, T', L, E, ce, h0, X', hL, e1, -, ⟨w', hE, hP1, hD1, hF⟩, hce, hcv, hcl, st⟩
  · cases hv
    obtain ⟨-, hk, hS1⟩ := vx_keep h0 e1 hS (fun q _ h => hI q h) hI hL hF
    obtain ⟨g1, g2⟩ := z_fr (H1 := T'.heap) hP hD hk (by rw [e1]; exact hP1) hD1 hI
    obtain ⟨t2, a1, b1⟩ := kk v w' T'.heap _ hQ g1 g2 hS1 T' rfl X'
    exact ⟨t2, st t2 a1, b1⟩
  · obtain ⟨-, hk, hS1⟩ := vx_keep h0 e1 hS (fun q _ h => hI q h) hI hL hF
    obtain ⟨g1, g2⟩ := z_fr (H1 := T'.heap) hP hD hk (by rw [e1]; exact hP1) hD1 hI
    obtain ⟨t2, a1, b1⟩ := kx E ce q w' T'.heap _ hE g1 g2 hS1 (by rw [e1]; exact hce) hcv hcl T' rfl X'
    exact ⟨t2, st.trans a1, b1⟩
theorem vx_Run.exc {mc ms : Nat} {g : JFrame} {rest : List Value} {Qa : State → Outcome → State → Prop} {XC XC' : String → State → State → Prop} {free : Addr → Prop} (h : vx_Run p l e R s m args below meth c H locs cells slots mc ms g rest Qa XC free) (k : ∀ E st t, XC E st t → XC' E st t) : vx_Run p l e R s m args below meth c H locs cells slots mc ms g rest Qa XC' free := by
  intro T hT X
  rcases h T hT X with z | ⟨q, st₀, t, T', L, E, ce, h0, X', hL, e1, e2, hx, z⟩
  · exact Or.inl z
  · exact Or.inr ⟨q, st₀, t, T', L, E, ce, h0, X', hL, e1, e2, k _ _ _ hx, z⟩
/-- a call that may throw, its cells in the middle: as they were when it throws -/
theorem z_xcallVF (hx : p.tables.exec = Jvm.exec) (hb : c.code = cc) (hml : c.maxLocals = nL) (hown : s.vm.findClass own = some m.cls) (hta : ∀ w ∈ WA, w.before args s = true) (vm : zVM C ym bytes maxL ret n) (hl : .methodLink own index ym ∈ WA)
    (hM : zX l D y ym bytes maxL ret fr mc ms lo (.ref b :: As) w1 Q X) (hN : zN A s s.heap) (hK : va_K D vwCl (zT y) s) (hP : va_P D vwCl (wa ++ (w1 ++ wb)) H) (hD : va_D A (wa ++ (w1 ++ wb))) (hS : va_S A s.heap H locs) (hA : ∀ q, s.heap.size ≤ q → A q) (q0 : Nat) (he : w1[q0]? = some (b, .inr (ci, fs))) (hc : vwCl[ci]? = some (C, T, N)) (hn : As.length = n) (hls : lv_has ls nL lv)
    (hst : st0 = As.reverse ++ .ref b :: rest) (hW : (rest.map fun v => v.category).sum ≤ 8) (hR : fr + 1 ≤ R.frames ∧ 8 + (maxL + 11) + lo ≤ R.locals) (hf : cells + mc ≤ R.cells ∧ slots + ms ≤ R.slots) (hdg : decode cc pc = .ok (.invokevirtual index, 3))
    (kx : ∀ (E : String) (ce : Cell) (q : Addr) (w' : va_W) (H1 : Heap) (locs1 : List Loc), X E ∧ w' = w1 → va_P D vwCl (wa ++ (w' ++ wb)) H1 → va_D A (wa ++ (w' ++ wb)) → va_S A s.heap H1 locs1 → H1[q]? = some ce → ce.vm = .none → s.vm.findClass E = some ce.cls → vx_W p l e R s m args below meth c H1 locs1 (cells + mc) (slots + ms) Qg (F0 m pc ls rest) q)
    (kk : ∀ (v : Option Value) (w' : va_W) (H1 : Heap) (locs1 : List Loc), Q v w' → va_P D vwCl (wa ++ (w' ++ wb)) H1 → va_D A (wa ++ (w' ++ wb)) → va_S A s.heap H1 locs1 → W p l e R s m args below meth c H1 locs1 (cells + mc) (slots + ms) Qg (F0 m (pc + 3) ls (v.toList ++ rest))) : W p l e R s m args below meth c H locs cells slots Qg (F0 m pc ls st0) :=
  z_xcallFw (Xw := fun E w' => X E ∧ w' = w1) (vx_Run.exc (vx_runV (As := As) (rest := rest) (cc := cc) (nL := nL) (Ts := WA) ⟨hx, hb, hml, hown, hta⟩ (hM H.size) (z_cw hta vm hl hR) ⟨zBx_blind, va_recv hK (zf_sub hP) hc he, fun U hU hW => ⟨rfl, z_ok hN hK (zf_sub hP) (zf_subD hD) hS hA U hU hW⟩⟩ rfl hn hls.1 hst (lv_room hW) hdg hf)
    (fun E st t ⟨h1, h2, h3⟩ => ⟨w1, ⟨h1, rfl⟩, h2, (zf_subD hD).self, h3⟩)) hP hD hS hA kx kk
theorem z_xwcallVF (hx : p.tables.exec = Jvm.exec) (hb : c.code = cc) (hml : c.maxLocals = nL) (hown : s.vm.findClass own = some m.cls) (hta : ∀ w ∈ WA, w.before args s = true) (vm : zVM C ym bytes maxL ret n) (hl : .methodLink own index ym ∈ WA)
    (hM : zXw l D y ym bytes maxL ret fr mc ms lo (.ref b :: As) w1 Q Xw) (hN : zN A s s.heap) (hK : va_K D vwCl (zT y) s) (hP : va_P D vwCl (wa ++ (w1 ++ wb)) H) (hD : va_D A (wa ++ (w1 ++ wb))) (hS : va_S A s.heap H locs) (hA : ∀ q, s.heap.size ≤ q → A q) (q0 : Nat) (he : w1[q0]? = some (b, .inr (ci, fs))) (hc : vwCl[ci]? = some (C, T, N)) (hn : As.length = n) (hls : lv_has ls nL lv)
    (hst : st0 = As.reverse ++ .ref b :: rest) (hW : (rest.map fun v => v.category).sum ≤ 8) (hR : fr + 1 ≤ R.frames ∧ 8 + (maxL + 11) + lo ≤ R.locals) (hf : cells + mc ≤ R.cells ∧ slots + ms ≤ R.slots) (hdg : decode cc pc = .ok (.invokevirtual index, 3))
    (kx : ∀ (E : String) (ce : Cell) (q : Addr) (w' : va_W) (H1 : Heap) (locs1 : List Loc), Xw E w' → va_P D vwCl (wa ++ (w' ++ wb)) H1 → va_D A (wa ++ (w' ++ wb)) → va_S A s.heap H1 locs1 → H1[q]? = some ce → ce.vm = .none → s.vm.findClass E = some ce.cls → vx_W p l e R s m args below meth c H1 locs1 (cells + mc) (slots + ms) Qg (F0 m pc ls rest) q)
    (kk : ∀ (v : Option Value) (w' : va_W) (H1 : Heap) (locs1 : List Loc), Q v w' → va_P D vwCl (wa ++ (w' ++ wb)) H1 → va_D A (wa ++ (w' ++ wb)) → va_S A s.heap H1 locs1 → W p l e R s m args below meth c H1 locs1 (cells + mc) (slots + ms) Qg (F0 m (pc + 3) ls (v.toList ++ rest))) : W p l e R s m args below meth c H locs cells slots Qg (F0 m pc ls st0) :=
  z_xcallFw (vx_runV (As := As) (rest := rest) (cc := cc) (nL := nL) (Ts := WA) ⟨hx, hb, hml, hown, hta⟩ (hM H.size) (z_cw hta vm hl hR) ⟨zBx_blind, va_recv hK (zf_sub hP) hc he, fun U hU hW => ⟨rfl, z_ok hN hK (zf_sub hP) (zf_subD hD) hS hA U hU hW⟩⟩ rfl hn hls.1 hst (lv_room hW) hdg hf) hP hD hS hA kx kk
end ZXF
