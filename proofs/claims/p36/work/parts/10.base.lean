/-! The forms that all contracts of this proof have. D: the classes' numbers; y: the array classes; w: the cells of a whole object (its own, and its rows). -/
abbrev zT (y : Nat → ClassId) : List (ClassId × FieldType) := [(y 0, .int)]
/-- words that no list of a method may hold: what a throw asks of the tables beside, and the links to nest mates -/
def zNL : List Cond := [.methodLinkNest RX5 18 yX4_init RX5, .methodLinkNest RX5 25 yX0_init RX5, .methodLinkNest RX5 32 yX1_init RX5, .methodLinkNest RX5 39 yX2_init RX5, .methodLinkNest RX5 9 yX3_init RX5, .methodLinkNest RX2 38 yX5_holds RX5]
def zNG : List Cond := zNL ++ ((vx_atS RX5 72 "java/lang/IndexOutOfBoundsException" ["java/lang/RuntimeException", "java/lang/Exception"]).filter (fun w => !goodWord w) ++ ((vx_atS RX5 83 "java/lang/IllegalArgumentException" ["java/lang/RuntimeException", "java/lang/Exception"]).filter (fun w => !goodWord w) ++ ((vx_atS RX5 91 "java/lang/IllegalStateException" ["java/lang/RuntimeException", "java/lang/Exception"]).filter (fun w => !goodWord w) ++ ((zn_atS RX5 153 "java/util/NoSuchElementException" "java/lang/RuntimeException" 13 prog_21_method_4_code ["java/lang/Exception"]).filter (fun w => !goodWord w)))))
def zNgb (w : Cond) : Bool := match w with
  | .declares _ => true
  | .castable _ _ => true
  | .methodLinkNest _ _ _ _ => true
  | _ => false
theorem zNG_ok : zNG.all zNgb = true := by decide +kernel
theorem zNG_warm {s U : State} (hW : s.WarmedH U.vm) {w : Cond} (hw : w ∈ zNG) (h : va_Nw w s) : va_Nw w U := by
  have g := List.all_eq_true.mp zNG_ok w hw
  cases w <;> first
    | (exact va_Nw.warmD hW h)
    | (exact va_Nw.warmC hW h)
    | (exact va_Nw.warmM hW h)
    | (exact absurd g (by simp [zNgb]))
theorem zNG_same {u U : State} (hv : u.vm = U.vm) {w : Cond} (hw : w ∈ zNG) (h : va_Nw w u) : va_Nw w U := by
  have g := List.all_eq_true.mp zNG_ok w hw
  cases w <;> first
    | (exact va_Nw.same rfl hv h)
    | (exact absurd g (by simp [zNgb]))
def zStr : List (Nat × String) := [(70, "no such berth in front"), (81, "a limit is out of range"), (89, "no more berths"), (96, "a number is out of range"), (99, "no more boats"), (117, "an hour is out of range"), (120, "no more spans"), (151, "no flood"), (161, "the lift is not possible"), (176, "the launch is not possible"), (182, "the shift is not possible"), (184, "the boat is not away"), (194, "no boat waits"), (196, "the boat is not in a berth"), (201, "the berth is empty"), (203, "the number is out of range"), (208, "the boat cannot be painted"), (231, "no clear way"), (252, "no such boat"), (254, "no such berth"), (256, "the hour is out of range")]
/-- what a throw needs beside the words: two statics of Throwable, words that only the tables keep, the texts -/
def zN (A : Nat → Prop) (U : State) (H : Heap) : Prop := (vx_Zq Bundle.tN "UNASSIGNED_STACK" Bundle.steD A U H ∧ vx_Zq Bundle.tN "SUPPRESSED_SENTINEL" Bundle.listD A U H) ∧ (∀ w ∈ zNG, va_Nw w U) ∧ ∀ q ∈ zStr, ∃ sa : Nat, vk_R RX5 q.1 q.2 sa U
def zB (D : va_G) (y : Nat → ClassId) (w : va_W) (sz : Nat) (U : State) : Prop := U.heap.size = sz ∧ va_P D vwCl w U.heap ∧ va_K D vwCl (zT y) U ∧ va_D (fun _ => True) w
def zBx (D : va_G) (y : Nat → ClassId) (w : va_W) (sz : Nat) (U : State) : Prop := zB D y w sz U ∧ zN (va_A w sz) U U.heap
def zQ (D : va_G) (A : Nat → Prop) (Q : Option Value → va_W → Prop) : Array Value → State → Outcome → State → Prop := fun _ st oc t => ∃ (v : Option Value) (w' : va_W), oc = .returned v ∧ Q v w' ∧ va_P D vwCl w' t.heap ∧ va_D A w' ∧ va_F A st t
def zXC (D : va_G) (A : Nat → Prop) (w : va_W) (X : String → Prop) : String → State → State → Prop := fun E st t => X E ∧ va_P D vwCl w t.heap ∧ va_F A st t ∧ st.heap.size < t.heap.size
/-- a method that returns -/
def zP (l : Launch) (D : va_G) (y : Nat → ClassId) (ym : MethodName) (cc : ByteArray) (maxL : Nat) (ret : Option FieldType) (fr mc ms lo : Nat) (av : List Value) (w : va_W) (Q : Option Value → va_W → Prop) : Prop :=
  ∀ sz : Nat, Met l ym (.code ym cc maxL ret :: WA) { frames := fr, cells := mc, slots := ms, locals := lo } (va_Pc av (zBx D y w sz)) (zQ D (va_A w sz) Q) mc ms (va_A w sz)
/-- a method that returns, or throws an exception of a class in X and leaves the cells as they were -/
def zX (l : Launch) (D : va_G) (y : Nat → ClassId) (ym : MethodName) (cc : ByteArray) (maxL : Nat) (ret : Option FieldType) (fr mc ms lo : Nat) (av : List Value) (w : va_W) (Q : Option Value → va_W → Prop) (X : String → Prop) : Prop :=
  ∀ sz : Nat, vx_Met l ym (.code ym cc maxL ret :: WA) { frames := fr, cells := mc, slots := ms, locals := lo } (va_Pc av (zBx D y w sz)) (zQ D (va_A w sz) Q) (zXC D (va_A w sz) w X) mc ms (va_A w sz)
theorem zP.of {l : Launch} {D : va_G} {y : Nat → ClassId} {ym : MethodName} {cc : ByteArray} {maxL : Nat} {ret : Option FieldType} {fr mc ms lo : Nat} {av : List Value} {w : va_W} {Q : Option Value → va_W → Prop} (hy : plainName ym.cls = true) (hav : (lg_sl av).length ≤ maxL)
    (k : ∀ (p : Program) (e : Env) (s : State) (m : MethodId) (args : Array Value) (below : List Frame) (meth : Method) (c : Code) (A : Nat → Prop) (ls : Array Slot),
      p.tables.exec = Jvm.exec → c.code = cc → meth.sig.returnType = ret → (∀ w ∈ WA, w.before args s = true) → s.vm.findClass ym.cls = some m.cls → meth.locks = false → c.maxLocals = maxL → meth.name = ym.name → zN A s s.heap → va_K D vwCl (zT y) s → va_P D vwCl w s.heap → va_D A w → va_S A s.heap s.heap [] → (∀ q, s.heap.size ≤ q → A q) → lv_has ls maxL (lv_args 0 av) →
      W p l e { frames := fr, cells := mc, slots := ms, locals := lo } s m args below meth c s.heap [] 0 0 (MQ below (zQ D A Q) args s mc ms A) (F0 m 0 ls [])) : zP l D y ym cc maxL ret fr mc ms lo av w Q := by
  intro sz
  refine Met.ofW (cc := cc) (maxL := maxL) (ret := ret) hy rfl ?_
  intro p e s m args below meth c s₁ B hml hv
  obtain ⟨rfl, ⟨hsz, hP, hK, hD⟩, hN⟩ := hv
  subst hsz
  rw [lg_entry_eq]
  exact k p e s m _ below meth c _ _ B.exec B.bytes B.returns (fun w h => atoms_spec (ws := .code ym cc maxL ret :: WA) B.pre w (List.mem_cons_of_mem _ h)) (findClass_of_methodNamed B.named) B.notSynchronized hml (name_of_methodNamed B.named B.method).1 hN hK hP hD.self va_S.rf (fun q h => Or.inr h) (lv_entry av hav)
theorem zX.of {l : Launch} {D : va_G} {y : Nat → ClassId} {ym : MethodName} {cc : ByteArray} {maxL : Nat} {ret : Option FieldType} {fr mc ms lo : Nat} {av : List Value} {w : va_W} {Q : Option Value → va_W → Prop} {X : String → Prop} (hy : plainName ym.cls = true) (hav : (lg_sl av).length ≤ maxL)
    (k : ∀ (p : Program) (e : Env) (s : State) (m : MethodId) (args : Array Value) (below : List Frame) (meth : Method) (c : Code) (A : Nat → Prop) (ls : Array Slot),
      p.tables.exec = Jvm.exec → c.code = cc → meth.sig.returnType = ret → (∀ w ∈ WA, w.before args s = true) → s.vm.findClass ym.cls = some m.cls → meth.locks = false → c.maxLocals = maxL → (∀ x ∈ c.exceptionTable.toList, False) → zN A s s.heap → va_K D vwCl (zT y) s → va_P D vwCl w s.heap → va_D A w → va_S A s.heap s.heap [] → (∀ q, s.heap.size ≤ q → A q) → lv_has ls maxL (lv_args 0 av) →
      W p l e { frames := fr, cells := mc, slots := ms, locals := lo } s m args below meth c s.heap [] 0 0 (vx_MQ below (zQ D A Q) (zXC D A w X) args s mc ms A) (F0 m 0 ls [])) : zX l D y ym cc maxL ret fr mc ms lo av w Q X := by
  intro sz
  refine vx_ofW (cc := cc) (maxL := maxL) (ret := ret) hy rfl ?_
  intro p e s m args below meth c s₁ B hml hex hv
  obtain ⟨rfl, ⟨hsz, hP, hK, hD⟩, hN⟩ := hv
  subst hsz
  rw [lg_entry_eq]
  exact k p e s m _ below meth c _ _ B.exec B.bytes B.returns (fun w h => atoms_spec (ws := .code ym cc maxL ret :: WA) B.pre w (List.mem_cons_of_mem _ h)) (findClass_of_methodNamed B.named) B.notSynchronized hml hex hN hK hP hD.self va_S.rf (fun q h => Or.inr h) (lv_entry av hav)
section ZR
variable {p : Program} {l : Launch} {e : Env} {R : Room} {s : State} {m : MethodId} {args : Array Value} {below : List Frame} {meth : Method} {c : Code} {H H0 : Heap} {locs : List Loc} {cells slots mc ms : Nat} {Qg : State → Prop}
  {D : va_G} {y : Nat → ClassId} {A : Nat → Prop} {w w' : va_W} {Q : Option Value → va_W → Prop} {cc : ByteArray} {pc : Nat} {ls : Array Slot}
theorem z_iret {v : Int32} (hG : Qg = MQ below (zQ D A Q) args s mc ms A) (hx : p.tables.exec = Jvm.exec) (hb : c.code = cc) (hr : meth.sig.returnType = some .int) (hlocks : meth.locks = false) (hP : va_P D vwCl w' H) (hD : va_D A w') (hS : va_S A s.heap H locs) (hc : cells ≤ mc) (hs : slots ≤ ms) (d : decode cc pc = .ok (.ireturn, 1)) (hQ : Q (some (.int v)) w') : W p l e R s m args below meth c H locs cells slots Qg (F0 m pc ls [.int v]) := by
  subst hG
  exact W.widen hc hs (W.iret hx hb hr (fun t ht _ => ⟨_, _, rfl, hQ, by rw [ht]; exact hP, hD, hS.F ht⟩) hS.2.2 d hlocks)
theorem z_zret {v : Int32} {ty : FieldType} (hG : Qg = MQ below (zQ D A Q) args s mc ms A) (hx : p.tables.exec = Jvm.exec) (hb : c.code = cc) (hr : meth.sig.returnType = some ty) (hlocks : meth.locks = false) (hP : va_P D vwCl w' H) (hD : va_D A w') (hS : va_S A s.heap H locs) (hc : cells ≤ mc) (hs : slots ≤ ms) (d : decode cc pc = .ok (.ireturn, 1)) (hn : narrow ty (.int v) = .int v) (hQ : Q (some (.int v)) w') : W p l e R s m args below meth c H locs cells slots Qg (F0 m pc ls [.int v]) := by
  subst hG
  exact W.widen hc hs (W.zret hx hb hr hn (fun t ht _ => ⟨_, _, rfl, hQ, by rw [ht]; exact hP, hD, hS.F ht⟩) hS.2.2 d hlocks)
theorem z_vret (hG : Qg = MQ below (zQ D A Q) args s mc ms A) (hx : p.tables.exec = Jvm.exec) (hb : c.code = cc) (hr : meth.sig.returnType = none) (hlocks : meth.locks = false) (hP : va_P D vwCl w' H) (hD : va_D A w') (hS : va_S A s.heap H locs) (hc : cells ≤ mc) (hs : slots ≤ ms) (d : decode cc pc = .ok (.return_, 1)) (hQ : Q none w') : W p l e R s m args below meth c H locs cells slots Qg (F0 m pc ls []) := by
  subst hG
  exact W.widen hc hs (W.vret hx hb hr (fun t ht _ => ⟨_, _, rfl, hQ, by rw [ht]; exact hP, hD, hS.F ht⟩) hS.2.2 d hlocks)
theorem z_lret {v : Int64} (hG : Qg = MQ below (zQ D A Q) args s mc ms A) (hx : p.tables.exec = Jvm.exec) (hb : c.code = cc) (hr : meth.sig.returnType = some .long) (hlocks : meth.locks = false) (hP : va_P D vwCl w' H) (hD : va_D A w') (hS : va_S A s.heap H locs) (hc : cells ≤ mc) (hs : slots ≤ ms) (d : decode cc pc = .ok (.lreturn, 1)) (hQ : Q (some (.long v)) w') : W p l e R s m args below meth c H locs cells slots Qg (F0 m pc ls [.long v]) := by
  subst hG
  exact W.widen hc hs (W.lret hx hb hr (fun t ht _ => ⟨_, _, rfl, hQ, by rw [ht]; exact hP, hD, hS.F ht⟩) hS.2.2 d hlocks)
theorem z_fret {v : UInt32} (hG : Qg = MQ below (zQ D A Q) args s mc ms A) (hx : p.tables.exec = Jvm.exec) (hb : c.code = cc) (hr : meth.sig.returnType = some .float) (hlocks : meth.locks = false) (hP : va_P D vwCl w' H) (hD : va_D A w') (hS : va_S A s.heap H locs) (hc : cells ≤ mc) (hs : slots ≤ ms) (d : decode cc pc = .ok (.freturn, 1)) (hQ : Q (some (.float v)) w') : W p l e R s m args below meth c H locs cells slots Qg (F0 m pc ls [.float v]) := by
  subst hG
  exact W.widen hc hs (W.fret hx hb hr (fun t ht _ => ⟨_, _, rfl, hQ, by rw [ht]; exact hP, hD, hS.F ht⟩) hS.2.2 d hlocks)
theorem z_dret {v : UInt64} (hG : Qg = MQ below (zQ D A Q) args s mc ms A) (hx : p.tables.exec = Jvm.exec) (hb : c.code = cc) (hr : meth.sig.returnType = some .double) (hlocks : meth.locks = false) (hP : va_P D vwCl w' H) (hD : va_D A w') (hS : va_S A s.heap H locs) (hc : cells ≤ mc) (hs : slots ≤ ms) (d : decode cc pc = .ok (.dreturn, 1)) (hQ : Q (some (.double v)) w') : W p l e R s m args below meth c H locs cells slots Qg (F0 m pc ls [.double v]) := by
  subst hG
  exact W.widen hc hs (W.dret hx hb hr (fun t ht _ => ⟨_, _, rfl, hQ, by rw [ht]; exact hP, hD, hS.F ht⟩) hS.2.2 d hlocks)
theorem z_iretX {v : Int32} {XC : String → State → State → Prop} (hG : Qg = vx_MQ below (zQ D A Q) XC args s mc ms A) (hx : p.tables.exec = Jvm.exec) (hb : c.code = cc) (hr : meth.sig.returnType = some .int) (hlocks : meth.locks = false) (hP : va_P D vwCl w' H) (hD : va_D A w') (hS : va_S A s.heap H locs) (hc : cells ≤ mc) (hs : slots ≤ ms) (d : decode cc pc = .ok (.ireturn, 1)) (hQ : Q (some (.int v)) w') : W p l e R s m args below meth c H locs cells slots Qg (F0 m pc ls [.int v]) := by
  subst hG
  exact vx_ret (W.widen hc hs (W.iret hx hb hr (fun t ht _ => ⟨_, _, rfl, hQ, by rw [ht]; exact hP, hD, hS.F ht⟩) hS.2.2 d hlocks))
theorem z_zretX {v : Int32} {ty : FieldType} {XC : String → State → State → Prop} (hG : Qg = vx_MQ below (zQ D A Q) XC args s mc ms A) (hx : p.tables.exec = Jvm.exec) (hb : c.code = cc) (hr : meth.sig.returnType = some ty) (hlocks : meth.locks = false) (hP : va_P D vwCl w' H) (hD : va_D A w') (hS : va_S A s.heap H locs) (hc : cells ≤ mc) (hs : slots ≤ ms) (d : decode cc pc = .ok (.ireturn, 1)) (hn : narrow ty (.int v) = .int v) (hQ : Q (some (.int v)) w') : W p l e R s m args below meth c H locs cells slots Qg (F0 m pc ls [.int v]) := by
  subst hG
  exact vx_ret (W.widen hc hs (W.zret hx hb hr hn (fun t ht _ => ⟨_, _, rfl, hQ, by rw [ht]; exact hP, hD, hS.F ht⟩) hS.2.2 d hlocks))
theorem z_vretX {XC : String → State → State → Prop} (hG : Qg = vx_MQ below (zQ D A Q) XC args s mc ms A) (hx : p.tables.exec = Jvm.exec) (hb : c.code = cc) (hr : meth.sig.returnType = none) (hlocks : meth.locks = false) (hP : va_P D vwCl w' H) (hD : va_D A w') (hS : va_S A s.heap H locs) (hc : cells ≤ mc) (hs : slots ≤ ms) (d : decode cc pc = .ok (.return_, 1)) (hQ : Q none w') : W p l e R s m args below meth c H locs cells slots Qg (F0 m pc ls []) := by
  subst hG
  exact vx_ret (W.widen hc hs (W.vret hx hb hr (fun t ht _ => ⟨_, _, rfl, hQ, by rw [ht]; exact hP, hD, hS.F ht⟩) hS.2.2 d hlocks))
theorem z_lretX {v : Int64} {XC : String → State → State → Prop} (hG : Qg = vx_MQ below (zQ D A Q) XC args s mc ms A) (hx : p.tables.exec = Jvm.exec) (hb : c.code = cc) (hr : meth.sig.returnType = some .long) (hlocks : meth.locks = false) (hP : va_P D vwCl w' H) (hD : va_D A w') (hS : va_S A s.heap H locs) (hc : cells ≤ mc) (hs : slots ≤ ms) (d : decode cc pc = .ok (.lreturn, 1)) (hQ : Q (some (.long v)) w') : W p l e R s m args below meth c H locs cells slots Qg (F0 m pc ls [.long v]) := by
  subst hG
  exact vx_ret (W.widen hc hs (W.lret hx hb hr (fun t ht _ => ⟨_, _, rfl, hQ, by rw [ht]; exact hP, hD, hS.F ht⟩) hS.2.2 d hlocks))
theorem z_fretX {v : UInt32} {XC : String → State → State → Prop} (hG : Qg = vx_MQ below (zQ D A Q) XC args s mc ms A) (hx : p.tables.exec = Jvm.exec) (hb : c.code = cc) (hr : meth.sig.returnType = some .float) (hlocks : meth.locks = false) (hP : va_P D vwCl w' H) (hD : va_D A w') (hS : va_S A s.heap H locs) (hc : cells ≤ mc) (hs : slots ≤ ms) (d : decode cc pc = .ok (.freturn, 1)) (hQ : Q (some (.float v)) w') : W p l e R s m args below meth c H locs cells slots Qg (F0 m pc ls [.float v]) := by
  subst hG
  exact vx_ret (W.widen hc hs (W.fret hx hb hr (fun t ht _ => ⟨_, _, rfl, hQ, by rw [ht]; exact hP, hD, hS.F ht⟩) hS.2.2 d hlocks))
theorem z_dretX {v : UInt64} {XC : String → State → State → Prop} (hG : Qg = vx_MQ below (zQ D A Q) XC args s mc ms A) (hx : p.tables.exec = Jvm.exec) (hb : c.code = cc) (hr : meth.sig.returnType = some .double) (hlocks : meth.locks = false) (hP : va_P D vwCl w' H) (hD : va_D A w') (hS : va_S A s.heap H locs) (hc : cells ≤ mc) (hs : slots ≤ ms) (d : decode cc pc = .ok (.dreturn, 1)) (hQ : Q (some (.double v)) w') : W p l e R s m args below meth c H locs cells slots Qg (F0 m pc ls [.double v]) := by
  subst hG
  exact vx_ret (W.widen hc hs (W.dret hx hb hr (fun t ht _ => ⟨_, _, rfl, hQ, by rw [ht]; exact hP, hD, hS.F ht⟩) hS.2.2 d hlocks))
/-- any address of a world's own is free to the one who holds it -/
theorem z_in (hD : va_D A w) (hS : va_S A H0 H locs) (hA : ∀ q, H0.size ≤ q → A q) : ∀ q, va_A w H.size q → A q := by
  intro q h
  rcases h with ⟨k, e, h⟩ | h
  · exact hD.2 k (q, e) h
  · exact hA q (Nat.le_trans hS.1 h)
theorem zN.here {A B : Nat → Prop} {U : State} (hN : zN A s s.heap) (hS : va_S A s.heap H locs) (hB : ∀ q, B q → A q) (hU : U.heap = H) (hW : s.WarmedH U.vm) : zN B U U.heap :=
  ⟨⟨by rw [hU]; exact ((hN.1.1.kept hS.2.1).moved hW.alike).narrow hB, by rw [hU]; exact ((hN.1.2.kept hS.2.1).moved hW.alike).narrow hB⟩, fun w hw => zNG_warm hW hw (hN.2.1 w hw), fun q hq => (hN.2.2 q hq).imp fun _ h => h.warm hW⟩
theorem z_call {st0 rest : List Value} {a : Array Value} (hr : va_Run p l e R s m args below meth c H locs cells slots mc ms (F0 m pc ls st0) rest (zQ D (va_A w H.size) Q a) (va_A w H.size)) (hD : va_D A w) (hS : va_S A H0 H locs) (hA : ∀ q, H0.size ≤ q → A q)
    (kk : ∀ (v : Option Value) (w' : va_W) (H1 : Heap) (locs1 : List Loc), Q v w' → va_P D vwCl w' H1 → va_D A w' → va_S A H0 H1 locs1 → W p l e R s m args below meth c H1 locs1 (cells + mc) (slots + ms) Qg (F0 m (pc + 3) ls (v.toList ++ rest))) : W p l e R s m args below meth c H locs cells slots Qg (F0 m pc ls st0) := by
  intro T hT X
  obtain ⟨v, st₀, t, T', L, h0, X', hL, e1, -, ⟨v', w', hv, hQ, hP1, hD1, hF⟩, st⟩ := hr T hT X
  cases hv
  have hI := z_in hD hS hA
  obtain ⟨-, -, hS1⟩ := vx_keep h0 e1 hS (fun q _ h => hI q h) hI hL hF
  obtain ⟨t2, a1, b1⟩ := kk v w' T'.heap _ hQ (by rw [e1]; exact hP1) (hD1.weaken (fun _ _ _ h => hI _ h)) hS1 T' rfl X'
  exact ⟨t2, st t2 a1, b1⟩
theorem z_xcall {st0 rest : List Value} {a : Array Value} {X : String → Prop} (hr : vx_Run p l e R s m args below meth c H locs cells slots mc ms (F0 m pc ls st0) rest (zQ D (va_A w H.size) Q a) (zXC D (va_A w H.size) w X) (va_A w H.size)) (hD : va_D A w) (hS : va_S A H0 H locs) (hA : ∀ q, H0.size ≤ q → A q)
    (kx : ∀ (E : String) (ce : Cell) (q : Addr) (H1 : Heap) (locs1 : List Loc), X E → va_P D vwCl w H1 → va_S A H0 H1 locs1 → H1[q]? = some ce → ce.vm = .none → s.vm.findClass E = some ce.cls ∧ H0.size < H1.size → vx_W p l e R s m args below meth c H1 locs1 (cells + mc) (slots + ms) Qg (F0 m pc ls rest) q)
    (kk : ∀ (v : Option Value) (w' : va_W) (H1 : Heap) (locs1 : List Loc), Q v w' → va_P D vwCl w' H1 → va_D A w' → va_S A H0 H1 locs1 → W p l e R s m args below meth c H1 locs1 (cells + mc) (slots + ms) Qg (F0 m (pc + 3) ls (v.toList ++ rest))) : W p l e R s m args below meth c H locs cells slots Qg (F0 m pc ls st0) := by
  intro T hT X
  have hI := z_in hD hS hA
  rcases hr T hT X with ⟨v, st₀, t, T', L, h0, X', hL, e1, -, ⟨v', w', hv, hQ, hP1, hD1, hF⟩, st⟩ | ⟨q, st₀, t, T', L, E, ce, h0, X', hL, e1, -, ⟨hE, hP1, hF, hgw⟩, hce, hcv, hcl, st⟩
  · cases hv
    obtain ⟨-, -, hS1⟩ := vx_keep h0 e1 hS (fun q _ h => hI q h) hI hL hF
    obtain ⟨t2, a1, b1⟩ := kk v w' T'.heap _ hQ (by rw [e1]; exact hP1) (hD1.weaken (fun _ _ _ h => hI _ h)) hS1 T' rfl X'
    exact ⟨t2, st t2 a1, b1⟩
  · obtain ⟨-, -, hS1⟩ := vx_keep h0 e1 hS (fun q _ h => hI q h) hI hL hF
    obtain ⟨t2, a1, b1⟩ := kx E ce q T'.heap _ hE (by rw [e1]; exact hP1) hS1 (by rw [e1]; exact hce) hcv ⟨hcl, by rw [e1]; exact Nat.lt_of_le_of_lt hS.1 (h0 ▸ hgw)⟩ T' rfl X'
    exact ⟨t2, st.trans a1, b1⟩
/-- an exception of a callee goes on to the caller -/
theorem z_out {Qc : Array Value → State → Outcome → State → Prop} {st : List Value} {X' : String → Prop} {E : String} {ce : Cell} {q : Addr} (hG : Qg = vx_MQ below Qc (zXC D A w X') args s mc ms A) (hex : ∀ x ∈ c.exceptionTable.toList, False) (hlocks : meth.locks = false) (hX : X' E) (hP : va_P D vwCl w H) (hS : va_S A s.heap H locs) (hc : H[q]? = some ce) (hv : ce.vm = .none) (hcl : s.vm.findClass E = some ce.cls ∧ s.heap.size < H.size) (h1 : cells ≤ mc) (h2 : slots ≤ ms) :
    vx_W p l e R s m args below meth c H locs cells slots Qg (F0 m pc ls st) q := by
  subst hG
  exact vx_out (fun x h => (hex x h).elim) hlocks hc hv hcl.1 (fun t ht _ => ⟨hX, by rw [ht]; exact hP, hS.F ht, by rw [ht]; exact hcl.2⟩) hS.2.2 h1 h2
end ZR
/-- what of a method every call of it needs -/
def zVM (C : String) (y : MethodName) (bytes : ByteArray) (maxL : Nat) (ret : Option FieldType) (n : Nat) : Prop := (.instanceMethod y ∈ WA ∧ .selects C y y ∈ WA ∧ .initialized C ∈ WA ∧ .code y bytes maxL ret ∈ WA) ∧ y.cls = C ∧ y.cls ≠ "java/lang/invoke/MethodHandle" ∧ y.cls ≠ "java/lang/invoke/VarHandle" ∧ (parseMethodDescriptor y.desc).map (fun d => d.parameters.length) = some n
def zSM (C : String) (y : MethodName) (bytes : ByteArray) (maxL : Nat) (ret : Option FieldType) (n : Nat) : Prop := (.static y ∈ WA ∧ .initialized C ∈ WA ∧ .code y bytes maxL ret ∈ WA) ∧ y.cls = C ∧ y.cls ≠ "java/lang/invoke/MethodHandle" ∧ y.cls ≠ "java/lang/invoke/VarHandle" ∧ (parseMethodDescriptor y.desc).map (fun d => d.parameters.length) = some n
theorem zg_code {y : MethodName} {bytes : ByteArray} {maxL : Nat} {ret : Option FieldType} (h : .code y bytes maxL ret ∈ WA) : GoodIn WA (.code y bytes maxL ret :: WA) := fun w hw => by
  rcases List.mem_cons.mp hw with rfl | hw
  · exact ⟨h, good_of_word (wa_good _ h)⟩
  · exact ⟨hw, good_of_word (wa_good _ hw)⟩
section ZC
variable {p : Program} {l : Launch} {e : Env} {R : Room} {s : State} {m : MethodId} {args : Array Value} {below : List Frame} {meth : Method} {c : Code} {H H0 : Heap} {locs : List Loc} {cells slots mc ms : Nat} {Qg : State → Prop}
  {D : va_G} {y : Nat → ClassId} {A : Nat → Prop} {w w' : va_W} {Q : Option Value → va_W → Prop} {X : String → Prop} {cc : ByteArray} {pc : Nat} {ls : Array Slot}
  {own C : String} {ym : MethodName} {bytes : ByteArray} {maxL nL n index fr lo : Nat} {ret : Option FieldType} {b : Nat} {As rest st0 : List Value} {T : u_T} {N ci q0 : Nat} {fs : List Value} {lv : List (Nat × Value)}
theorem z_cw (hta : ∀ w ∈ WA, w.before args s = true) (vm : zVM C ym bytes maxL ret n) (hl : .methodLink own index ym ∈ WA) (hR : fr + 1 ≤ R.frames ∧ 8 + (maxL + 11) + lo ≤ R.locals) : CallW R s args own C index ym bytes maxL ret (.code ym bytes maxL ret :: WA) { frames := fr, cells := mc, slots := ms, locals := lo } mc ms n := by
  obtain ⟨⟨h1, h2, h3, h4⟩, h5, h6⟩ := vm
  refine cwV n hta ?_ rfl rfl rfl ⟨h5, h6⟩ hR
  intro w hw
  unfold wsV at hw
  rcases List.mem_append.mp hw with hw | hw
  · have hm : w ∈ WA := by
      simp only [List.mem_cons, List.not_mem_nil, or_false] at hw
      rcases hw with rfl | rfl | rfl | rfl
      · exact hl
      · exact h1
      · exact h2
      · exact h3
    exact ⟨hm, good_of_word (wa_good _ hm)⟩
  · exact zg_code h4 w hw
theorem z_sw (hta : ∀ w ∈ WA, w.before args s = true) (vm : zSM C ym bytes maxL ret n) (hl : .methodLink own index ym ∈ WA) (hR : fr + 1 ≤ R.frames ∧ 8 + (maxL + 11) + lo ≤ R.locals) : CallB R s args own index ym bytes maxL ret (.code ym bytes maxL ret :: WA) { frames := fr, cells := mc, slots := ms, locals := lo } mc ms n ∧ (Cond.static ym).before args s = true := by
  obtain ⟨⟨h1, h3, h4⟩, h5, h6⟩ := vm
  exact ⟨callB_of n hta (zg_code h4) rfl rfl rfl (by rw [h5]; exact hta _ h3) (hta _ hl) h6 hR, hta _ h1⟩
theorem zBx_blind {av : List Value} {sz : Nat} : FrameBlind (va_Pc av (zBx D y w sz)) := fun a U g mk q => by
  obtain ⟨q0, ⟨q1, qP, qK, qD⟩, qN⟩ := q
  exact ⟨q0, ⟨q1, qP, va_K.moved (u := U) (U := U.calling g mk a) (Vm.Alike.refl U.vm) qK, qD⟩, ⟨vx_Zq.moved (u := U) (U := U.calling g mk a) (Vm.Alike.refl U.vm) qN.1.1, vx_Zq.moved (u := U) (U := U.calling g mk a) (Vm.Alike.refl U.vm) qN.1.2⟩, fun w hw => zNG_same (u := U) (U := U.calling g mk a) rfl hw (qN.2.1 w hw), fun q hq => (qN.2.2 q hq).imp fun _ h => vk_R.same (u := U) (U := U.calling g mk a) rfl h⟩
/-- a call of a method of an object -/
theorem z_callV (hx : p.tables.exec = Jvm.exec) (hb : c.code = cc) (hml : c.maxLocals = nL) (hown : s.vm.findClass own = some m.cls) (hta : ∀ w ∈ WA, w.before args s = true) (vm : zVM C ym bytes maxL ret n) (hl : .methodLink own index ym ∈ WA)
    (hM : zP l D y ym bytes maxL ret fr mc ms lo (.ref b :: As) w Q) (hN : zN A s s.heap) (hK : va_K D vwCl (zT y) s) (hP : va_P D vwCl w H) (hD : va_D A w) (hS : va_S A s.heap H locs) (hA : ∀ q, s.heap.size ≤ q → A q) (q0 : Nat) (he : w[q0]? = some (b, .inr (ci, fs))) (hc : vwCl[ci]? = some (C, T, N)) (hn : As.length = n) (hls : lv_has ls nL lv)
    (hst : st0 = As.reverse ++ .ref b :: rest) (hW : (rest.map fun v => v.category).sum ≤ 8) (hR : fr + 1 ≤ R.frames ∧ 8 + (maxL + 11) + lo ≤ R.locals) (hf : cells + mc ≤ R.cells ∧ slots + ms ≤ R.slots) (hdg : decode cc pc = .ok (.invokevirtual index, 3))
    (kk : ∀ (v : Option Value) (w' : va_W) (H1 : Heap) (locs1 : List Loc), Q v w' → va_P D vwCl w' H1 → va_D A w' → va_S A s.heap H1 locs1 → W p l e R s m args below meth c H1 locs1 (cells + mc) (slots + ms) Qg (F0 m (pc + 3) ls (v.toList ++ rest))) : W p l e R s m args below meth c H locs cells slots Qg (F0 m pc ls st0) :=
  z_call (va_runV (As := As) (rest := rest) (cc := cc) (nL := nL) (Ts := WA) ⟨hx, hb, hml, hown, hta⟩ (hM H.size) (z_cw hta vm hl hR) ⟨zBx_blind, va_recv hK hP hc he, fun U hU hW => ⟨rfl, ⟨by rw [hU], by rw [hU]; exact hP, va_K.moved hW.alike hK, hD.weaken (fun _ _ _ _ => trivial)⟩, hN.here hS (z_in hD hS hA) hU hW⟩⟩ rfl hn hls.1 hst (lv_room hW) hdg hf) hD hS hA kk
theorem z_callS (hx : p.tables.exec = Jvm.exec) (hb : c.code = cc) (hml : c.maxLocals = nL) (hown : s.vm.findClass own = some m.cls) (hta : ∀ w ∈ WA, w.before args s = true) (vm : zSM C ym bytes maxL ret n) (hl : .methodLink own index ym ∈ WA)
    (hM : zP l D y ym bytes maxL ret fr mc ms lo As w Q) (hN : zN A s s.heap) (hK : va_K D vwCl (zT y) s) (hP : va_P D vwCl w H) (hD : va_D A w) (hS : va_S A s.heap H locs) (hA : ∀ q, s.heap.size ≤ q → A q) (hn : As.length = n) (hls : lv_has ls nL lv)
    (hst : st0 = As.reverse ++ rest) (hW : (rest.map fun v => v.category).sum ≤ 8) (hR : fr + 1 ≤ R.frames ∧ 8 + (maxL + 11) + lo ≤ R.locals) (hf : cells + mc ≤ R.cells ∧ slots + ms ≤ R.slots) (hdg : decode cc pc = .ok (.invokestatic index, 3))
    (kk : ∀ (v : Option Value) (w' : va_W) (H1 : Heap) (locs1 : List Loc), Q v w' → va_P D vwCl w' H1 → va_D A w' → va_S A s.heap H1 locs1 → W p l e R s m args below meth c H1 locs1 (cells + mc) (slots + ms) Qg (F0 m (pc + 3) ls (v.toList ++ rest))) : W p l e R s m args below meth c H locs cells slots Qg (F0 m pc ls st0) :=
  z_call (va_runS (As := As) (rest := rest) (cc := cc) (nL := nL) (Ts := WA) ⟨hx, hb, hml, hown, hta⟩ (hM H.size) (z_sw hta vm hl hR) ⟨zBx_blind, fun U hU hW => ⟨rfl, ⟨by rw [hU], by rw [hU]; exact hP, va_K.moved hW.alike hK, hD.weaken (fun _ _ _ _ => trivial)⟩, hN.here hS (z_in hD hS hA) hU hW⟩⟩ rfl hn hls.1 hst (lv_room hW) hdg hf) hD hS hA kk
/-- a call of a method that may throw -/
theorem z_xcallV (hx : p.tables.exec = Jvm.exec) (hb : c.code = cc) (hml : c.maxLocals = nL) (hown : s.vm.findClass own = some m.cls) (hta : ∀ w ∈ WA, w.before args s = true) (vm : zVM C ym bytes maxL ret n) (hl : .methodLink own index ym ∈ WA)
    (hM : zX l D y ym bytes maxL ret fr mc ms lo (.ref b :: As) w Q X) (hN : zN A s s.heap) (hK : va_K D vwCl (zT y) s) (hP : va_P D vwCl w H) (hD : va_D A w) (hS : va_S A s.heap H locs) (hA : ∀ q, s.heap.size ≤ q → A q) (q0 : Nat) (he : w[q0]? = some (b, .inr (ci, fs))) (hc : vwCl[ci]? = some (C, T, N)) (hn : As.length = n) (hls : lv_has ls nL lv)
    (hst : st0 = As.reverse ++ .ref b :: rest) (hW : (rest.map fun v => v.category).sum ≤ 8) (hR : fr + 1 ≤ R.frames ∧ 8 + (maxL + 11) + lo ≤ R.locals) (hf : cells + mc ≤ R.cells ∧ slots + ms ≤ R.slots) (hdg : decode cc pc = .ok (.invokevirtual index, 3))
    (kx : ∀ (E : String) (ce : Cell) (q : Addr) (H1 : Heap) (locs1 : List Loc), X E → va_P D vwCl w H1 → va_S A s.heap H1 locs1 → H1[q]? = some ce → ce.vm = .none → s.vm.findClass E = some ce.cls ∧ s.heap.size < H1.size → vx_W p l e R s m args below meth c H1 locs1 (cells + mc) (slots + ms) Qg (F0 m pc ls rest) q)
    (kk : ∀ (v : Option Value) (w' : va_W) (H1 : Heap) (locs1 : List Loc), Q v w' → va_P D vwCl w' H1 → va_D A w' → va_S A s.heap H1 locs1 → W p l e R s m args below meth c H1 locs1 (cells + mc) (slots + ms) Qg (F0 m (pc + 3) ls (v.toList ++ rest))) : W p l e R s m args below meth c H locs cells slots Qg (F0 m pc ls st0) :=
  z_xcall (vx_runV (As := As) (rest := rest) (cc := cc) (nL := nL) (Ts := WA) ⟨hx, hb, hml, hown, hta⟩ (hM H.size) (z_cw hta vm hl hR) ⟨zBx_blind, va_recv hK hP hc he, fun U hU hW => ⟨rfl, ⟨by rw [hU], by rw [hU]; exact hP, va_K.moved hW.alike hK, hD.weaken (fun _ _ _ _ => trivial)⟩, hN.here hS (z_in hD hS hA) hU hW⟩⟩ rfl hn hls.1 hst (lv_room hW) hdg hf) hD hS hA kx kk
/-- a call of a nest mate's private static method -/
theorem z_callN {host : String} (hx : p.tables.exec = Jvm.exec) (hb : c.code = cc) (hml : c.maxLocals = nL) (hown : s.vm.findClass own = some m.cls) (hta : ∀ w ∈ WA, w.before args s = true) (vm : zSM C ym bytes maxL ret n) (hl : .methodLinkNest own index ym host ∈ zNG)
    (hM : zP l D y ym bytes maxL ret fr mc ms lo As w Q) (hN : zN A s s.heap) (hK : va_K D vwCl (zT y) s) (hP : va_P D vwCl w H) (hD : va_D A w) (hS : va_S A s.heap H locs) (hA : ∀ q, s.heap.size ≤ q → A q) (hn : As.length = n) (hls : lv_has ls nL lv)
    (hst : st0 = As.reverse ++ rest) (hW : (rest.map fun v => v.category).sum ≤ 8) (hR : fr + 1 ≤ R.frames ∧ 8 + (maxL + 11) + lo ≤ R.locals) (hf : cells + mc ≤ R.cells ∧ slots + ms ≤ R.slots) (hdg : decode cc pc = .ok (.invokestatic index, 3))
    (kk : ∀ (v : Option Value) (w' : va_W) (H1 : Heap) (locs1 : List Loc), Q v w' → va_P D vwCl w' H1 → va_D A w' → va_S A s.heap H1 locs1 → W p l e R s m args below meth c H1 locs1 (cells + mc) (slots + ms) Qg (F0 m (pc + 3) ls (v.toList ++ rest))) : W p l e R s m args below meth c H locs cells slots Qg (F0 m pc ls st0) :=
  z_call (va_runSN (As := As) (rest := rest) (cc := cc) (nL := nL) (Ts := WA) ⟨hx, hb, hml, hown, hta⟩ (hM H.size) ⟨va_cnB n hta (zg_code vm.1.2.2) rfl rfl rfl (hN.2.1 _ hl) (by rw [vm.2.1]; exact hta _ vm.1.2.1) vm.2.2 hR, hta _ vm.1.1, trivial⟩ ⟨zBx_blind, fun U hU hW => ⟨rfl, ⟨by rw [hU], by rw [hU]; exact hP, va_K.moved hW.alike hK, hD.weaken (fun _ _ _ _ => trivial)⟩, hN.here hS (z_in hD hS hA) hU hW⟩⟩ rfl hn hls.1 hst (lv_room hW) hdg hf) hD hS hA kk
end ZC
