/-! the calls that ask for the least weight -/
def lsC (no nb : Nat) (ob : Nat → Int32) (b v : Int32) : Nat := if inB b no = true then (if inB (ob (nN b)) nb = true then (if v = -1 then 3 else 0) else 2) else 1
theorem lsC_1 {no nb : Nat} {ob : Nat → Int32} {b v : Int32} (h : inB b no = false) : lsC no nb ob b v = 1 := by rw [lsC, h, if_neg Bool.false_ne_true]
theorem lsC_2 {no nb : Nat} {ob : Nat → Int32} {b v : Int32} (h8 : no ≤ 8) (h : ∃ j, j < no ∧ b = nI j ∧ inB (ob j) nb = false) : lsC no nb ob b v = 2 := by
  obtain ⟨j, hj, rfl, h⟩ := h
  rw [lsC, if_pos ((inB_iff (by omega)).mpr ⟨j, hj, rfl⟩), show nN (nI j) = j from nI_clamp (by omega), h, if_neg Bool.false_ne_true]
theorem lsC_3 {no nb j : Nat} {ob : Nat → Int32} {v : Int32} (h8 : no ≤ 8) (hj : j < no) (h : inB (ob j) nb = true) : lsC no nb ob (nI j) v = if v = -1 then 3 else 0 := by
  rw [lsC, if_pos ((inB_iff (by omega)).mpr ⟨j, hj, rfl⟩), show nN (nI j) = j from nI_clamp (by omega), if_pos h]
/-! methods that leave other cells than they found when they throw -/
def zXCw (D : va_G) (A : Nat → Prop) (X : String → va_W → Prop) : String → State → State → Prop := fun E st t => ∃ w' : va_W, X E w' ∧ va_P D vwCl w' t.heap ∧ va_D A w' ∧ va_F A st t
def zXw (l : Launch) (D : va_G) (y : Nat → ClassId) (ym : MethodName) (cc : ByteArray) (maxL : Nat) (ret : Option FieldType) (fr mc ms lo : Nat) (av : List Value) (w : va_W) (Q : Option Value → va_W → Prop) (X : String → va_W → Prop) : Prop :=
  ∀ sz : Nat, vx_Met l ym (.code ym cc maxL ret :: WA) { frames := fr, cells := mc, slots := ms, locals := lo } (va_Pc av (zBx D y w sz)) (zQ D (va_A w sz) Q) (zXCw D (va_A w sz) X) mc ms (va_A w sz)
theorem zXw.of {l : Launch} {D : va_G} {y : Nat → ClassId} {ym : MethodName} {cc : ByteArray} {maxL : Nat} {ret : Option FieldType} {fr mc ms lo : Nat} {av : List Value} {w : va_W} {Q : Option Value → va_W → Prop} {X : String → va_W → Prop} (hy : plainName ym.cls = true) (hav : (lg_sl av).length ≤ maxL)
    (k : ∀ (p : Program) (e : Env) (s : State) (m : MethodId) (args : Array Value) (below : List Frame) (meth : Method) (c : Code) (A : Nat → Prop) (ls : Array Slot),
      p.tables.exec = Jvm.exec → c.code = cc → meth.sig.returnType = ret → (∀ w ∈ WA, w.before args s = true) → s.vm.findClass ym.cls = some m.cls → meth.locks = false → c.maxLocals = maxL → (∀ x ∈ c.exceptionTable.toList, False) → zN A s s.heap → va_K D vwCl (zT y) s → va_P D vwCl w s.heap → va_D A w → va_S A s.heap s.heap [] → (∀ q, s.heap.size ≤ q → A q) → lv_has ls maxL (lv_args 0 av) →
      W p l e { frames := fr, cells := mc, slots := ms, locals := lo } s m args below meth c s.heap [] 0 0 (vx_MQ below (zQ D A Q) (zXCw D A X) args s mc ms A) (F0 m 0 ls [])) : zXw l D y ym cc maxL ret fr mc ms lo av w Q X := by
  intro sz
  refine vx_ofW (cc := cc) (maxL := maxL) (ret := ret) hy rfl ?_
  intro p e s m args below meth c s₁ B hml hex hv
  obtain ⟨rfl, ⟨hsz, hP, hK, hD⟩, hN⟩ := hv
  subst hsz
  rw [lg_entry_eq]
  exact k p e s m _ below meth c _ _ B.exec B.bytes B.returns (fun w h => atoms_spec (ws := .code ym cc maxL ret :: WA) B.pre w (List.mem_cons_of_mem _ h)) (findClass_of_methodNamed B.named) B.notSynchronized hml hex hN hK hP hD.self va_S.rf (fun q h => Or.inr h) (lv_entry av hav)
section ZXW
variable {p : Program} {l : Launch} {e : Env} {R : Room} {s : State} {m : MethodId} {args : Array Value} {below : List Frame} {meth : Method} {c : Code} {H : Heap} {locs : List Loc} {cells slots mc ms : Nat} {Qg : State → Prop}
  {D : va_G} {A : Nat → Prop} {w' : va_W} {X : String → va_W → Prop} {Qc : Array Value → State → Outcome → State → Prop} {g : JFrame}
theorem zxw_Q (hD : va_D A w') {t : State} (h : vx_MQ below Qc (zXC D A w' (fun E => X E w')) args s mc ms A t) : vx_MQ below Qc (zXCw D A X) args s mc ms A t := by
  obtain ⟨o, h1, h2, h3⟩ := h
  refine ⟨o, h1, h2, h3.imp (fun z => z) ?_⟩
  rintro ⟨q, hq, E, ce, L, ⟨a1, a2, a3⟩, r⟩
  exact ⟨q, hq, E, ce, L, ⟨w', a1, a2, hD, a3⟩, r⟩
theorem zw_x (hG : Qg = vx_MQ below Qc (zXCw D A X) args s mc ms A) (hD : va_D A w') (k : W p l e R s m args below meth c H locs cells slots (vx_MQ below Qc (zXC D A w' (fun E => X E w')) args s mc ms A) g) : W p l e R s m args below meth c H locs cells slots Qg g := by
  subst hG
  intro T hT Y
  obtain ⟨t, a, b⟩ := k T hT Y
  exact ⟨t, a, zxw_Q hD b⟩
theorem zw_xv {q : Addr} (hG : Qg = vx_MQ below Qc (zXCw D A X) args s mc ms A) (hD : va_D A w') (k : vx_W p l e R s m args below meth c H locs cells slots (vx_MQ below Qc (zXC D A w' (fun E => X E w')) args s mc ms A) g q) : vx_W p l e R s m args below meth c H locs cells slots Qg g q := by
  subst hG
  intro T hT Y
  obtain ⟨t, a, b⟩ := k T hT Y
  exact ⟨t, a, zxw_Q hD b⟩
end ZXW
