/-! the law's loop: what holds at its places -/
abbrev lwA (s : State) : Nat → Prop := fun q => s.heap.size ≤ q
def LC (p : Program) (s : State) (m : MethodId) (meth : Method) (c : Code) (b L : Nat) (xs : Nat → Int32) (D : va_G) (y : Nat → ClassId) : Prop :=
  p.tables.exec = Jvm.exec ∧ c.code = cL_law ∧ meth.sig.returnType = ret ∧ c.maxLocals = 9 ∧ s.vm.findClass RL = some m.cls ∧ (∀ w ∈ WA, w.before #[Value.ref b] s = true) ∧ va_X b L xs s s.heap ∧ b < s.heap.size ∧ meth.locks = false ∧ zN (lwA s) s s.heap ∧ zH s ∧ va_K D vwCl (zT y) s
def LawK (p : Program) (l : Launch) (e : Env) (s : State) (m : MethodId) (below : List Frame) (meth : Method) (c : Code) (D : va_G) (y : Nat → ClassId) (b : Nat) (a a' : Nat → Nat) (o1 o2 kq cells slots pc : Nat) (G : State → Prop) : Prop :=
  ∀ (cap clr : Int32) (t : Nat) (hom mov : Int32) (wm : Int64) (tb tf ts : Int32) (nw : Nat) (wf wt : Nat → Int32) (nb : Nat) (bw bl bi bb : Nat → Int32) (no : Nat) (od ow ol ork ob olf oco : Nat → Int32) (pn pb pm : Int32) (pcd pw pli : Nat → Int32) (mth : Int32) (fr at_ aw : Nat → Int32) (mp : Int32) (mpl msh msl mwa mse : Nat → Int32) (v0 : Nat → Int64) (d0 : Nat → UInt64) (H : Heap) (locs : List Loc) (ls : Array Slot), Rel t nw wf wt nb fr bi bb no ow ob olf at_ aw → va_P D vwCl (wM a' y mth (nI t) tb tf ts cap clr mov hom wm (nI nw) wf wt (nI nb) fr bw bl (nI no) od ow ol ork olf oco at_ aw mp mpl msh msl mwa mse ++ ((wB a y cap clr (nI t) hom mov wm tb tf ts (nI nw) wf wt (nI nb) bw bl bi bb (nI no) od ow ol ork ob olf oco pn pb pm pcd pw pli ++ oL y o1 v0) ++ oD y o2 d0)) H → va_D (lwA s) (wM a' y mth (nI t) tb tf ts cap clr mov hom wm (nI nw) wf wt (nI nb) fr bw bl (nI no) od ow ol ork olf oco at_ aw mp mpl msh msl mwa mse ++ ((wB a y cap clr (nI t) hom mov wm tb tf ts (nI nw) wf wt (nI nb) bw bl bi bb (nI no) od ow ol ork ob olf oco pn pb pm pcd pw pli ++ oL y o1 v0) ++ oD y o2 d0)) → va_S (lwA s) s.heap H locs → lv_has ls 9 [(0, Value.ref b), (1, Value.ref (a 0)), (2, Value.ref (a' 0)), (3, Value.ref o1), (4, Value.ref o2), (5, Value.int (nI (5 * kq)))] → W p l e room_1 s m #[Value.ref b] below meth c H locs cells slots G (F0 m pc ls [])
theorem z_as {D : va_G} {w0 w1 w2 w3 : va_W} {H : Heap} (h : va_P D vwCl (w0 ++ ((w1 ++ w2) ++ w3)) H) : va_P D vwCl (w0 ++ (w1 ++ (w2 ++ w3))) H := by rw [← List.append_assoc w1 w2 w3]; exact h
theorem z_asD {A : Nat → Prop} {w0 w1 w2 w3 : va_W} (h : va_D A (w0 ++ ((w1 ++ w2) ++ w3))) : va_D A (w0 ++ (w1 ++ (w2 ++ w3))) := by rw [← List.append_assoc w1 w2 w3]; exact h
theorem z_sa {D : va_G} {w0 w1 w2 w3 : va_W} {H : Heap} (h : va_P D vwCl (w0 ++ (w1 ++ (w2 ++ w3))) H) : va_P D vwCl (w0 ++ ((w1 ++ w2) ++ w3)) H := by rw [List.append_assoc w1 w2 w3]; exact h
theorem z_saD {A : Nat → Prop} {w0 w1 w2 w3 : va_W} (h : va_D A (w0 ++ (w1 ++ (w2 ++ w3)))) : va_D A (w0 ++ ((w1 ++ w2) ++ w3)) := by rw [List.append_assoc w1 w2 w3]; exact h
theorem z_pm {D : va_G} {w w' : va_W} {H : Heap} (q : w.Perm w') (h : va_P D vwCl w H) : va_P D vwCl w' H := zf_P.mpr fun x hx => zf_P.mp h x (q.mem_iff.mpr hx)
theorem z_pmD {A : Nat → Prop} {w w' : va_W} (q : w.Perm w') (h : va_D A w) : va_D A w' := by
  obtain ⟨h1, h2⟩ := zf_D.mp h
  exact zf_D.mpr ⟨(q.pairwise_iff (fun z => Ne.symm z)).mp h1, fun x hx => h2 x (q.mem_iff.mpr hx)⟩
theorem z_p1 {w0 w1 w2 w3 : va_W} : (w0 ++ ((w1 ++ w2) ++ w3)).Perm ((w0 ++ w2) ++ ((w1 ++ w3) ++ [])) := by
  rw [List.append_nil, List.append_assoc w1 w2 w3, List.append_assoc w0 w2 (w1 ++ w3)]
  exact List.Perm.append_left w0 (List.perm_append_comm_assoc w1 w2 w3)
theorem z_nil {D : va_G} {w : va_W} {H : Heap} (h : va_P D vwCl ([] ++ w) H) : va_P D vwCl w H := h
theorem z_nilD {A : Nat → Prop} {w : va_W} (h : va_D A ([] ++ w)) : va_D A w := h
theorem c4_abC {nb : Nat} {f : Int32} {g : Int32} {h : Int32} : abC nb f g h < 4 := by unfold abC; (repeat' split) <;> decide
theorem c4_aoC {no : Nat} {f : Int32} {g : Int32} {h : Int32} {r : Int32} : aoC no f g h r < 4 := by unfold aoC; (repeat' split) <;> decide
theorem c4_stC {f : Int32} {g : Int32} {h : Int32} : stC f g h < 4 := by unfold stC; (repeat' split) <;> decide
theorem c4_scC {f : Int32} {g : Int32} : scC f g < 4 := by unfold scC; (repeat' split) <;> decide
theorem c4_twC {t : Nat} {nw : Nat} {f : Int32} {g : Int32} : twC t nw f g < 4 := by unfold twC; (repeat' split) <;> decide
theorem c4_hoC {h : Int32} : hoC h < 4 := by unfold hoC; (repeat' split) <;> decide
theorem c4_fhC {no : Nat} {b : Int32} {h : Int32} : fhC no b h < 4 := by unfold fhC; (repeat' split) <;> decide
theorem c4_nfC {tb : Int32} {tf : Int32} {ts : Int32} {clr : Int32} {wf : Nat → Int32} {wt : Nat → Int32} {nw : Nat} {od : Nat → Int32} {no : Nat} {t : Nat} {b : Int32} : nfC tb tf ts clr wf wt nw od no t b < 4 := by unfold nfC; (repeat' split) <;> decide
theorem c4_mvC {no : Nat} {nb : Nat} {b : Int32} {k : Int32} {r : Int32} : mvC no nb b k r < 4 := by unfold mvC; (repeat' split) <;> decide
theorem c4_mlC {no : Nat} {b : Int32} {r : Int32} : mlC no b r < 4 := by unfold mlC; (repeat' split) <;> decide
theorem c4_bbC {no : Nat} {nb : Nat} {b : Int32} {k : Int32} : bbC no nb b k < 4 := by unfold bbC; (repeat' split) <;> decide
theorem c4_boC {no : Nat} {b : Int32} : boC no b < 4 := by unfold boC; (repeat' split) <;> decide
theorem c4_cbC {no : Nat} {ob : Nat → Int32} {b : Int32} : cbC no ob b < 4 := by unfold cbC; (repeat' split) <;> decide
theorem c4_nwC {no : Nat} {ob : Nat → Int32} {ork : Nat → Int32} {ow : Nat → Int32} : nwC no ob ork ow < 4 := by unfold nwC; (repeat' split) <;> decide
theorem c4_beC {no : Nat} {nb : Nat} {ob : Nat → Int32} {b : Int32} : beC no nb ob b < 4 := by unfold beC; (repeat' split) <;> decide
theorem c4_bnC {nb : Nat} {bb : Nat → Int32} {k : Int32} : bnC nb bb k < 4 := by unfold bnC; (repeat' split) <;> decide
theorem c4_paC {no : Nat} {nb : Nat} {bad : Bool} {ob : Nat → Int32} {olf : Nat → Int32} {b : Int32} {h : Int32} : paC no nb bad ob olf b h < 4 := by unfold paC; (repeat' split) <;> decide
theorem c4_psC {t : Nat} {h : Int32} : psC t h < 4 := by unfold psC; (repeat' split) <;> decide
theorem c4_lsC {no : Nat} {nb : Nat} {ob : Nat → Int32} {b : Int32} {v : Int32} : lsC no nb ob b v < 4 := by unfold lsC; (repeat' split) <;> decide
theorem c4_usC {nb : Nat} : usC nb < 4 := by unfold usC; (repeat' split) <;> decide
theorem md_nn {v : Int32} {n : Nat} (h8 : n ≤ 8) (h : usC n = 0) : vf_n64 (mdF v n) := nn_ddiv (fun z => by
  have h0 : n = 0 := (nI_eq (a := n) (b := 0) (by omega) (by decide)).mp z
  rw [usC, if_pos h0] at h
  cases h)
theorem nI_n0 {n : Nat} (h : n ≠ 0) (h4 : n < 4) : ¬ nI n = 0 := fun z => h ((nI_eq (a := n) (b := 0) (by omega) (by decide)).mp z)
section LWT
variable {p : Program} {l : Launch} {e : Env} {s : State} {m : MethodId} {below : List Frame} {meth : Method} {c : Code} {D : va_G} {y : Nat → ClassId} {b L : Nat} {xs : Nat → Int32} {a a' : Nat → Nat} {o1 o2 kq cells slots : Nat} {G : State → Prop} {H : Heap} {locs : List Loc} {ls : Array Slot} {rest : List Value} {w0 w1 : va_W} {lv : List (Nat × Value)} {Qg : State → Prop}
/-- an int of the script -/
theorem z_arg {pc i : Nat} {n : Int} (C0 : LC p s m meth c b L xs D y) (hk : 5 * kq + i < L) (hL : L ≤ 2560) (hS : va_S (lwA s) s.heap H locs) (h0 : ls[0]? = some (.val (.ref b))) (h5 : ls[5]? = some (.val (.int (nI (5 * kq))))) (hn : Int32.ofInt n = nI i)
    (q0 : decode cL_law pc = .ok (.aload_n 0, 1)) (q1 : decode cL_law (pc + 1) = .ok (.iload 5, 2)) (q3 : decode cL_law (pc + 3) = .ok (.iconst n, 1)) (q4 : decode cL_law (pc + 4) = .ok (.iadd, 1)) (q5 : decode cL_law (pc + 5) = .ok (.iaload, 1))
    (kk : W p l e room_1 s m #[Value.ref b] below meth c H locs cells slots Qg (F0 m (pc + 6) ls (.int (xs (5 * kq + i)) :: rest))) : W p l e room_1 s m #[Value.ref b] below meth c H locs cells slots Qg (F0 m pc ls rest) := by
  obtain ⟨hx, hb, hr, hml, hown, hta, hX, hbl, hlocks, hN, hH, hK⟩ := C0
  refine lv_aload_n hx hb q0 rfl h0 ?_
  refine lv_iload hx hb q1 h5 ?_
  refine lv_iconst (v := nI i) hx hb q3 hn ?_
  refine lv_iadd hx hb q4 ?_
  refine zr_top (y := nI (5 * kq + i)) (nI_add (5 * kq) i) ?_
  refine va_sld hx hb hX hbl (Nat.not_le.mpr hbl) hS (vp_in_nI hk (by omega)) q5 ?_
  exact zr_top (congrArg xs (nI_clamp (by omega))) kk
theorem z_lld2 {pc : Nat} {v : Nat → Int64} {d0 : Nat → UInt64} (hx : p.tables.exec = Jvm.exec) (hb : c.code = cL_law) (hK : va_K D vwCl (zT y) s) (hP : va_P D vwCl (w0 ++ ((w1 ++ oL y o1 v) ++ oD y o2 d0)) H) (hdg : decode cL_law pc = .ok (.laload, 1))
    (kk : W p l e room_1 s m #[Value.ref b] below meth c H locs cells slots Qg (F0 m (pc + 1) ls (.long (v 0) :: rest))) : W p l e room_1 s m #[Value.ref b] below meth c H locs cells slots Qg (F0 m pc ls (.int 0 :: .ref o1 :: rest)) := by
  have hP2 : va_P D vwCl ((w0 ++ w1) ++ (oL y o1 v ++ oD y o2 d0)) H := by rw [List.append_assoc]; exact z_as hP
  exact z_lld hx hb hK hP2 hdg kk
theorem z_dld2 {pc : Nat} {v : Nat → Int64} {d0 : Nat → UInt64} (hx : p.tables.exec = Jvm.exec) (hb : c.code = cL_law) (hK : va_K D vwCl (zT y) s) (hP : va_P D vwCl (w0 ++ ((w1 ++ oL y o1 v) ++ oD y o2 d0)) H) (hdg : decode cL_law pc = .ok (.daload, 1))
    (kk : W p l e room_1 s m #[Value.ref b] below meth c H locs cells slots Qg (F0 m (pc + 1) ls (.double (d0 0) :: rest))) : W p l e room_1 s m #[Value.ref b] below meth c H locs cells slots Qg (F0 m pc ls (.int 0 :: .ref o2 :: rest)) := by
  have hP2 : va_P D vwCl ((w0 ++ (w1 ++ oL y o1 v)) ++ (oD y o2 d0 ++ [])) H := by rw [List.append_nil, List.append_assoc]; exact hP
  exact z_dld hx hb hK hP2 hdg kk
theorem lg_self (x : Int64) : lg_cmp x x = 0 := by simp [lg_cmp]
/-- behind the reference's call: what was thrown is compared, and the jump over the comparison of answers -/
theorem z_thr {P : Nat} {v1 : Nat → Int64} {d0 : Nat → UInt64} {mv kv : Int32} {off : Int} {tg : Nat} (C0 : LC p s m meth c b L xs D y) (hT : zP l D y yX6_thrown cX6_thrown 1 (some .int) 0 0 0 0 [Value.ref (a' 0)] w0 (fun o9 w9 => o9 = some (Value.int mv) ∧ w9 = w0)) {fs : List Value} (he : w0[0]? = some (a' 0, .inr (8, fs)))
    (hP : va_P D vwCl (w0 ++ ((w1 ++ oL y o1 v1) ++ oD y o2 d0)) H) (hD : va_D (lwA s) (w0 ++ ((w1 ++ oL y o1 v1) ++ oD y o2 d0))) (hS : va_S (lwA s) s.heap H locs) (hl : lv_has ls 9 lv) (h2 : ls[2]? = some (.val (.ref (a' 0)))) (h6 : ls[6]? = some (.val (.int kv))) (hmk : mv = kv)
    (q0 : decode cL_law P = .ok (.aload_n 2, 1)) (q1 : decode cL_law (P + 1) = .ok (.invokevirtual 129, 3)) (q4 : decode cL_law (P + 4) = .ok (.iload 6, 2)) (q6 : decode cL_law (P + 6) = .ok (.if_icmp .eq 5, 3)) (q11 : decode cL_law (P + 11) = .ok (.iload 6, 2)) (q13 : decode cL_law (P + 13) = .ok (.ifCond .ne off, 3)) (ht : ((P + 13 : Nat) : Int) + off = (tg : Int)) (hroom : cells ≤ 3144 ∧ slots ≤ 125590)
    (k1 : ¬ kv = 0 → ∀ (H : Heap) (locs : List Loc), va_P D vwCl (w0 ++ ((w1 ++ oL y o1 v1) ++ oD y o2 d0)) H → va_D (lwA s) (w0 ++ ((w1 ++ oL y o1 v1) ++ oD y o2 d0)) → va_S (lwA s) s.heap H locs → W p l e room_1 s m #[Value.ref b] below meth c H locs cells slots Qg (F0 m tg ls []))
    (k2 : kv = 0 → ∀ (H : Heap) (locs : List Loc), va_P D vwCl (w0 ++ ((w1 ++ oL y o1 v1) ++ oD y o2 d0)) H → va_D (lwA s) (w0 ++ ((w1 ++ oL y o1 v1) ++ oD y o2 d0)) → va_S (lwA s) s.heap H locs → W p l e room_1 s m #[Value.ref b] below meth c H locs cells slots Qg (F0 m (P + 16) ls [])) : W p l e room_1 s m #[Value.ref b] below meth c H locs cells slots Qg (F0 m P ls []) := by
  subst hmk
  obtain ⟨hx, hb, hr, hml, hown, hta, hX, hbl, hlocks, hN, hH, hK⟩ := C0
  have hA : ∀ q, s.heap.size ≤ q → lwA s q := fun _ h => h
  refine lv_aload_n hx hb q0 rfl h2 ?_
  refine z_callVF (wa := []) (w1 := w0) (wb := (w1 ++ oL y o1 v1) ++ oD y o2 d0) (As := []) (rest := []) hx hb hml hown hta zm_X6_thrown wd_7_17 hT hN hK hP hD hS hA 0 he rfl rfl hl rfl (Nat.le_of_ble_eq_true rfl) ⟨Nat.le_of_ble_eq_true rfl, Nat.le_of_ble_eq_true rfl⟩ ⟨hroom.1, hroom.2⟩ q1 (fun v w' H locs hq hP hD hS => ?_)
  obtain ⟨rfl, hw9⟩ := hq
  rw [hw9] at hP hD
  have hP := z_nil hP
  have hD := z_nilD hD
  refine lv_iload hx hb q4 h6 ?_
  refine lv_icmp_eq (tgt := P + 11) hx hb q6 (by omega) (fun _ => ?_) (fun z => absurd rfl z)
  refine lv_iload hx hb q11 h6 ?_
  refine lv_if_ne (tgt := tg) hx hb q13 ht (fun z => ?_) (fun z => ?_)
  · exact k1 z H locs hP hD hS
  · exact k2 z H locs hP hD hS
/-- the same, and the comparison of the answers as longs -/
theorem z_tail {P : Nat} {v1 : Nat → Int64} {d0 : Nat → UInt64} {mv kv bv : Int32} {off : Int} (C0 : LC p s m meth c b L xs D y) (hT : zP l D y yX6_thrown cX6_thrown 1 (some .int) 0 0 0 0 [Value.ref (a' 0)] w0 (fun o9 w9 => o9 = some (Value.int mv) ∧ w9 = w0)) {fs : List Value} (he : w0[0]? = some (a' 0, .inr (8, fs)))
    (hP : va_P D vwCl (w0 ++ ((w1 ++ oL y o1 v1) ++ oD y o2 d0)) H) (hD : va_D (lwA s) (w0 ++ ((w1 ++ oL y o1 v1) ++ oD y o2 d0))) (hS : va_S (lwA s) s.heap H locs) (hl : lv_has ls 9 lv) (h2 : ls[2]? = some (.val (.ref (a' 0)))) (h6 : ls[6]? = some (.val (.int kv))) (h3 : ls[3]? = some (.val (.ref o1))) (h7 : ls[7]? = some (.val (.int bv))) (hmk : mv = kv) (hv : kv = 0 → v1 0 = bv.toInt64) (hroom : cells ≤ 3144 ∧ slots ≤ 125590)
    (q0 : decode cL_law P = .ok (.aload_n 2, 1)) (q1 : decode cL_law (P + 1) = .ok (.invokevirtual 129, 3)) (q4 : decode cL_law (P + 4) = .ok (.iload 6, 2)) (q6 : decode cL_law (P + 6) = .ok (.if_icmp .eq 5, 3)) (q11 : decode cL_law (P + 11) = .ok (.iload 6, 2)) (q13 : decode cL_law (P + 13) = .ok (.ifCond .ne 15, 3))
    (q16 : decode cL_law (P + 16) = .ok (.aload_n 3, 1)) (q17 : decode cL_law (P + 17) = .ok (.iconst 0, 1)) (q18 : decode cL_law (P + 18) = .ok (.laload, 1)) (q19 : decode cL_law (P + 19) = .ok (.iload 7, 2)) (q21 : decode cL_law (P + 21) = .ok (.i2l, 1)) (q22 : decode cL_law (P + 22) = .ok (.lcmp, 1)) (q23 : decode cL_law (P + 23) = .ok (.ifCond .eq 5, 3))
    (q28 : decode cL_law (P + 28) = .ok (.goto off, 3)) (ht : ((P + 28 : Nat) : Int) + off = ((2118 : Nat) : Int)) (kk : ∀ (H : Heap) (locs : List Loc), va_P D vwCl (w0 ++ ((w1 ++ oL y o1 v1) ++ oD y o2 d0)) H → va_D (lwA s) (w0 ++ ((w1 ++ oL y o1 v1) ++ oD y o2 d0)) → va_S (lwA s) s.heap H locs → W p l e room_1 s m #[Value.ref b] below meth c H locs cells slots Qg (F0 m 2118 ls [])) : W p l e room_1 s m #[Value.ref b] below meth c H locs cells slots Qg (F0 m P ls []) := by
  have C1 := C0
  obtain ⟨hx, hb, hr, hml, hown, hta, hX, hbl, hlocks, hN, hH, hK⟩ := C1
  refine z_thr (tg := P + 28) C0 hT he hP hD hS hl h2 h6 hmk q0 q1 q4 q6 q11 q13 (by omega) hroom (fun _ H locs hP hD hS => ?_) (fun hz H locs hP hD hS => ?_)
  · exact lv_goto (tgt := 2118) hx hb q28 ht (kk H locs hP hD hS)
  · refine lv_aload_n hx hb q16 rfl h3 ?_
    refine lv_iconst (v := 0) hx hb q17 (by decide) ?_
    refine z_lld2 hx hb hK hP q18 ?_
    refine lv_iload hx hb q19 h7 ?_
    refine lv_i2l (v := bv.toInt64) hx hb q21 rfl ?_
    refine W.lcmp hx hb q22 ?_
    refine zr_top (y := 0) (by rw [hv hz]; exact lg_self _) ?_
    refine lv_if_eq (tgt := P + 28) hx hb q23 (by omega) (fun _ => ?_) (fun z => absurd rfl z)
    exact lv_goto (tgt := 2118) hx hb q28 ht (kk H locs hP hD hS)
end LWT
