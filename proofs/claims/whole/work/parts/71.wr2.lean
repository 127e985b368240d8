/-! the wrappers' rows: what they store, what they catch -/
def oL (y : Nat → ClassId) (o : Nat) (v : Nat → Int64) : va_W := [(o, .inl (y 2, 1, .inr (.inl v)))]
def oD (y : Nat → ClassId) (o : Nat) (v : Nat → UInt64) : va_W := [(o, .inl (y 3, 1, .inr (.inr (.inr (.inl v)))))]
/-- a wrapper's answer: 0 and the value stored, or the exception's place -/
def zOk (k : Nat) (x : Int64) (y : Nat → ClassId) (o : Nat) (v0 : Nat → Int64) (wN wO : va_W) : Option Value → va_W → Prop := fun o9 w9 => (k = 0 ∧ ∃ v1 : Nat → Int64, v1 0 = x ∧ o9 = some (.int 0) ∧ w9 = wN ++ oL y o v1) ∨ (k ≠ 0 ∧ o9 = some (.int (nI k)) ∧ w9 = wO ++ oL y o v0)
def zOd (k : Nat) (x : UInt64) (y : Nat → ClassId) (o : Nat) (v0 : Nat → UInt64) (wN wO : va_W) : Option Value → va_W → Prop := fun o9 w9 => (k = 0 ∧ ∃ v1 : Nat → UInt64, v1 0 = x ∧ o9 = some (.int 0) ∧ w9 = wN ++ oD y o v1) ∨ (k ≠ 0 ∧ o9 = some (.int (nI k)) ∧ w9 = wO ++ oD y o v0)
theorem zOk_0 {k : Nat} {x : Int64} {y : Nat → ClassId} {o : Nat} {v0 : Nat → Int64} {wN wO : va_W} (h : k = 0) : zOk k x y o v0 wN wO (some (.int 0)) (wN ++ oL y o (vp_updL v0 0 x)) := Or.inl ⟨h, _, if_pos rfl, rfl, rfl⟩
theorem zOd_0 {k : Nat} {x : UInt64} {y : Nat → ClassId} {o : Nat} {v0 : Nat → UInt64} {wN wO : va_W} (h : k = 0) : zOd k x y o v0 wN wO (some (.int 0)) (wN ++ oD y o (vf_upd v0 0 x)) := Or.inl ⟨h, _, if_pos rfl, rfl, rfl⟩
theorem zOk_x {k : Nat} {j : Nat} {i : Int32} {x : Int64} {y : Nat → ClassId} {o : Nat} {v0 : Nat → Int64} {wN wO : va_W} (h : k = j) (h0 : j ≠ 0) (hi : i = nI j) : zOk k x y o v0 wN wO (some (.int i)) (wO ++ oL y o v0) := Or.inr ⟨by omega, by rw [h, hi], rfl⟩
theorem zOd_x {k : Nat} {j : Nat} {i : Int32} {x : UInt64} {y : Nat → ClassId} {o : Nat} {v0 : Nat → UInt64} {wN wO : va_W} (h : k = j) (h0 : j ≠ 0) (hi : i = nI j) : zOd k x y o v0 wN wO (some (.int i)) (wO ++ oD y o v0) := Or.inr ⟨by omega, by rw [h, hi], rfl⟩
section ZOL
variable {p : Program} {l : Launch} {e : Env} {R : Room} {s : State} {m : MethodId} {args : Array Value} {below : List Frame} {meth : Method} {c : Code} {H H0 : Heap} {locs : List Loc} {cells slots : Nat} {Qg : State → Prop}
  {D : va_G} {y : Nat → ClassId} {A : Nat → Prop} {cc : ByteArray} {pc : Nat} {ls : Array Slot} {rest : List Value} {w1 w2 : va_W} {o : Nat}
theorem z_lst {v : Nat → Int64} {x : Int64} (hx : p.tables.exec = Jvm.exec) (hb : c.code = cc) (hK : va_K D vwCl (zT y) s) (hP : va_P D vwCl (w1 ++ oL y o v) H) (hD : va_D A (w1 ++ oL y o v)) (hS : va_S A H0 H locs) (hdg : decode cc pc = .ok (.lastore, 1))
    (kk : ∀ (H1 : Heap) (locs1 : List Loc), va_P D vwCl (w1 ++ oL y o (vp_updL v 0 x)) H1 → va_D A (w1 ++ oL y o (vp_updL v 0 x)) → va_S A H0 H1 locs1 → W p l e R s m args below meth c H1 locs1 cells slots Qg (F0 m (pc + 1) ls rest)) : W p l e R s m args below meth c H locs cells slots Qg (F0 m pc ls (.long x :: .int 0 :: .ref o :: rest)) := by
  have hs : (w1 ++ oL y o v).set w1.length (o, .inl (y 2, 1, .inr (.inl (vp_updL v (0 : Int32).toNatClampNeg x)))) = w1 ++ oL y o (vp_updL v 0 x) := by
    rw [List.set_append_right _ _ (Nat.le_refl _), Nat.sub_self]
    rfl
  refine va_last (n := 1) (cA := y 2) (f := v) hx hb hK hP hD hS w1.length 2 (by rw [List.getElem?_append_right (Nat.le_refl _), Nat.sub_self]; rfl) rfl (i := 0) (x := x) (show vp_in (nI 0) 1 from vp_in_nI (by decide) (by decide)) hdg (fun H1 locs1 h1 h2 h3 => ?_)
  rw [hs] at h1 h2
  exact kk H1 locs1 h1 h2 h3
theorem z_dst {v : Nat → UInt64} {x : UInt64} (hx : p.tables.exec = Jvm.exec) (hb : c.code = cc) (hK : va_K D vwCl (zT y) s) (hP : va_P D vwCl (w1 ++ oD y o v) H) (hD : va_D A (w1 ++ oD y o v)) (hS : va_S A H0 H locs) (hdg : decode cc pc = .ok (.dastore, 1))
    (kk : ∀ (H1 : Heap) (locs1 : List Loc), va_P D vwCl (w1 ++ oD y o (vf_upd v 0 x)) H1 → va_D A (w1 ++ oD y o (vf_upd v 0 x)) → va_S A H0 H1 locs1 → W p l e R s m args below meth c H1 locs1 cells slots Qg (F0 m (pc + 1) ls rest)) : W p l e R s m args below meth c H locs cells slots Qg (F0 m pc ls (.double x :: .int 0 :: .ref o :: rest)) := by
  have hs : (w1 ++ oD y o v).set w1.length (o, .inl (y 3, 1, .inr (.inr (.inr (.inl (vf_upd v (0 : Int32).toNatClampNeg x)))))) = w1 ++ oD y o (vf_upd v 0 x) := by
    rw [List.set_append_right _ _ (Nat.le_refl _), Nat.sub_self]
    rfl
  refine va_dast (n := 1) (cA := y 3) (f := v) hx hb hK hP hD hS w1.length 3 (by rw [List.getElem?_append_right (Nat.le_refl _), Nat.sub_self]; rfl) rfl (i := 0) (x := x) (show vp_in (nI 0) 1 from vp_in_nI (by decide) (by decide)) hdg (fun H1 locs1 h1 h2 h3 => ?_)
  rw [hs] at h1 h2
  exact kk H1 locs1 h1 h2 h3
theorem z_lld {v : Nat → Int64} (hx : p.tables.exec = Jvm.exec) (hb : c.code = cc) (hK : va_K D vwCl (zT y) s) (hP : va_P D vwCl (w1 ++ (oL y o v ++ w2)) H) (hdg : decode cc pc = .ok (.laload, 1))
    (kk : W p l e R s m args below meth c H locs cells slots Qg (F0 m (pc + 1) ls (.long (v 0) :: rest))) : W p l e R s m args below meth c H locs cells slots Qg (F0 m pc ls (.int 0 :: .ref o :: rest)) :=
  va_lald (n := 1) (cA := y 2) (f := v) hx hb hK hP w1.length 2 (by rw [List.getElem?_append_right (Nat.le_refl _), Nat.sub_self]; rfl) rfl (i := 0) (show vp_in (nI 0) 1 from vp_in_nI (by decide) (by decide)) hdg kk
theorem z_dld {v : Nat → UInt64} (hx : p.tables.exec = Jvm.exec) (hb : c.code = cc) (hK : va_K D vwCl (zT y) s) (hP : va_P D vwCl (w1 ++ (oD y o v ++ w2)) H) (hdg : decode cc pc = .ok (.daload, 1))
    (kk : W p l e R s m args below meth c H locs cells slots Qg (F0 m (pc + 1) ls (.double (v 0) :: rest))) : W p l e R s m args below meth c H locs cells slots Qg (F0 m pc ls (.int 0 :: .ref o :: rest)) :=
  va_dald (n := 1) (cA := y 3) (f := v) hx hb hK hP w1.length 3 (by rw [List.getElem?_append_right (Nat.le_refl _), Nat.sub_self]; rfl) rfl (i := 0) (show vp_in (nI 0) 1 from vp_in_nI (by decide) (by decide)) hdg kk
end ZOL
theorem zc_own : ∀ E ∈ zEl, Cond.castable E E ∈ zNG := by decide +kernel
section ZCT
variable {p : Program} {l : Launch} {e : Env} {R : Room} {s : State} {m : MethodId} {args : Array Value} {below : List Frame} {meth : Method} {c : Code} {H : Heap} {locs : List Loc} {cells slots : Nat} {Qg : State → Prop} {A : Nat → Prop} {pc : Nat} {ls : Array Slot} {rest : List Value}
theorem z_catch {E : String} {a1 b1 h1 k1 : Nat} {hh : List (Nat × Nat × Nat × Nat)} (hh1 hh2 : List (Nat × Nat × Nat × Nat)) {ce : Cell} {q : Addr} (hown : s.vm.findClass RL = some m.cls) (hta : ∀ w ∈ WA, w.before args s = true) (hH : zH s) (hN : zN A s s.heap)
    (hex : c.exceptionTable.toList = tableOf hh) (hsp : hh = hh1 ++ (a1, b1, h1, k1) :: hh2) (hpre : ∀ z ∈ hh1, z.2.2.2 ≠ 0 ∧ ∃ F ∈ zEl, E ≠ F ∧ Cond.classLink RL z.2.2.2 F ∈ WA) (hE : E ∈ zEl) (hcov : a1 ≤ pc ∧ pc < b1) (hk : k1 ≠ 0) (hl : Cond.classLink RL k1 E ∈ WA)
    (hc9 : H[q]? = some ce) (hv9 : ce.vm = .none) (hcl9 : s.vm.findClass E = some ce.cls) (kk : W p l e R s m args below meth c H locs cells slots Qg (F0 m h1 ls [.ref q])) : vx_W p l e R s m args below meth c H locs cells slots Qg (F0 m pc ls rest) q := by
  refine vx_catch (own := RL) (name := E) (E := E) hown (tableOf hh1) ⟨a1, b1, h1, k1⟩ (tableOf hh2) (by rw [hex, hsp]; simp [tableOf]) (fun z hz => ?_) (by simp [covers, hcov]) hk (hta _ hl) (va_Nw.use rfl (hN.2.1 _ (zc_own E hE))) hc9 hv9 hcl9 kk
  obtain ⟨u, hu, rfl⟩ := List.mem_map.mp hz
  obtain ⟨g1, F, g2, g3, g4⟩ := hpre u hu
  exact Or.inr ⟨g1, F, hta _ g4, hH E hE F g2 g3⟩
end ZCT
/-! no NaN goes through the law -/
theorem us_nn {c nb : Nat} (h6 : nb ≤ 6) (h : usC nb = 0) : vf_n64 (FP.f2d (usF c nb)) := by
  have hz : nI nb ≠ 0 := fun z => by
    have h0 : nb = 0 := (nI_eq (a := nb) (b := 0) (by omega) (by decide)).mp z
    rw [usC, if_pos h0] at h
    cases h
  refine nn64 ((FP.Core.notNaN_iff _).mp ((FP.f2d_nan _).trans ?_))
  exact FP.Core.fdiv_out ((FP.Core.notNaN_iff32 _).mpr (FP.Core.i2f_fin (nI c)).ne_nan) (FP.Core.i2f_fin (nI nb)) (fun z => FP.Core.i2f_ne_zero hz ((FP.Core.zero_bits232 _).mp z))
theorem n64_nan {r : UInt64} (h : vf_n64 r) : FP.Core.val64 r ≠ .nan := by
  refine (FP.Core.ne_nan r).mpr ?_
  unfold vf_n64 at h
  rw [UInt64.le_iff_toNat_le, UInt64.toNat_and, show (0x7fffffffffffffff : UInt64).toNat = 2 ^ 63 - 1 from rfl, Nat.and_two_pow_sub_one_eq_mod] at h
  exact h
theorem dc_self {r : UInt64} (h : vf_n64 r) : FP.dcmp r r = some .eq := FP.Core.dcmp_self (n64_nan h)
