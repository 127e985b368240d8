/-! from any start with the script: the law returns with 598 new cells at least, so Claimed_1_1 can't hold -/
def scrL : List Int32 := (List.range 83).map scr
def lw_Pb (b : Addr) (args : Array Value) (s : State) : Prop := args = #[.ref b] ∧ s.IntsAt b scrL ∧ (Jvm.Cond.and given_1 narrow_1).before args s = true
theorem scrL_at {j : Nat} (hj : j < 83) : (scrL.map Value.int)[j]? = some (.int (scr j)) := by
  simp [scrL, hj]
set_option maxHeartbeats 4000000 in
theorem lw_walkb (l : Launch) (hflags : l.flags = flags0) (b : Addr) : MetFree l x (headSpec (Jvm.Cond.code x code maxLocals ret :: tables_1) room_b) (lw_Pb b) (fun _ _ _ _ _ => True) lw_Qb := by
  refine MetFree.of_bodyS (code := code) (maxLocals := maxLocals) (ret := ret) (by decide) ?_ ?_
  · intro args s m h hn
    obtain ⟨meth, c, h1, h2, h3, h4, h5, h6, -, -⟩ := Cond.code_spec hn (atoms_spec (ws := Jvm.Cond.code x code maxLocals ret :: tables_1) h _ List.mem_cons_self)
    exact ⟨meth, c, h1, h2, h3, h4, h5, h6⟩
  · intro p e s m args below meth c s₁ B hml0 hP _
    obtain ⟨rfl, hx, hgv⟩ := hP
    obtain ⟨cel, harrAt, hlist, hof, hsmall⟩ := hx
    obtain ⟨hcb, hkn, -, -⟩ := State.arrayAt?_spec harrAt
    have hown : s.vm.findClass RL = some m.cls := findClass_of_methodNamed B.named
    have hts0 : ∀ c ∈ (Jvm.Cond.code x code maxLocals ret :: tables_1), c.before #[Value.ref b] s = true := atoms_spec (ws := Jvm.Cond.code x code maxLocals ret :: tables_1) B.pre
    have hts : ∀ w ∈ lw_tbl, w.before #[Value.ref b] s = true := k2_hts_sels lw_privs (fun w hw => hts0 w (List.mem_cons_of_mem _ hw)) lw_privs_ok
    have hml : c.maxLocals = 12 := B.maxLocals_eq (hts0 _ List.mem_cons_self)
    have X₀ : Stand p l e room_b s m #[Value.ref b] below meth c s₁ [] 0 0 := Stand.of_body B
    have hh0 : s₁.heap = s.heap := by rw [B.state]; rfl
    have hsz : cel.slots.size = 83 := by rw [← Array.length_toList, hlist, List.length_map, scrL, List.length_map, List.length_range]
    have hval : ∀ j : Nat, j < 83 → cel.slots[j]? = some (.int (scr j)) := fun j hj => by
      rw [← Array.getElem?_toList, hlist]
      exact scrL_at hj
    have hbl : b < s.heap.size := (Array.getElem?_eq_some_iff.mp hcb).1
    have hX : va_X b 83 scr s s.heap := ⟨cel, hcb, hof, hkn, hsz, hval⟩
    have hta : ∀ w ∈ WA, w.before #[Value.ref b] s = true := fun w hw => hts w (wa_in w hw)
    obtain ⟨D, y, hK⟩ := en_K hts
    have K : W p l e room_b s m #[Value.ref b] below meth c s₁.heap [] 0 0 (lw_Zb below #[Value.ref b] s) (entryFrame m ([Value.ref b] : List Value).toArray 12) := by
      rw [hh0]
      exact whole_b l hflags (D := D) (y := y) ⟨B.exec, B.bytes, B.returns, hml, hown, hta, hX, hbl, B.notSynchronized, en_N hts hgv, en_H hgv, hK⟩
    obtain ⟨t, a1, o, b1, b2, b3⟩ := K s₁ rfl X₀
    exact ⟨t, o, a1, b1, b2, b3⟩
/-- the two ends are one: at most 361 new cells by the claim, 598 at least by the walk -/
theorem lw_contra (h1 : Claimed_1_1) (l : Launch) (hfl : l.flags = flags0) (hL : Jvm.D.Lists l classFile x code maxLocals ret tables_1 room_1) (p : Program) (e : Env) (had : l.admits e) (hcas : FairCas e.choices) (hclk : FairClock e.choices) (s : State) (m : MethodId) (b : Nat) (below : List Frame)
    (hfr : s.frames = Frame.invoking m #[.ref b] :: below) (hfit : argsFit s.vm m #[.ref b] = true) (hheap : heapFits s = true) (happ : (headSpec (Jvm.Cond.code x code maxLocals ret :: tables_1) room_1).applies x e.platform s = true) (happb : (headSpec (Jvm.Cond.code x code maxLocals ret :: tables_1) room_b).applies x e.platform s = true)
    (hpre : Calls_1 p.tables e #[.ref b] s ∧ rest_1 p.tables e #[.ref b] s ∧ Pre_1 p.tables e #[.ref b] s) (hI : s.IntsAt b scrL) : False := by
  obtain ⟨k, q, hin', -, hend', hpost⟩ := h1 l hfl hL trivial p e had hcas hclk s m _ below hfr hfit hheap happ hpre
  obtain ⟨n, o, hin, -, hend, hQ⟩ := lw_walkb l hfl b p e had hcas hclk s m _ below hfr ((Spec.applies_iff_loose hfr).mp happb).1 ⟨rfl, hI, hpre.2.2⟩ trivial
  have hnk : n = k := by
    rcases Nat.lt_trichotomy n k with h | h | h
    · exact absurd (hin' n h) hend.not_within
    · exact h
    · exact absurd (hin k h) hend'.not_within
  subst hnk
  obtain ⟨-, -, -, -, -, h361, -⟩ := hpost
  have h598 : s.heap.size + 598 ≤ (stepsAlone p.tables e n s).heap.size := hQ
  have h361 : (stepsAlone p.tables e n s).heap.size ≤ s.heap.size + 361 := h361
  omega
