/-! what holds at the entry -/
abbrev lwA (s : State) : Nat → Prop := fun q => s.heap.size ≤ q
theorem wfJ0_0 : u_lay RJ0 TJ0 0 ∈ lw_tbl := tb2 _ (List.mem_of_getElem? (i := 117) rfl)
theorem wfJ0_1 : u_lay RJ0 TJ0 1 ∈ lw_tbl := tb2 _ (List.mem_of_getElem? (i := 119) rfl)
theorem inJ0 : ∀ w ∈ wsJ00, w ∈ lw_tbl := (List.forall_mem_cons.mpr ⟨wfJ0_0, List.forall_mem_cons.mpr ⟨wfJ0_1, fun _ h => absurd h List.not_mem_nil⟩⟩ : ∀ w ∈ [u_lay RJ0 TJ0 0, u_lay RJ0 TJ0 1], w ∈ lw_tbl)
theorem wfJx00060_0 : u_lay RJx00060 TJx00060 0 ∈ lw_tbl := tb2 _ (List.mem_of_getElem? (i := 105) rfl)
theorem wfJx00060_1 : u_lay RJx00060 TJx00060 1 ∈ lw_tbl := tb2 _ (List.mem_of_getElem? (i := 106) rfl)
theorem wfJx00060_2 : u_lay RJx00060 TJx00060 2 ∈ lw_tbl := tb2 _ (List.mem_of_getElem? (i := 107) rfl)
theorem wfJx00060_3 : u_lay RJx00060 TJx00060 3 ∈ lw_tbl := tb2 _ (List.mem_of_getElem? (i := 108) rfl)
theorem wfJx00060_4 : u_lay RJx00060 TJx00060 4 ∈ lw_tbl := tb2 _ (List.mem_of_getElem? (i := 109) rfl)
theorem wfJx00060_5 : u_lay RJx00060 TJx00060 5 ∈ lw_tbl := tb2 _ (List.mem_of_getElem? (i := 110) rfl)
theorem inJx00060 : ∀ w ∈ wsJx000600, w ∈ lw_tbl := (List.forall_mem_cons.mpr ⟨wfJx00060_0, List.forall_mem_cons.mpr ⟨wfJx00060_1, List.forall_mem_cons.mpr ⟨wfJx00060_2, List.forall_mem_cons.mpr ⟨wfJx00060_3, List.forall_mem_cons.mpr ⟨wfJx00060_4, List.forall_mem_cons.mpr ⟨wfJx00060_5, fun _ h => absurd h List.not_mem_nil⟩⟩⟩⟩⟩⟩ : ∀ w ∈ [u_lay RJx00060 TJx00060 0, u_lay RJx00060 TJx00060 1, u_lay RJx00060 TJx00060 2, u_lay RJx00060 TJx00060 3, u_lay RJx00060 TJx00060 4, u_lay RJx00060 TJx00060 5], w ∈ lw_tbl)
theorem en_cls {args : Array Value} {s : State} (hts : ∀ w ∈ lw_tbl, w.before args s = true) : ∀ q ∈ vwCl, ∃ (cC : ClassId) (iS : Nat → Nat), u_Kn s q.1 q.2.1 q.2.2 cC iS :=
  List.forall_mem_cons.mpr ⟨u_known (C := RJ0) (T := TJ0) (N := 2) (n := 4) hts inJ0 (hts _ (tb2 _ (List.mem_of_getElem? (i := 116) rfl))), List.forall_mem_cons.mpr ⟨u_known (C := RJx00060) (T := TJx00060) (N := 6) (n := 6) hts inJx00060 (hts _ (tb2 _ (List.mem_of_getElem? (i := 98) rfl))), List.forall_mem_cons.mpr ⟨u_known (C := RX0) (T := TX0) (N := 5) (n := 5) hts inX0 (hts _ (wt_1_18)), List.forall_mem_cons.mpr ⟨u_known (C := RX1) (T := TX1) (N := 8) (n := 8) hts inX1 (hts _ (wt_1_22)), List.forall_mem_cons.mpr ⟨u_known (C := RX2) (T := TX2) (N := 6) (n := 6) hts inX2 (hts _ (wt_2_2)), List.forall_mem_cons.mpr ⟨u_known (C := RX3) (T := TX3) (N := 3) (n := 3) hts inX3 (hts _ (wt_1_10)), List.forall_mem_cons.mpr ⟨u_known (C := RX4) (T := TX4) (N := 3) (n := 3) hts inX4 (hts _ (wt_1_14)), List.forall_mem_cons.mpr ⟨u_known (C := RX5) (T := TX5) (N := 11) (n := 11) hts inX5 (hts _ (wt_1_1)), fun _ h => absurd h List.not_mem_nil⟩⟩⟩⟩⟩⟩⟩⟩
theorem en_D {args : Array Value} {s : State} (hts : ∀ w ∈ lw_tbl, w.before args s = true) : ∃ D : va_G, ∀ (c : Nat) (q : vw_C), vwCl[c]? = some q → u_Kn s q.1 q.2.1 q.2.2 (D.1 c) (D.2 c) := by
  have h0 : ∀ c : Nat, ∃ z : ClassId × (Nat → Nat), ∀ q : vw_C, vwCl[c]? = some q → u_Kn s q.1 q.2.1 q.2.2 z.1 z.2 := by
    intro c
    cases e : vwCl[c]? with
    | none => exact ⟨(0, fun _ => 0), fun q h => by cases h⟩
    | some q0 =>
      obtain ⟨cC, iS, h⟩ := en_cls hts q0 (List.mem_of_getElem? e)
      exact ⟨(cC, iS), fun q hq => by cases hq; exact h⟩
  obtain ⟨f, hf⟩ := Classical.axiomOfChoice h0
  exact ⟨(fun c => (f c).1, fun c => (f c).2), fun c q h => hf c q h⟩
theorem en_arr {args : Array Value} {s : State} {ty : FieldType} (h : (Cond.arrayClass ty).before args s = true) (hp : ∀ C, ty ≠ .object C) : ∃ cA : ClassId, ArrOfT s cA ty ∧ va_RA s cA ty := by
  obtain ⟨c, k, comp, h1, h2, h3⟩ := Cond.arrayClass_spec h
  refine ⟨c, fun n z => ⟨fun k h => (by cases h), k, h2, comp, h3⟩, ?_⟩
  cases ty with
  | object C => exact absurd rfl (hp C)
  | _ => exact h1
theorem en_K {args : Array Value} {s : State} (hts : ∀ w ∈ lw_tbl, w.before args s = true) : ∃ (D : va_G) (y : Nat → ClassId), va_K D vwCl (zT y) s := by
  obtain ⟨D, hD⟩ := en_D hts
  obtain ⟨y0, a0, b0⟩ := en_arr (hts _ wt_2_20) (fun C z => by cases z)
  refine ⟨D, fun _ => y0, hD, fun k q hq => ?_⟩
  match k, hq with
  | 0, hq => cases hq; exact ⟨a0, b0⟩
  | k + 1, hq => simp at hq
theorem zng_in : ∀ w ∈ zNG, w ∈ lw_tbl := by decide +kernel
theorem zst_in : ∀ q ∈ zStr, Cond.stringRef RX5 q.1 q.2 ∈ lw_tbl := by decide +kernel
theorem zst_ex : ∀ q ∈ zStr, Cond.exactly (.string RX5 q.1) "java/lang/String" ∈ flatC (Jvm.Cond.and given_1 narrow_1) := by decide +kernel
theorem zel_nc : ∀ E ∈ zEl, ∀ F ∈ zEl, E ≠ F → Cond.not (.castable E F) ∈ flatC (Jvm.Cond.and given_1 narrow_1) := by decide +kernel
theorem zis_1 : Cond.isRef (.static Bundle.tN "UNASSIGNED_STACK" Bundle.steD) ∈ flatC (Jvm.Cond.and given_1 narrow_1) := by decide +kernel
theorem zis_2 : Cond.isRef (.static Bundle.tN "SUPPRESSED_SENTINEL" Bundle.listD) ∈ flatC (Jvm.Cond.and given_1 narrow_1) := by decide +kernel
theorem en_str {args : Array Value} {s : State} {own tx : String} {k : Nat} (h1 : (Cond.stringRef own k tx).before args s = true) (h2 : (Cond.exactly (.string own k) "java/lang/String").before args s = true) : ∃ sa : Nat, vk_R own k tx sa s := by
  obtain ⟨a, c, cA, kA, q1, q2, q3, q4, q5, q6, -⟩ := Cond.exactly_spec (args := args) (first := s) (o := none) (s := s) (idx := []) (t := .string own k) (cls := "java/lang/String") h2
  exact ⟨a, vk_R.of h1 q1⟩
theorem en_N {args : Array Value} {s : State} (hts : ∀ w ∈ lw_tbl, w.before args s = true) (hgv : (Jvm.Cond.and given_1 narrow_1).before args s = true) : zN (lwA s) s s.heap := by
  have hs := flat_of_before _ hgv
  have hA : ∀ a : Nat, a < s.heap.size → ¬ lwA s a := fun a h z => absurd z (Nat.not_le.mpr h)
  refine ⟨⟨vx_Zqof (hts _ (tb2 _ (List.mem_of_getElem? (i := 15) rfl))) (hts _ (tb1 _ (List.mem_of_getElem? (i := 7) rfl))) (hs _ zis_1) hA, vx_Zqof (hts _ (tb2 _ (List.mem_of_getElem? (i := 17) rfl))) (hts _ (tb1 _ (List.mem_of_getElem? (i := 7) rfl))) (hs _ zis_2) hA⟩, fun w hw => ?_, fun q hq => en_str (hts _ (zst_in q hq)) (hs _ (zst_ex q hq))⟩
  have g := List.all_eq_true.mp zNG_ok w hw
  have h := hts w (zng_in w hw)
  cases w <;> first
    | (exact va_Nw.of rfl h)
    | (exact absurd g (by simp [zNgb]))
theorem en_H {args : Array Value} {s : State} (hgv : (Jvm.Cond.and given_1 narrow_1).before args s = true) : zH s := fun E hE F hF hn => va_Nc.of (flat_of_before _ hgv _ (zel_nc E hE F hF hn))
