/-! THE REFUTATION: a start of the claim with the script; so the claim is false -/
def cellsS : Array Value := (scrL.map Value.int).toArray
def aboutS : State := start1.aboutOf cellsS
theorem aboutS_vm : aboutS.setVm start1.about.vm = aboutS := rfl
theorem about_vm : start1.about.setVm start1.about.vm = start1.about := rfl
set_option maxRecDepth 100000 in
theorem othersS : (tables_1.filter (fun c => !c.onTables)).all (fun c => c.before start1.args0 aboutS) = true := by decide +kernel
theorem wordsS : ∀ c ∈ (Cond.code x code maxLocals ret :: tables_1), c.before start1.args0 aboutS = true := by
  intro c hc
  have h := start1.words c hc
  cases ho : c.onTables with
  | true =>
    have e := Cond.onTables_vm (A := start1.args0) (A' := start1.args0) (U := start1.about) (U' := aboutS) start1.about.vm c ho
    rw [aboutS_vm, about_vm] at e
    exact e.symm.trans h
  | false =>
    rcases List.mem_cons.mp hc with rfl | hc
    · cases ho
    · exact List.all_eq_true.mp othersS c (List.mem_filter.mpr ⟨hc, by rw [ho]; rfl⟩)
set_option maxRecDepth 100000 in
theorem intsS : aboutS.IntsAt 0 scrL := ⟨{ cls := 22, slots := cellsS, vm := .none }, rfl, (by show (scrL.map Value.int).toArray.toList = _; rfl), ⟨(fun k h => (by cases h)), _, rfl, 21, rfl⟩, (by decide +kernel)⟩
set_option maxRecDepth 100000 in
theorem appS1 : (headSpec (Cond.code x code maxLocals ret :: tables_1) room_1).applies x start1.e0.platform aboutS = true :=
  (Spec.applies_iff rfl).mpr ⟨rfl, rfl, rfl, by decide +kernel, by decide +kernel, by decide +kernel, launch0.hasRoom_least _ room_1 (by decide +kernel) (by decide +kernel) (by decide +kernel) (by decide +kernel) (by decide +kernel) (by decide +kernel), atoms_intro wordsS⟩
set_option maxRecDepth 100000 in
theorem appSb : (headSpec (Cond.code x code maxLocals ret :: tables_1) room_b).applies x start1.e0.platform aboutS = true :=
  (Spec.applies_iff rfl).mpr ⟨rfl, rfl, rfl, by decide +kernel, by decide +kernel, by decide +kernel, launch0.hasRoom_least _ room_b (by decide +kernel) (by decide +kernel) (by decide +kernel) (by decide +kernel) (by decide +kernel) (by decide +kernel), atoms_intro wordsS⟩
set_option maxRecDepth 100000 in
theorem restS : rest_1_c.before start1.args0 aboutS = true := by decide +kernel
set_option maxRecDepth 100000 in
theorem preS : (Cond.and given_1 narrow_1).before start1.args0 aboutS = true := by decide +kernel
set_option maxRecDepth 100000 in
theorem fitS : argsFit aboutS.vm ⟨0, 0⟩ start1.args0 = true := by decide +kernel
set_option maxRecDepth 100000 in
theorem heapS : heapFits aboutS = true := by decide +kernel
/-- THE CLAIM IS FALSE AS PRINTED -/
theorem p36_false : ¬ (Claimed_1_1 ∧ Claimed_1_2) := fun h =>
  lw_contra h.1 launch0 rfl lists_1 start1.p0 start1.e0 (launch0.admits_env _ _ _) fairChoices_fair.cas fairChoices_fair.clock aboutS ⟨0, 0⟩ 0 Lib.HandBits.below0 rfl fitS heapS appS1 appSb ⟨trivial, restS, preS⟩ intsS
