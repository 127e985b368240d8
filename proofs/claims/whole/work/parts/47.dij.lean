section DJT
variable {nb no : Nat} {W : Nat → Nat} {E : (Nat → Int32) → Nat → Nat → Prop} {g0 : Nat → Int32} {pb : Int32} {Cl : (Nat → Int32) → Prop}
theorem tk_get {pcd pw pli pli1 : Nat → Int32} {nl i q : Nat} (h : SI nb no W E g0 pb pcd pw pli nl) (ht : tkR pw pli nl i q pli1) : ∃ u n g, pw q = nI u ∧ u < 1000000 ∧ RN no W E g0 n g u ∧ CA pb no (pcd q) g ∧ nmA nb no g = q := by
  obtain ⟨hi, hq, hq7, _, _⟩ := ht
  obtain ⟨x, hx, ex, hne⟩ := h.2.1 i hi
  have : x = q := nI_inj (ex.symm.trans hq) (by omega) (by omega)
  subst this
  rcases h.1 x hx with z | z
  · exact absurd z hne
  · exact z
theorem st_si {ob pcd pw pli : Nat → Int32} (hb : nb < 7) (hva : Va nb no (gB ob nb)) (h : stR nb no ob pcd pw pli) : SI nb no W E (gB ob nb) (beS ob nb no) pcd pw pli 1 ∧ cR pw = 1 ∧ pw (nmA nb no (gB ob nb)) = nI 0 ∧ pli 0 = nI (nmA nb no (gB ob nb)) ∧ (∀ p, p < 720 → pw p ≠ 1000000 → p = nmA nb no (gB ob nb)) := by
  obtain ⟨h1, h2, h3⟩ := h
  have hq := nmA_720 hva hb
  have e0 : pw (nmA nb no (gB ob nb)) = nI 0 := by rw [h2 _ hq, if_pos rfl]; rfl
  refine ⟨⟨fun p hp => ?_, fun i hi => ?_, fun i k hi hk _ => by omega⟩, ?_, e0, h3, fun p hp hn => Decidable.byContradiction fun z => hn (by rw [h2 p hp, if_neg z])⟩
  · by_cases e : p = nmA nb no (gB ob nb)
    · subst e
      exact Or.inr ⟨0, 0, gB ob nb, e0, by omega, ⟨fun _ _ => rfl, rfl⟩, h1, rfl⟩
    · exact Or.inl (by rw [h2 p hp, if_neg e])
  · obtain rfl : i = 0 := by omega
    exact ⟨_, hq, h3, by rw [e0]; exact nr_ne (by omega)⟩
  · have e1 : cR pw = cR (upd (fun _ => 1000000) (nmA nb no (gB ob nb)) 0) := by
      unfold cR
      refine fb_ct_cong fun k hk => ?_
      unfold rchd
      rw [h2 k hk]
      by_cases e : k = nmA nb no (gB ob nb)
      · rw [if_pos e, e, upd_eq]
      · rw [if_neg e, upd_ne _ _ e]
    rw [e1, cR_new hq rfl (by decide)]
    have : cR (fun _ => 1000000) = 0 := fb_ct_zero.mpr fun k _ => decide_eq_false (fun z => z rfl)
    omega
theorem dj_start {ob pcd pw pli : Nat → Int32} (hb : nb < 7) (hva : Va nb no (gB ob nb)) (h : stR nb no ob pcd pw pli) : DJ nb no W E (gB ob nb) (beS ob nb no) Cl 0 pcd pw pli 1 := by
  obtain ⟨a1, a2, a3, a4, a5⟩ := st_si (W := W) (E := E) hb hva h
  refine ⟨a1, by omega, a3, fun p u hp hu e => ?_, fun p u hp hu e ho => ?_, fun p u i x v hp hu e ho => ?_⟩
  · have := a5 p hp (by rw [e]; exact nr_ne hu)
    subst this
    have := nI_inj (e.symm.trans a3) (by omega) (by omega)
    omega
  · have := a5 p hp (by rw [e]; exact nr_ne hu)
    subst this
    exact absurd a4 (ho 0 (by omega))
  · have := a5 p hp (by rw [e]; exact nr_ne hu)
    subst this
    exact absurd a4 (ho 0 (by omega))
end DJT
/-- a boat's way out, told of arrangements -/
def ClC (nb no : Nat) (pb : Int32) (bi : Nat → Int32) (j : Nat) (Cl : (Nat → Int32) → Prop) : Prop :=
  (∀ g e, (∀ i, i < no → g i = e i) → Cl g → Cl e) ∧ ∀ (pcd : Nat → Int32) p g, CA pb no (pcd p) g → Va nb no g → (clrC pcd pb bi nb p j = true ↔ Cl g)
theorem wok_le {no : Nat} {ow : Nat → Int32} {W : Nat → Nat} (h : Wok no ow W) : ∀ j, j < no → W j ≤ 200 := fun j hj => (h j hj).2.2
