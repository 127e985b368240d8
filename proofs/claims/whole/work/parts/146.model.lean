/-! the reference's own words -/
theorem bI_n0 {b : Bool} : bI (!b) = 0 → b = true := by cases b <;> simp [bI]
theorem bI_n1 {b : Bool} : ¬ bI (!b) = 0 → b = false := by cases b <;> simp [bI]
theorem inB_out {b : Int32} {n : Nat} (hn : n ≤ 8) : inB b n = !outR b 0 (nI n - 1) := by
  have e : (nI n - 1).toInt = (n : Int) - 1 := pk_sub_toInt (b := 1) (by omega) (by decide)
  have e2 : (nI n).toInt = n := nI_toInt (by omega)
  have e0 : (0 : Int32).toInt = 0 := by decide
  unfold inB outR
  rw [← decide_not]
  refine decide_eq_decide.mpr ?_
  simp only [Int32.lt_iff_toInt_lt, Int32.le_iff_toInt_le, e, e2, e0]
  omega
/-- the boat in a berth: 0 for none, else its number and one more -/
def baM (at_ : Nat → Int32) (g : Int32) : Nat → Nat
  | 0 => 0
  | b + 1 => if at_ b = g then b + 1 else baM at_ g b
theorem baM_le (at_ : Nat → Int32) (g : Int32) : ∀ b, baM at_ g b ≤ b
  | 0 => Nat.le_refl 0
  | b + 1 => by
    have := baM_le at_ g b
    rw [baM]
    split <;> omega
/-- along the berths in front, from one on -/
def shG (q : Int32 → Bool) (fr : Nat → Int32) : Nat → Int32 → Bool
  | 0, _ => false
  | f + 1, kk => if kk = -1 then false else (q kk || shG q fr f (fr (nN kk)))
theorem shG_end (q : Int32 → Bool) (fr : Nat → Int32) (f : Nat) : shG q fr f (-1) = false := by
  cases f with
  | zero => rfl
  | succ n => rw [shG, if_pos rfl]
def shQ (at_ : Nat → Int32) (no : Nat) (bu : Int32) (g : Int32) : Bool := !decide (fI (baM at_ g no) = -1) && !decide (fI (baM at_ g no) = bu)
def shM (at_ fr : Nat → Int32) (no k : Nat) (bu : Int32) : Bool := shG (shQ at_ no bu) fr k (fr k)
def wtM (aw at_ : Nat → Int32) (j : Nat) : Bool := decide (aw j = 0 ∧ at_ j = -1)
def fwM (aw at_ rk ow : Nat → Int32) : Nat → Nat
  | 0 => 0
  | k + 1 => if wtM aw at_ k = true then (if fwM aw at_ rk ow k = 0 then k + 1 else if gbF rk ow k (fwM aw at_ rk ow k - 1) then k + 1 else fwM aw at_ rk ow k) else fwM aw at_ rk ow k
theorem fwM_le (aw at_ rk ow : Nat → Int32) : ∀ k, fwM aw at_ rk ow k ≤ k
  | 0 => Nat.le_refl 0
  | k + 1 => by
    have := fwM_le aw at_ rk ow k
    rw [fwM]
    split
    · split
      · omega
      · split <;> omega
    · omega
def goL (cap clr tb tf ts hom now : Int32) (bad : Bool) (od ow ol bw bl : Nat → Int32) (j k : Nat) : Int32 := if ldF cap ow ol bw bl j k = 110 then (if enW tb tf ts clr od j now then hbF bad hom now else 116) else ldF cap ow ol bw bl j k
def liM (cap clr tb tf ts hom now : Int32) (bad : Bool) (aw at_ fr od ow ol bw bl : Nat → Int32) (no j k : Nat) : Int32 :=
  if aw j = 0 then (if at_ j = -1 then (if fI (baM at_ (nI k) no) = -1 then (if shM at_ fr no k (-1) then 102 else goL cap clr tb tf ts hom now bad od ow ol bw bl j k) else 111) else 97) else 97
theorem goL_ch (cap clr tb tf ts hom now : Int32) (bad : Bool) (od ow ol bw bl : Nat → Int32) (j k : Nat) : narrow .char (.int (goL cap clr tb tf ts hom now bad od ow ol bw bl j k)) = .int (goL cap clr tb tf ts hom now bad od ow ol bw bl j k) := nar_ite (nar_ite (hb_ch ..) rfl) (ld_ch ..)
theorem liM_ch (cap clr tb tf ts hom now : Int32) (bad : Bool) (aw at_ fr od ow ol bw bl : Nat → Int32) (no j k : Nat) : narrow .char (.int (liM cap clr tb tf ts hom now bad aw at_ fr od ow ol bw bl no j k)) = .int (liM cap clr tb tf ts hom now bad aw at_ fr od ow ol bw bl no j k) := nar_ite (nar_ite (nar_ite (nar_ite rfl (goL_ch ..)) rfl) rfl) rfl
def lnM (cap clr tb tf ts hom now : Int32) (bad : Bool) (at_ olf fr od ow : Nat → Int32) (no j : Nat) : Int32 :=
  if at_ j = -1 then 97 else if olf j ≤ 0 then (if shM at_ fr no (nN (at_ j)) (-1) then 102 else if ow j ≤ cap then (if enW tb tf ts clr od j now then hbF bad hom now else 116) else 119) else 100
theorem lnM_ch (cap clr tb tf ts hom now : Int32) (bad : Bool) (at_ olf fr od ow : Nat → Int32) (no j : Nat) : narrow .char (.int (lnM cap clr tb tf ts hom now bad at_ olf fr od ow no j)) = .int (lnM cap clr tb tf ts hom now bad at_ olf fr od ow no j) := nar_ite rfl (nar_ite (nar_ite rfl (nar_ite (nar_ite (hb_ch ..) rfl) rfl)) rfl)
def seM (cap : Int32) (at_ olf fr ow ol bw bl : Nat → Int32) (no j k : Nat) : Int32 :=
  if at_ j = -1 then 97 else if olf j ≤ 0 then (if fI (baM at_ (nI k) no) = -1 then (if shM at_ fr no (nN (at_ j)) (nI j) then 102 else if shM at_ fr no k (nI j) then 102 else ldF cap ow ol bw bl j k) else 111) else 100
theorem seM_ch (cap : Int32) (at_ olf fr ow ol bw bl : Nat → Int32) (no j k : Nat) : narrow .char (.int (seM cap at_ olf fr ow ol bw bl no j k)) = .int (seM cap at_ olf fr ow ol bw bl no j k) := nar_ite rfl (nar_ite (nar_ite (nar_ite rfl (nar_ite rfl (ld_ch ..))) rfl) rfl)
def snM (cap hom now : Int32) (bad : Bool) (at_ olf fr ow ol bw bl : Nat → Int32) (no j k : Nat) : Int32 := if seM cap at_ olf fr ow ol bw bl no j k = 110 then hbF bad hom now else seM cap at_ olf fr ow ol bw bl no j k
theorem snM_ch (cap hom now : Int32) (bad : Bool) (at_ olf fr ow ol bw bl : Nat → Int32) (no j k : Nat) : narrow .char (.int (snM cap hom now bad at_ olf fr ow ol bw bl no j k)) = .int (snM cap hom now bad at_ olf fr ow ol bw bl no j k) := nar_ite (hb_ch ..) (seM_ch ..)
def goC (r : Int32) : Nat := if r = 110 then 0 else 2
def cbM (no : Nat) (aw : Nat → Int32) (b : Int32) : Nat := if inB b no = true then (if aw (nN b) = 0 then 2 else 0) else 1
def nwM (no : Nat) (aw at_ rk ow : Nat → Int32) : Nat := if fwM aw at_ rk ow no = 0 then 1 else 0
def stM (aw at_ : Nat → Int32) (j : Nat) : Int32 := if wtM aw at_ j = true then 119 else if at_ j = -1 then 97 else 98
def beM (no : Nat) (at_ : Nat → Int32) (b : Int32) : Nat := if inB b no = true then (if at_ (nN b) = -1 then 2 else 0) else 1
def bnM (nb no : Nat) (at_ : Nat → Int32) (k : Int32) : Nat := if inB k nb = true then (if fI (baM at_ k no) = -1 then 2 else 0) else 1
def paM (no : Nat) (bad : Bool) (at_ olf : Nat → Int32) (b h : Int32) : Nat := if inB b no = true then (if outR h 4 48 = false then (if at_ (nN b) = -1 then 3 else if 0 < olf (nN b) then 3 else if bad = false then 0 else 3) else 2) else 1
theorem upd_same0 (f : Nat → Int32) (k : Nat) : upd f k (f k - 0) = f := by
  funext j
  unfold upd
  split
  case isTrue h => rw [h, Int32.sub_zero]
  case isFalse h => rfl
theorem badF_s (wf wt : Nat → Int32) (k : Nat) (h : Int32) : badF wf wt (k + 1) h = (badF wf wt k h || decide (wf k ≤ h ∧ h < wt k)) := by
  unfold badF
  rw [List.range_succ, List.any_append]
  simp
theorem tw_bounds {t : Nat} {f : Int32} (h : outR f (nI t) 9999 = false) (ht : t ≤ 9999) : (t : Int) ≤ f.toInt ∧ f.toInt ≤ 9999 := by
  have h := of_decide_eq_false h
  have h1 : ¬ f < nI t := fun q => h (Or.inl q)
  have h2 : ¬ (9999 : Int32) < f := fun q => h (Or.inr q)
  have e : (nI t).toInt = t := nI_toInt (by omega)
  have e2 : (9999 : Int32).toInt = 9999 := by decide
  simp only [Int32.lt_iff_toInt_lt, e, e2] at h1 h2
  omega
theorem tw_in {t : Nat} {f g : Int32} (h : outR f (nI t) 9999 = false) (h2 : outR g (f + 1) 10000 = false) (ht : t ≤ 9999) : outR f (nI t) 9999 = false ∧ ¬ g ≤ f ∧ g ≤ 10000 := by
  have hb := tw_bounds h ht
  have h2 := of_decide_eq_false h2
  have h3 : ¬ g < f + 1 := fun q => h2 (Or.inl q)
  have h4 : ¬ (10000 : Int32) < g := fun q => h2 (Or.inr q)
  have e1 : (1 : Int32).toInt = 1 := by decide
  have e : (f + 1).toInt = f.toInt + 1 := by rw [fb_addI (by omega) (by omega), e1]
  refine ⟨h, fun q => ?_, ?_⟩
  · simp only [Int32.lt_iff_toInt_lt, Int32.le_iff_toInt_le] at h3 q
    omega
  · simp only [Int32.lt_iff_toInt_lt, Int32.le_iff_toInt_le] at h4 ⊢
    omega
theorem tw_out {t : Nat} {f g : Int32} (h : outR f (nI t) 9999 = false) (h2 : outR g (f + 1) 10000 = true) (ht : t ≤ 9999) : ¬ (outR f (nI t) 9999 = false ∧ ¬ g ≤ f ∧ g ≤ 10000) := by
  rintro ⟨-, h3, h4⟩
  have hb := tw_bounds h ht
  have h2 := of_decide_eq_true h2
  have e1 : (1 : Int32).toInt = 1 := by decide
  have e : (f + 1).toInt = f.toInt + 1 := by rw [fb_addI (by omega) (by omega), e1]
  simp only [Int32.lt_iff_toInt_lt, Int32.le_iff_toInt_le] at h2 h3 h4
  omega
def pdM (wf wt : Nat → Int32) (nw no t : Nat) (olf : Nat → Int32) (k : Nat) : Nat → Int32 := pdF wf wt nw no t olf k
theorem wt_s (aw at_ : Nat → Int32) (k : Nat) : fb_ct (wtM aw at_) (k + 1) = fb_ct (wtM aw at_) k + (if wtM aw at_ k then 1 else 0) := fb_ct_succ _ _
/-- what the spans and a coat may be -/
def dryOk (wf wt : Nat → Int32) (nw : Nat) : Prop := ∀ h, 10000 ≤ h → h < 12000 → badF wf wt nw (nI h) = false
abbrev bdN (wf wt : Nat → Int32) (nw : Nat) : Nat → Bool := fun h => badF wf wt nw (nI h)
theorem dryG_0 (bad : Nat → Bool) (f h : Nat) : dryG bad f 0 h = h := by
  cases f with
  | zero => rfl
  | succ n => rw [dryG, if_pos rfl]
theorem fi_0 {n : Nat} (hn : n ≤ 8) (h : fI n = -1) : n = 0 := by
  have h1 : inB (fI n) 8 = false := by rw [h]; decide
  rw [inB_fI hn (by decide)] at h1
  exact Decidable.not_not.mp (of_decide_eq_false h1)
theorem gb_a {rk ow : Nat → Int32} {i j : Nat} (h : rk j < rk i) : gbF rk ow i j = true := by
  rw [gbF, if_neg (fun e => by rw [e] at h; exact Int32.lt_irrefl h)]
  exact decide_eq_true h
theorem gb_b {rk ow : Nat → Int32} {i j : Nat} (h : ¬ rk j < rk i) (h2 : ¬ rk i = rk j) : gbF rk ow i j = false := by
  rw [gbF, if_neg h2]
  exact decide_eq_false h
theorem gb_c {rk ow : Nat → Int32} {i j : Nat} (h : rk i = rk j) (h2 : ow j ≤ ow i) : gbF rk ow i j = false := by
  rw [gbF, if_pos h]
  exact decide_eq_false (fun q => by simp only [Int32.lt_iff_toInt_lt, Int32.le_iff_toInt_le] at q h2; omega)
theorem gb_d {rk ow : Nat → Int32} {i j : Nat} (h : rk i = rk j) (h2 : ¬ ow j ≤ ow i) : gbF rk ow i j = true := by
  rw [gbF, if_pos h]
  exact decide_eq_true (by simp only [Int32.lt_iff_toInt_lt, Int32.le_iff_toInt_le] at h2 ⊢; omega)
