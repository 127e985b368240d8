/-! the numbers that both sides speak of -/
def iab (x : Int32) : Int32 := if 0 ≤ x then x else 0 - x
def im (x k : Int32) : Int32 := x - x / k * k
/-- the level of an hour -/
def lev (b f s h : Int32) : Int32 := b + f * (3 - iab (6 - im h 12)) + s * (6 - iab (12 - im h 25))
/-- whether an hour is bad -/
def badF (wf wt : Nat → Int32) (n : Nat) (h : Int32) : Bool := (List.range n).any fun k => decide (wf k ≤ h ∧ h < wt k)
theorem badF_iff {wf wt : Nat → Int32} {n : Nat} {h : Int32} : badF wf wt n h = true ↔ ∃ k, k < n ∧ wf k ≤ h ∧ h < wt k := by
  simp [badF, List.any_eq_true]
theorem badF_t {wf wt : Nat → Int32} {n : Nat} {h : Int32} {k : Nat} (hk : k < n) (h1 : wf k ≤ h) (h2 : h < wt k) : badF wf wt n h = true := badF_iff.mpr ⟨k, hk, h1, h2⟩
theorem badF_f {wf wt : Nat → Int32} {n : Nat} {h : Int32} (hn : ∀ j, j < n → ¬ (wf j ≤ h ∧ h < wt j)) : badF wf wt n h = false := by
  cases hb : badF wf wt n h with
  | false => rfl
  | true =>
    obtain ⟨k, h1, h2⟩ := badF_iff.mp hb
    exact absurd h2 (hn k h1)
theorem all_step {P : Nat → Prop} {k : Nat} (h : ∀ j, j < k → P j) (hk : P k) : ∀ j, j < k + 1 → P j := by
  intro j hj
  rcases Nat.lt_or_ge j k with q | q
  · exact h j q
  · have e : j = k := by omega
    rw [e]; exact hk
/-- whether a number is one of n -/
def inB (b : Int32) (n : Nat) : Bool := decide (0 ≤ b ∧ b < nI n)
theorem inB_nI {k n : Nat} (hk : k < 2 ^ 31) (hn : n < 2 ^ 31) : inB (nI k) n = decide (k < n) := by
  have h1 : (0 : Int32) ≤ nI k := nI_pos' hk
  simp only [inB, h1, true_and, nI_ltI hk hn]
theorem inB_iff {b : Int32} {n : Nat} (hn : n < 2 ^ 31) : inB b n = true ↔ ∃ k, k < n ∧ b = nI k := by
  constructor
  · intro h
    have h := of_decide_eq_true h
    obtain ⟨j, hj, e⟩ := nI_of (x := b) (fun q => by
      have h1 := h.1
      simp only [Int32.lt_iff_toInt_lt, Int32.le_iff_toInt_le] at q h1
      omega)
    subst e
    exact ⟨j, (nI_ltI hj hn).mp h.2, rfl⟩
  · rintro ⟨k, hk, rfl⟩
    rw [inB_nI (by omega) hn]
    exact decide_eq_true hk
/-- whether a number is outside of a range -/
def outR (x lo hi : Int32) : Bool := decide (x < lo ∨ hi < x)
theorem sh1 : ∀ k, k < 31 → (1 : Int32) <<< (nI k &&& 31) = nI (2 ^ k) := by decide +kernel
/-- the set of occupied berths among the first k, as bits -/
def occN (bb : Nat → Int32) : Nat → Nat
  | 0 => 0
  | k + 1 => if bb k = -1 then occN bb k else occN bb k ||| 2 ^ k
theorem occN_lt (bb : Nat → Int32) : ∀ k, occN bb k < 2 ^ k
  | 0 => by simp [occN]
  | k + 1 => by
    have h := occN_lt bb k
    have h2 : 2 ^ k < 2 ^ (k + 1) := Nat.pow_lt_pow_right (by decide) (Nat.lt_succ_self k)
    rw [occN]
    split
    · omega
    · exact Nat.or_lt_two_pow (by omega) h2
theorem occN_bit (bb : Nat → Int32) (j : Nat) : ∀ k, (occN bb k).testBit j = decide (j < k ∧ bb j ≠ -1)
  | 0 => by simp [occN]
  | k + 1 => by
    rw [occN]
    split
    case isTrue h =>
      rw [occN_bit bb j k]
      by_cases e : j = k
      · subst e; simp [h]
      · have e2 : j < k + 1 ↔ j < k := by omega
        simp only [e2]
    case isFalse h =>
      rw [Nat.testBit_or, occN_bit bb j k, Nat.testBit_two_pow]
      by_cases e : k = j
      · subst e; simp [h]
      · have e2 : j < k + 1 ↔ j < k := by omega
        simp only [e2, e, decide_false, Bool.or_false]
theorem occ_step {bb : Nat → Int32} {k : Nat} (hk : k < 31) (h : ¬ bb k = -1) : nI (occN bb k) ||| ((1 : Int32) <<< (nI k &&& 31)) = nI (occN bb (k + 1)) := by
  rw [sh1 k hk, fa_or, occN, if_neg h]
/-! spans kept, coats, boats that wait -/
def kp (wf wt : Nat → Int32) (h : Int32) : Nat → (Nat → Int32) × (Nat → Int32) × Nat
  | 0 => (wf, wt, 0)
  | k + 1 => if (kp wf wt h k).2.1 k ≤ h then kp wf wt h k else (upd (kp wf wt h k).1 (kp wf wt h k).2.2 ((kp wf wt h k).1 k), upd (kp wf wt h k).2.1 (kp wf wt h k).2.2 ((kp wf wt h k).2.1 k), (kp wf wt h k).2.2 + 1)
theorem kp_le (wf wt : Nat → Int32) (h : Int32) : ∀ k, (kp wf wt h k).2.2 ≤ k
  | 0 => Nat.le_refl 0
  | k + 1 => by
    have := kp_le wf wt h k
    rw [kp]
    split
    · omega
    · show (kp wf wt h k).2.2 + 1 ≤ k + 1
      omega
theorem kp_t {wf wt : Nat → Int32} {h : Int32} {k : Nat} (c : ¬ (kp wf wt h k).2.1 k ≤ h) : kp wf wt h (k + 1) = (upd (kp wf wt h k).1 (kp wf wt h k).2.2 ((kp wf wt h k).1 k), upd (kp wf wt h k).2.1 (kp wf wt h k).2.2 ((kp wf wt h k).2.1 k), (kp wf wt h k).2.2 + 1) := by
  rw [kp, if_neg c]
theorem kp_f {wf wt : Nat → Int32} {h : Int32} {k : Nat} (c : (kp wf wt h k).2.1 k ≤ h) : kp wf wt h (k + 1) = kp wf wt h k := by
  rw [kp, if_pos c]
def dry1 (f : Nat → Int32) : Nat → (Nat → Int32)
  | 0 => f
  | k + 1 => if dry1 f k k ≤ 0 then dry1 f k else upd (dry1 f k) k (dry1 f k k - 1)
def cntW (ob : Nat → Int32) : Nat → Nat
  | 0 => 0
  | k + 1 => if ob k = -1 then cntW ob k + 1 else cntW ob k
theorem cntW_le (ob : Nat → Int32) : ∀ k, cntW ob k ≤ k
  | 0 => Nat.le_refl 0
  | k + 1 => by
    have := cntW_le ob k
    rw [cntW]
    split <;> omega
def sumW (ob od : Nat → Int32) : Nat → Int32
  | 0 => 0
  | k + 1 => if ob k = -1 then sumW ob od k + od k else sumW ob od k
/-- whether a boat goes before another one -/
def gbF (rk ow : Nat → Int32) (i j : Nat) : Bool := if rk i = rk j then decide (ow i < ow j) else decide (rk j < rk i)
def fI : Nat → Int32
  | 0 => -1
  | n + 1 => nI n
/-- the first in line among the first k boats: 0 for none, else its number and one more -/
def fW (ob rk ow : Nat → Int32) : Nat → Nat
  | 0 => 0
  | k + 1 => if ob k = -1 then (if fW ob rk ow k = 0 then k + 1 else if gbF rk ow k (fW ob rk ow k - 1) then k + 1 else fW ob rk ow k) else fW ob rk ow k
theorem fW_le (ob rk ow : Nat → Int32) : ∀ k, fW ob rk ow k ≤ k
  | 0 => Nat.le_refl 0
  | k + 1 => by
    have := fW_le ob rk ow k
    rw [fW]
    split
    · split
      · omega
      · split <;> omega
    · omega
theorem inB_fI {n m : Nat} (hn : n ≤ m) (hm : m < 2 ^ 31) : inB (fI n) m = decide (n ≠ 0) := by
  cases n with
  | zero =>
    refine decide_eq_decide.mpr ⟨fun q => ?_, fun q => absurd rfl q⟩
    have q1 := q.1
    exact absurd q1 (by decide)
  | succ k =>
    rw [fI, inB_nI (by omega) hm]
    exact decide_eq_decide.mpr ⟨fun _ => Nat.succ_ne_zero k, fun _ => by omega⟩
/-! water, reasons -/
def enW (tb tf ts clr : Int32) (od : Nat → Int32) (j : Nat) (h : Int32) : Bool := decide (od j + clr ≤ lev tb tf ts h)
def hbF (b : Bool) (hom now : Int32) : Int32 := if b then 98 else if hom = now then 99 else 110
theorem nar_ite {c : Prop} [Decidable c] {x y : Int32} (hx : narrow .char (.int x) = .int x) (hy : narrow .char (.int y) = .int y) : narrow .char (.int (if c then x else y)) = .int (if c then x else y) := by split <;> assumption
theorem hb_ch (b : Bool) (hom now : Int32) : narrow .char (.int (hbF b hom now)) = .int (hbF b hom now) := nar_ite rfl (nar_ite rfl rfl)
def ldF (cap : Int32) (ow ol bw bl : Nat → Int32) (j k : Nat) : Int32 := if cap < ow j then 119 else if ow j ≤ bw k then (if ol j ≤ bl k then 110 else 108) else 119
theorem ld_ch (cap : Int32) (ow ol bw bl : Nat → Int32) (j k : Nat) : narrow .char (.int (ldF cap ow ol bw bl j k)) = .int (ldF cap ow ol bw bl j k) := nar_ite rfl (nar_ite (nar_ite rfl rfl) rfl)
def hoB (s n : Int32) : Bool := decide (¬ ((s >>> (n &&& 31)) &&& 1) = 0)
def plF (cap : Int32) (olf ow ol bw bl bi : Nat → Int32) (j f k : Nat) (occ : Int32) : Int32 :=
  if olf j ≤ 0 then (if hoB occ (nI k) then 111 else if ((occ &&& (((1 : Int32) <<< (nI f &&& 31)) ^^^ (-1 : Int32))) &&& (bi f ||| bi k)) = 0 then ldF cap ow ol bw bl j k else 102) else 100
theorem pl_ch (cap : Int32) (olf ow ol bw bl bi : Nat → Int32) (j f k : Nat) (occ : Int32) : narrow .char (.int (plF cap olf ow ol bw bl bi j f k occ)) = .int (plF cap olf ow ol bw bl bi j f k occ) := nar_ite (nar_ite rfl (nar_ite (ld_ch _ _ _ _ _ _ _) rfl)) rfl
def liF (cap clr tb tf ts hom now : Int32) (bad : Bool) (ob bb od ow ol bw bl bi : Nat → Int32) (nb j k : Nat) : Int32 :=
  if ob j = -1 then (if hoB (nI (occN bb nb)) (nI k) then 111 else if (nI (occN bb nb) &&& bi k) = 0 then (if ldF cap ow ol bw bl j k = 110 then (if enW tb tf ts clr od j now then hbF bad hom now else 116) else ldF cap ow ol bw bl j k) else 102) else 97
theorem li_ch (cap clr tb tf ts hom now : Int32) (bad : Bool) (ob bb od ow ol bw bl bi : Nat → Int32) (nb j k : Nat) : narrow .char (.int (liF cap clr tb tf ts hom now bad ob bb od ow ol bw bl bi nb j k)) = .int (liF cap clr tb tf ts hom now bad ob bb od ow ol bw bl bi nb j k) := nar_ite (nar_ite rfl (nar_ite (nar_ite (nar_ite (hb_ch _ _ _) rfl) (ld_ch _ _ _ _ _ _ _)) rfl)) rfl
def laF (cap clr tb tf ts hom now : Int32) (bad : Bool) (olf bb od ow bi : Nat → Int32) (nb j f : Nat) : Int32 :=
  if olf j ≤ 0 then (if (nI (occN bb nb) &&& bi f) = 0 then (if ow j ≤ cap then (if enW tb tf ts clr od j now then hbF bad hom now else 116) else 119) else 102) else 100
theorem la_ch (cap clr tb tf ts hom now : Int32) (bad : Bool) (olf bb od ow bi : Nat → Int32) (nb j f : Nat) : narrow .char (.int (laF cap clr tb tf ts hom now bad olf bb od ow bi nb j f)) = .int (laF cap clr tb tf ts hom now bad olf bb od ow bi nb j f) := nar_ite (nar_ite (nar_ite (nar_ite (hb_ch _ _ _) rfl) rfl) rfl) rfl
def sbF (cap hom now : Int32) (bad : Bool) (olf ow ol bw bl bi bb : Nat → Int32) (nb j f k : Nat) : Int32 :=
  if plF cap olf ow ol bw bl bi j f k (nI (occN bb nb)) = 110 then hbF bad hom now else plF cap olf ow ol bw bl bi j f k (nI (occN bb nb))
theorem sb_ch (cap hom now : Int32) (bad : Bool) (olf ow ol bw bl bi bb : Nat → Int32) (nb j f k : Nat) : narrow .char (.int (sbF cap hom now bad olf ow ol bw bl bi bb nb j f k)) = .int (sbF cap hom now bad olf ow ol bw bl bi bb nb j f k) := nar_ite (hb_ch _ _ _) (pl_ch _ _ _ _ _ _ _ _ _ _ _)
def cwF (ob bb bi : Nat → Int32) (nb j : Nat) : Bool := inB (ob j) nb && decide ((nI (occN bb nb) &&& bi (ob j).toNatClampNeg) = 0)
/-- what a new berth has in front of it -/
def biF (bi : Nat → Int32) (nb : Nat) (fr : Int32) : Int32 := if inB fr nb then bi fr.toNatClampNeg ||| ((1 : Int32) <<< (fr &&& 31)) else 0
