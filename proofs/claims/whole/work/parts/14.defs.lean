/-! the numbers that both sides speak of -/
def iab (x : Int32) : Int32 := if 0 ≤ x then x else 0 - x
def im (x k : Int32) : Int32 := x - x / k * k
/-- the level of an hour -/
def lev (b f s h : Int32) : Int32 := b + f * (3 - iab (6 - im h 12)) + s * (6 - iab (12 - im h 25))
/-- whether an hour is bad -/
def badF (wf wt : Nat → Int32) (n : Nat) (h : Int32) : Bool := (List.range n).any fun k => decide (wf k ≤ h ∧ h < wt k)
theorem badF_iff {wf wt : Nat → Int32} {n : Nat} {h : Int32} : badF wf wt n h = true ↔ ∃ k, k < n ∧ wf k ≤ h ∧ h < wt k := by
  simp [badF, List.any_eq_true]
theorem badF_t {wf wt : Nat → Int32} {n : Nat} {h : Int32} {k : Nat} (hk : k < n) (h1 : wf k ≤ h) (h2 : h < wt k) : badF wf wt n h = true := badF_iff.mpr ⟨k, hk, h1, h2⟩
theorem badF_f {wf wt : Nat → Int32} {n : Nat} {h : Int32} (hn : ∀ j, j < n → ¬ (wf j ≤ h ∧ h < wt j)) : badF wf wt n h = false := by
  cases hb : badF wf wt n h with
  | false => rfl
  | true =>
    obtain ⟨k, h1, h2⟩ := badF_iff.mp hb
    exact absurd h2 (hn k h1)
theorem all_step {P : Nat → Prop} {k : Nat} (h : ∀ j, j < k → P j) (hk : P k) : ∀ j, j < k + 1 → P j := by
  intro j hj
  rcases Nat.lt_or_ge j k with q | q
  · exact h j q
  · have e : j = k := by omega
    rw [e]; exact hk
/-- whether a number is one of n -/
def inB (b : Int32) (n : Nat) : Bool := decide (0 ≤ b ∧ b < nI n)
theorem inB_nI {k n : Nat} (hk : k < 2 ^ 31) (hn : n < 2 ^ 31) : inB (nI k) n = decide (k < n) := by
  have h1 : (0 : Int32) ≤ nI k := nI_pos' hk
  simp only [inB, h1, true_and, nI_ltI hk hn]
theorem inB_iff {b : Int32} {n : Nat} (hn : n < 2 ^ 31) : inB b n = true ↔ ∃ k, k < n ∧ b = nI k := by
  constructor
  · intro h
    have h := of_decide_eq_true h
    obtain ⟨j, hj, e⟩ := nI_of (x := b) (fun q => by
      have h1 := h.1
      simp only [Int32.lt_iff_toInt_lt, Int32.le_iff_toInt_le] at q h1
      omega)
    subst e
    exact ⟨j, (nI_ltI hj hn).mp h.2, rfl⟩
  · rintro ⟨k, hk, rfl⟩
    rw [inB_nI (by omega) hn]
    exact decide_eq_true hk
/-- whether a number is outside of a range -/
def outR (x lo hi : Int32) : Bool := decide (x < lo ∨ hi < x)
theorem sh1 : ∀ k, k < 31 → (1 : Int32) <<< (nI k &&& 31) = nI (2 ^ k) := by decide +kernel
/-- the set of occupied berths among the first k, as bits -/
def occN (bb : Nat → Int32) : Nat → Nat
  | 0 => 0
  | k + 1 => if bb k = -1 then occN bb k else occN bb k ||| 2 ^ k
theorem occN_lt (bb : Nat → Int32) : ∀ k, occN bb k < 2 ^ k
  | 0 => by simp [occN]
  | k + 1 => by
    have h := occN_lt bb k
    have h2 : 2 ^ k < 2 ^ (k + 1) := Nat.pow_lt_pow_right (by decide) (Nat.lt_succ_self k)
    rw [occN]
    split
    · omega
    · exact Nat.or_lt_two_pow (by omega) h2
theorem occN_bit (bb : Nat → Int32) (j : Nat) : ∀ k, (occN bb k).testBit j = decide (j < k ∧ bb j ≠ -1)
  | 0 => by simp [occN]
  | k + 1 => by
    rw [occN]
    split
    case isTrue h =>
      rw [occN_bit bb j k]
      by_cases e : j = k
      · subst e; simp [h]
      · have e2 : j < k + 1 ↔ j < k := by omega
        simp only [e2]
    case isFalse h =>
      rw [Nat.testBit_or, occN_bit bb j k, Nat.testBit_two_pow]
      by_cases e : k = j
      · subst e; simp [h]
      · have e2 : j < k + 1 ↔ j < k := by omega
        simp only [e2, e, decide_false, Bool.or_false]
theorem occ_step {bb : Nat → Int32} {k : Nat} (hk : k < 31) (h : ¬ bb k = -1) : nI (occN bb k) ||| ((1 : Int32) <<< (nI k &&& 31)) = nI (occN bb (k + 1)) := by
  rw [sh1 k hk, fa_or, occN, if_neg h]
