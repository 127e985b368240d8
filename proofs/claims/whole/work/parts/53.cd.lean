/-! codes of the reference: nine for each berth -/
def cdN (at_ : Nat → Int32) (nb no : Nat) : Nat → Nat
  | 0 => 0
  | b + 1 => 9 * cdN at_ nb no b + (if b < nb then baM at_ (nI b) no else 0)
theorem fI_1 (n : Nat) : fI n + (1 : Int32) = nI n := by
  cases n with
  | zero => decide +kernel
  | succ n => exact nI_add n 1
theorem ba_get {at_ : Nat → Int32} {g : Int32} : ∀ {no n : Nat}, baM at_ g no = n + 1 → n < no ∧ at_ n = g
  | b + 1, n, h => by
    rw [baM] at h
    split at h
    · rename_i e
      obtain rfl : b = n := by omega
      exact ⟨by omega, e⟩
    · have := ba_get h
      exact ⟨by omega, this.2⟩
theorem ba_some {at_ : Nat → Int32} {g : Int32} {no j : Nat} (hj : j < no) (h : at_ j = g) : ∃ n, baM at_ g no = n + 1 ∧ n < no ∧ at_ n = g := by
  cases e : baM at_ g no with
  | zero => exact absurd h (by
      have h0 : ∀ no, baM at_ g no = 0 → ∀ j, j < no → at_ j ≠ g := by
        intro no
        induction no with
        | zero => intro _ j hj; omega
        | succ b ih =>
          intro hb j hj
          rw [baM] at hb
          split at hb
          · omega
          · rename_i z
            rcases Nat.lt_or_ge j b with q | q
            · exact ih hb j q
            · obtain rfl : j = b := by omega
              exact z
      exact h0 no e j hj)
  | succ n => exact ⟨n, rfl, ba_get e⟩
theorem ba_va {nb no : Nat} {g : Nat → Int32} (v : Va nb no g) {j k : Nat} (hj : j < no) (hk : k < 2 ^ 31) (h : g j = nI k) : baM g (nI k) no = j + 1 := by
  obtain ⟨n, e, hn, h2⟩ := ba_some hj h
  have := v.2 n j hn hj (by rw [h2]; exact nI_m1 hk) (by rw [h2, h])
  rw [e, this]
theorem ba_cong {g e : Nat → Int32} {b : Int32} : ∀ {no : Nat}, (∀ j, j < no → g j = e j) → baM g b no = baM e b no
  | 0, _ => rfl
  | n + 1, h => by rw [baM, baM, h n (by omega), ba_cong (fun j hj => h j (by omega))]
theorem cd_cong {nb no : Nat} {g e : Nat → Int32} (h : ∀ j, j < no → g j = e j) : ∀ k, cdN g nb no k = cdN e nb no k
  | 0 => rfl
  | k + 1 => by rw [cdN, cdN, cd_cong h k, ba_cong h]
theorem cd_dig {g : Nat → Int32} {nb no : Nat} (h8 : no ≤ 8) (b : Nat) : (if b < nb then baM g (nI b) no else 0) < 9 := by
  split
  · have := baM_le g (nI b) no; omega
  · omega
theorem cd_lt {g : Nat → Int32} {nb no : Nat} (h8 : no ≤ 8) : ∀ k, cdN g nb no k < 9 ^ k
  | 0 => by show 0 < 1; omega
  | k + 1 => by
    have ih := cd_lt (g := g) (nb := nb) h8 k
    have := cd_dig (g := g) (nb := nb) h8 k
    rw [cdN, Nat.pow_succ]
    omega
theorem cd_6 {g : Nat → Int32} {nb no k : Nat} (h8 : no ≤ 8) (hk : k ≤ 6) : cdN g nb no k < 531441 :=
  Nat.lt_of_lt_of_le (cd_lt h8 k) (Nat.pow_le_pow_right (n := 9) (by decide) hk)
theorem cd_mod {g : Nat → Int32} {nb no : Nat} (h8 : no ≤ 8) (k : Nat) : cdN g nb no (k + 1) % 9 = (if k < nb then baM g (nI k) no else 0) ∧ cdN g nb no (k + 1) / 9 = cdN g nb no k := by
  have := cd_dig (g := g) (nb := nb) h8 k
  rw [cdN]
  omega
theorem cd_inj {nb no : Nat} {g e : Nat → Int32} (h8 : no ≤ 8) (hb : nb < 7) (v : Va nb no g) (v2 : Va nb no e) (h : cdN g nb no 6 = cdN e nb no 6) : ∀ j, j < no → g j = e j := by
  have hd : ∀ d k, k + d = 6 → cdN g nb no k = cdN e nb no k := by
    intro d
    induction d with
    | zero => intro k hk; obtain rfl : k = 6 := by omega
              exact h
    | succ d ih =>
      intro k hk
      have h1 := ih (k + 1) (by omega)
      rw [← (cd_mod (g := g) (nb := nb) h8 k).2, ← (cd_mod (g := e) (nb := nb) h8 k).2, h1]
  have hdig : ∀ k, k < nb → baM g (nI k) no = baM e (nI k) no := by
    intro k hk
    have h1 := hd (5 - k) (k + 1) (by omega)
    have a1 := (cd_mod (g := g) (nb := nb) h8 k).1
    have a2 := (cd_mod (g := e) (nb := nb) h8 k).1
    rw [if_pos hk] at a1 a2
    rw [← a1, ← a2, h1]
  intro j hj
  rcases v.1 j hj with z | ⟨k, hk, z⟩
  · rcases v2.1 j hj with y | ⟨k, hk, y⟩
    · rw [z, y]
    · have h1 := ba_va v2 hj (by omega) y
      rw [← hdig k hk] at h1
      rw [(ba_get h1).2, y]
  · have h1 := ba_va v hj (by omega) z
    rw [hdig k hk] at h1
    rw [(ba_get h1).2, z]
/-- what is set again of an arrangement, from the berth k on -/
def arF (g : Nat → Int32) (k : Nat) (j : Nat) : Int32 := if g j = -1 then -1 else if g j < nI k then -1 else g j
def arS (at_ g : Nat → Int32) (no k j : Nat) : Int32 := if j < no then arF g k j else at_ j
