theorem fI_dec (b : Nat) (h : b < 2 ^ 31) : nI b + (-1 : Int32) = fI b := by
  cases b with
  | zero => decide +kernel
  | succ k => exact nI_dec (r := k + 1) (by omega)
theorem fI_neg {b : Nat} (hb : b < 9) (h : fI b < 0) : b = 0 := by
  cases b with
  | zero => rfl
  | succ k => exact absurd h (nI_pos (by omega))
theorem fI_pos {b : Nat} (h : ¬ fI b < 0) : ∃ k, b = k + 1 := by
  cases b with
  | zero => exact absurd (by decide +kernel) h
  | succ k => exact ⟨k, rfl⟩
theorem ar_0 {nb no : Nat} {g : Nat → Int32} (v : Va nb no g) (hb : nb < 7) {j : Nat} (hj : j < no) : arF g 0 j = g j := by
  unfold arF
  rcases v.1 j hj with z | ⟨k, hk, z⟩
  · rw [if_pos z, z]
  · rw [if_neg (by rw [z]; exact nI_m1 (by omega)), if_neg (by rw [z]; exact nI_nlt (Nat.zero_le _) (by omega))]
theorem ar_6 {nb no : Nat} {g : Nat → Int32} (v : Va nb no g) (hb : nb < 7) {j : Nat} (hj : j < no) : arF g 6 j = -1 := by
  unfold arF
  rcases v.1 j hj with z | ⟨k, hk, z⟩
  · rw [if_pos z]
  · rw [if_neg (by rw [z]; exact nI_m1 (by omega)), if_pos (by rw [z]; exact nI_lt (by omega) (by omega))]
theorem ar_ne {nb no : Nat} {g : Nat → Int32} (v : Va nb no g) (hb : nb < 7) {b j : Nat} (hb6 : b < 6) (hj : j < no) (hn : g j ≠ nI b) : arF g (b + 1) j = arF g b j := by
  unfold arF
  rcases v.1 j hj with z | ⟨k, hk, z⟩
  · rw [if_pos z, if_pos z]
  · have hkb : k ≠ b := fun y => hn (by rw [z, y])
    have hz : g j ≠ -1 := by rw [z]; exact nI_m1 (by omega)
    rw [if_neg hz, if_neg hz, z]
    by_cases q : k < b
    · rw [if_pos (nI_lt (show k < b + 1 by omega) (by omega)), if_pos (nI_lt q (by omega))]
    · rw [if_neg (nI_nlt (show b + 1 ≤ k by omega) (by omega)), if_neg (nI_nlt (show b ≤ k by omega) (by omega))]
theorem ar_eq {g : Nat → Int32} {b j : Nat} (hb6 : b < 6) (h : g j = nI b) : arF g b j = nI b := by
  unfold arF
  rw [if_neg (by rw [h]; exact nI_m1 (by omega)), if_neg (by rw [h]; exact nI_nlt (Nat.le_refl _) (by omega)), h]
def arG (at_ g : Nat → Int32) (no b : Nat) (at1 : Nat → Int32) : Prop := (∀ j, j < no → at1 j = arF g b j) ∧ ∀ j, no ≤ j → at1 j = at_ j
theorem arG_start {nb no : Nat} {at_ g : Nat → Int32} (v : Va nb no g) (hb : nb < 7) : arG at_ g no 6 (fun i => if i < no then -1 else at_ i) :=
  ⟨fun j hj => by rw [ar_6 v hb hj]; exact if_pos hj, fun j hj => if_neg (by omega)⟩
theorem arG_skip {nb no b : Nat} {at_ g at1 : Nat → Int32} (v : Va nb no g) (hb : nb < 7) (h8 : no ≤ 8) (hb6 : b < 6) (h : arG at_ g no (b + 1) at1) (hd : cdN g nb no (b + 1) % 9 ≤ 0) : arG at_ g no b at1 := by
  refine ⟨fun j hj => ?_, h.2⟩
  rw [h.1 j hj]
  refine ar_ne v hb hb6 hj (fun e => ?_)
  have h1 := (cd_mod (g := g) (nb := nb) h8 b).1
  rcases v.1 j hj with z | ⟨k, hk, z⟩
  · exact nI_m1 (k := b) (by omega) (by rw [← e, z])
  · have : k = b := nI_inj (by rw [← z, e]) (by omega) (by omega)
    subst this
    rw [if_pos hk, ba_va v hj (by omega) e] at h1
    omega
theorem arG_set {nb no b : Nat} {at_ g at1 : Nat → Int32} (v : Va nb no g) (hb : nb < 7) (h8 : no ≤ 8) (hb6 : b < 6) (h : arG at_ g no (b + 1) at1) (hd : ¬ cdN g nb no (b + 1) % 9 ≤ 0) : arG at_ g no b (upd at1 (cdN g nb no (b + 1) % 9 - 1) (nI b)) := by
  have h1 := (cd_mod (g := g) (nb := nb) h8 b).1
  split at h1
  · obtain ⟨n, hn⟩ : ∃ n, baM g (nI b) no = n + 1 := ⟨baM g (nI b) no - 1, by omega⟩
    obtain ⟨a1, a2⟩ := ba_get hn
    rw [h1, hn, Nat.add_sub_cancel]
    refine ⟨fun j hj => ?_, fun j hj => by rw [upd_ne _ _ (by omega)]; exact h.2 j hj⟩
    by_cases e : j = n
    · subst e; rw [upd_eq, ar_eq hb6 a2]
    · rw [upd_ne _ _ e, h.1 j hj]
      exact ar_ne v hb hb6 hj (fun z => e (v.2 j n hj a1 (by rw [z]; exact nI_m1 (by omega)) (by rw [z, a2])))
  · omega
