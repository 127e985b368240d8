/-! shares and means: no NaN comes out -/
theorem nn64 {r : UInt64} (h : FP.Core.val64 r ≠ .nan) : vf_n64 r := by
  have h1 := (FP.Core.ne_nan r).mp h
  unfold vf_n64
  rw [UInt64.le_iff_toNat_le, UInt64.toNat_and, show (0x7fffffffffffffff : UInt64).toNat = 2 ^ 63 - 1 from rfl, Nat.and_two_pow_sub_one_eq_mod]
  exact h1
theorem nn32 {r : UInt32} (h : FP.Core.val32 r ≠ .nan) : vf_n32 r := by
  have h1 := (FP.Core.ne_nan32 r).mp h
  unfold vf_n32
  rw [UInt32.le_iff_toNat_le, UInt32.toNat_and, show (0x7fffffff : UInt32).toNat = 2 ^ 31 - 1 from rfl, Nat.and_two_pow_sub_one_eq_mod]
  exact h1
theorem nn_ddiv {v x : Int32} (h : x ≠ 0) : vf_n64 (FP.ddiv (FP.i2d v) (FP.i2d x)) := by
  refine nn64 ((FP.Core.notNaN_iff _).mp (FP.Core.ddiv_out ?_ (FP.Core.i2d_fin x) (fun z => FP.Core.i2d_ne_zero h ((FP.Core.zero_bits2 _).mp z))))
  exact (FP.Core.notNaN_iff _).mpr (FP.Core.i2d_fin v).ne_nan
theorem nn_fdiv {v x : Int32} (h : x ≠ 0) : vf_n32 (FP.fdiv (FP.i2f v) (FP.i2f x)) := by
  refine nn32 ((FP.Core.notNaN_iff32 _).mp (FP.Core.fdiv_out ?_ (FP.Core.i2f_fin x) (fun z => FP.Core.i2f_ne_zero h ((FP.Core.zero_bits232 _).mp z))))
  exact (FP.Core.notNaN_iff32 _).mpr (FP.Core.i2f_fin v).ne_nan
/-- how many berths are taken, by a function that tells the boat in each -/
def ocC (f : Nat → Int32) : Nat → Nat
  | 0 => 0
  | k + 1 => if f k = -1 then ocC f k else ocC f k + 1
theorem ocC_le (f : Nat → Int32) : ∀ k, ocC f k ≤ k
  | 0 => Nat.le_refl 0
  | k + 1 => by
    have := ocC_le f k
    rw [ocC]
    split <;> omega
/-- the JDK's count of bits -/
def bcE (i0 : Int32) : Int32 :=
  let u (x k : Int32) : Int32 := (x.toUInt32 >>> (k.toUInt32 &&& Int32.toUInt32 31)).toInt32
  let i1 := i0 - (u i0 1 &&& 1431655765)
  let i2 := (i1 &&& 858993459) + (u i1 2 &&& 858993459)
  let i3 := (i2 + u i2 4) &&& 252645135
  let i4 := i3 + u i3 8
  let i5 := i4 + u i4 16
  i5 &&& 63
theorem bc_up : ∀ k, k < 6 → ∀ m, m < 2 ^ k → bcE (nI (m ||| 2 ^ k)) = bcE (nI m) + 1 := by decide +kernel
theorem bc_occ (f : Nat → Int32) : ∀ k, k ≤ 6 → bcE (nI (occN f k)) = nI (ocC f k)
  | 0 => fun _ => by
    show bcE (nI 0) = nI 0
    decide +kernel
  | k + 1 => fun h => by
    have ih := bc_occ f k (by omega)
    rw [occN, ocC]
    split
    · exact ih
    · rw [bc_up k (by omega) _ (occN_lt f k), ih]
      exact nI_add (ocC f k) 1
def usC (nb : Nat) : Nat := if nb = 0 then 1 else 0
def usF (c nb : Nat) : UInt32 := FP.fdiv (FP.i2f (nI c)) (FP.i2f (nI nb))
def mdF (v : Int32) (n : Nat) : UInt64 := FP.ddiv (FP.i2d v) (FP.i2d (nI n))
/-- the sum over those that are told -/
def smP (P : Nat → Bool) (od : Nat → Int32) : Nat → Int32
  | 0 => 0
  | k + 1 => if P k = true then smP P od k + od k else smP P od k
theorem zqf {v r : UInt32} {w : va_W} (h : v = r) : some (Value.float v) = some (Value.float r) ∧ w = w := ⟨by rw [h], rfl⟩
theorem zqd {v r : UInt64} {w : va_W} (h : v = r) : some (Value.double v) = some (Value.double r) ∧ w = w := ⟨by rw [h], rfl⟩
theorem zm_J6_bitCount_0f7a4 : zSM RJ6 yJ6_bitCount_0f7a4 cJ6_bitCount_0f7a4 1 (some .int) 1 := ⟨⟨wd_31_4, wd_31_5, wd_31_6⟩, by decide +kernel⟩
theorem zm_J7_fill_53178 : zSM RJ7 yJ7_fill_53178 cJ7_fill_53178 4 none 2 := ⟨⟨wd_30_13, wd_30_14, wd_30_15⟩, by decide +kernel⟩
