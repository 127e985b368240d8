/-! which exception a call throws: 0 for none, else its place among those that the call names -/
abbrev nN (x : Int32) : Nat := x.toNatClampNeg
theorem outR_nat {x a b : Int32} {lo hi : Nat} (h : outR x a b = false) (ha : a.toInt = lo) (hb : b.toInt = hi) : ∃ n, lo ≤ n ∧ n ≤ hi ∧ x = nI n := by
  have h := of_decide_eq_false h
  have h1 : ¬ x < a := fun q => h (Or.inl q)
  have h2 : ¬ b < x := fun q => h (Or.inr q)
  simp only [Int32.lt_iff_toInt_lt] at h1 h2
  obtain ⟨j, hj, e⟩ := nI_of (x := x) (fun q => by simp only [Int32.lt_iff_toInt_lt] at q; rw [ha] at h1; have : (0 : Int32).toInt = 0 := by decide
                                                   omega)
  subst e
  rw [nI_toInt hj] at h1 h2
  exact ⟨j, by omega, by omega, rfl⟩
def abC (nb : Nat) (fr g h : Int32) : Nat := if fr = -1 ∨ inB fr nb = true then (if outR g 1 200 = false ∧ outR h 1 40 = false then (if nb < 6 then 0 else 3) else 2) else 1
def aoC (no : Nat) (f g h r : Int32) : Nat := if outR f 50 400 = false ∧ outR g 1 200 = false ∧ outR h 1 40 = false ∧ outR r 0 9 = false then (if no < 8 then 0 else 2) else 1
def stC (f g h : Int32) : Nat := if outR f 0 600 = false ∧ outR g 0 60 = false ∧ outR h 0 30 = false then 0 else 1
def scC (f g : Int32) : Nat := if outR f 1 200 = false ∧ outR g 0 50 = false then 0 else 1
def twC (t nw : Nat) (f g : Int32) : Nat := if outR f (nI t) 9999 = false ∧ ¬ g ≤ f ∧ g ≤ 10000 then (if nw < 6 then 0 else 2) else 1
def hoC (h : Int32) : Nat := if outR h 0 9999 = false then 0 else 1
def fhC (no : Nat) (b h : Int32) : Nat := if inB b no = true then (if outR h 1 5000 = false then 0 else 2) else 1
/-- the first hour of the next 400 that is good and has enough water, counted from now: 401 if there is none -/
def nfK (tb tf ts clr : Int32) (wf wt : Nat → Int32) (nw : Nat) (od : Nat → Int32) (j t : Nat) : Nat := fa_first (fun k => !badF wf wt nw (nI (t + k)) && enW tb tf ts clr od j (nI (t + k))) 401
def nfC (tb tf ts clr : Int32) (wf wt : Nat → Int32) (nw : Nat) (od : Nat → Int32) (no t : Nat) (b : Int32) : Nat := if inB b no = true then (if nfK tb tf ts clr wf wt nw od (nN b) t < 401 then 0 else 2) else 1
/-- a boat and a berth; a boat -/
def bbC (no nb : Nat) (b k : Int32) : Nat := if inB b no = true ∧ inB k nb = true then 0 else 1
def boC (no : Nat) (b : Int32) : Nat := if inB b no = true then 0 else 1
/-- a move of a boat, to a berth, for the reason r -/
def mvC (no nb : Nat) (b k r : Int32) : Nat := if inB b no = true ∧ inB k nb = true then (if r = 110 then 0 else 2) else 1
def mlC (no : Nat) (b r : Int32) : Nat := if inB b no = true then (if r = 110 then 0 else 2) else 1
def laR (cap clr tb tf ts hom now : Int32) (bad : Bool) (ob olf bb od ow bi : Nat → Int32) (nb j : Nat) : Int32 := if inB (ob j) nb = true then laF cap clr tb tf ts hom now bad olf bb od ow bi nb j (nN (ob j)) else 97
def shR (cap hom now : Int32) (bad : Bool) (ob olf ow ol bw bl bi bb : Nat → Int32) (nb j k : Nat) : Int32 := if inB (ob j) nb = true then sbF cap hom now bad olf ow ol bw bl bi bb nb j (nN (ob j)) k else 97
theorem laR_ch (cap clr tb tf ts hom now : Int32) (bad : Bool) (ob olf bb od ow bi : Nat → Int32) (nb j : Nat) : narrow .char (.int (laR cap clr tb tf ts hom now bad ob olf bb od ow bi nb j)) = .int (laR cap clr tb tf ts hom now bad ob olf bb od ow bi nb j) := nar_ite (la_ch ..) rfl
theorem shR_ch (cap hom now : Int32) (bad : Bool) (ob olf ow ol bw bl bi bb : Nat → Int32) (nb j k : Nat) : narrow .char (.int (shR cap hom now bad ob olf ow ol bw bl bi bb nb j k)) = .int (shR cap hom now bad ob olf ow ol bw bl bi bb nb j k) := nar_ite (sb_ch ..) rfl
def cbC (no : Nat) (ob : Nat → Int32) (b : Int32) : Nat := if inB b no = true then (if ob (nN b) = -2 then 0 else 2) else 1
def nwC (no : Nat) (ob ork ow : Nat → Int32) : Nat := if fW ob ork ow no = 0 then 1 else 0
def stF (ob : Nat → Int32) (j : Nat) : Int32 := if ob j = -1 then 119 else if ob j = -2 then 97 else 98
def beC (no nb : Nat) (ob : Nat → Int32) (b : Int32) : Nat := if inB b no = true then (if inB (ob (nN b)) nb = true then 0 else 2) else 1
def bnC (nb : Nat) (bb : Nat → Int32) (k : Int32) : Nat := if inB k nb = true then (if bb (nN k) = -1 then 2 else 0) else 1
def paC (no nb : Nat) (bad : Bool) (ob olf : Nat → Int32) (b h : Int32) : Nat := if inB b no = true then (if outR h 4 48 = false then (if inB (ob (nN b)) nb = true ∧ ¬ 0 < olf (nN b) ∧ bad = false then 0 else 3) else 2) else 1
def psC (t : Nat) (h : Int32) : Nat := if outR h 1 336 = false then (if t + nN h ≤ 9999 then 0 else 1) else 1
/-- the coats behind k hours -/
def pdF (wf wt : Nat → Int32) (nw no t : Nat) (olf : Nat → Int32) : Nat → (Nat → Int32)
  | 0 => olf
  | k + 1 => if badF wf wt nw (nI (t + k)) = true then pdF wf wt nw no t olf k else dry1 (pdF wf wt nw no t olf k) no
/-- an hour-by-hour count of good hours -/
def dryG (bad : Nat → Bool) : Nat → Nat → Nat → Nat
  | 0, _, h => h
  | f + 1, L, h => if L = 0 then h else dryG bad f (if bad h then L else L - 1) (h + 1)
theorem ff_at {p : Nat → Bool} {k n : Nat} (hk : k < n) (h : ∀ i, i < k → p i = false) (hp : p k = true) : fa_first p n = k := by
  rcases Nat.lt_trichotomy (fa_first p n) k with q | q | q
  · have h1 := fa_first_yes p n (by omega)
    rw [h _ q] at h1
    cases h1
  · exact q
  · have h1 := fa_first_no p n k q
    rw [hp] at h1
    cases h1
theorem nf_at {tb tf ts clr : Int32} {wf wt : Nat → Int32} {nw : Nat} {od : Nat → Int32} {j t k : Nat} (hk : k < 401) (h : ∀ i, i < k → (fun k => !badF wf wt nw (nI (t + k)) && enW tb tf ts clr od j (nI (t + k))) i = false)
    (hp : (!badF wf wt nw (nI (t + k)) && enW tb tf ts clr od j (nI (t + k))) = true) : nfK tb tf ts clr wf wt nw od j t = k := ff_at hk h hp
theorem nf_none {tb tf ts clr : Int32} {wf wt : Nat → Int32} {nw : Nat} {od : Nat → Int32} {j t : Nat} (h : ∀ i, i < 401 → (fun k => !badF wf wt nw (nI (t + k)) && enW tb tf ts clr od j (nI (t + k))) i = false) : ¬ nfK tb tf ts clr wf wt nw od j t < 401 := fun q => by
  have h1 := fa_first_yes _ 401 q
  exact absurd ((h _ q).symm.trans h1) (by decide)
theorem im_nI {m d : Nat} (hm : m < 2 ^ 31) (h0 : 0 < d) (hd : d < 2 ^ 31) : im (nI m) (nI d) = nI (m % d) := pk_rem hm h0 hd
theorem lev_period (tb tf ts : Int32) {m : Nat} (hm : m + 300 < 2 ^ 31) : lev tb tf ts (nI (300 + m)) = lev tb tf ts (nI m) := by
  have e1 : im (nI (300 + m)) 12 = im (nI m) 12 := by
    show im (nI (300 + m)) (nI 12) = im (nI m) (nI 12)
    rw [im_nI (by omega) (by decide) (by decide), im_nI (by omega) (by decide) (by decide), show (300 + m) % 12 = m % 12 by omega]
  have e2 : im (nI (300 + m)) 25 = im (nI m) 25 := by
    show im (nI (300 + m)) (nI 25) = im (nI m) (nI 25)
    rw [im_nI (by omega) (by decide) (by decide), im_nI (by omega) (by decide) (by decide), show (300 + m) % 25 = m % 25 by omega]
  unfold lev
  rw [e1, e2]
theorem ct_period {p : Nat → Bool} {d N : Nat} (h : ∀ k, k < N → p (d + k) = p k) : ∀ q r : Nat, d * q + r ≤ N → fb_ct p (d * q + r) = q * fb_ct p d + fb_ct p r
  | 0, r, _ => by rw [Nat.mul_zero, Nat.zero_add, Nat.zero_mul, Nat.zero_add]
  | q + 1, r, hN => by
    have e : d * (q + 1) + r = d + (d * q + r) := by rw [Nat.mul_succ]; omega
    have hl : d * q + r ≤ N := by rw [e] at hN; omega
    rw [e, fb_ct_split, fb_ct_cong (q := p) (fun k hk => h k (by omega)), ct_period h q r hl, Nat.succ_mul]
    omega
theorem fl_period {tb tf ts clr : Int32} {od : Nat → Int32} {j t n : Nat} (ht : t ≤ 9999) (hn : n ≤ 5000) :
    nI (n / 300 * fb_ct (fun k => enW tb tf ts clr od j (nI (t + k))) 300 + fb_ct (fun k => enW tb tf ts clr od j (nI (t + k))) (n % 300)) = nI (fb_ct (fun k => enW tb tf ts clr od j (nI (t + k))) n) := by
  have h := ct_period (p := fun k => enW tb tf ts clr od j (nI (t + k))) (d := 300) (N := 6000) (fun k hk => by
    show enW tb tf ts clr od j (nI (t + (300 + k))) = enW tb tf ts clr od j (nI (t + k))
    unfold enW
    rw [show t + (300 + k) = 300 + (t + k) by omega, lev_period _ _ _ (by omega)]) (n / 300) (n % 300) (by omega)
  rw [← h, Nat.div_add_mod]
