/-! places: codes of arrangements, three bits a boat -/
def atE (c : Int32) (j : Nat) : Int32 := (c >>> (((3 : Int32) * nI j) &&& 31)) &&& 7
def putE (c : Int32) (j : Nat) (v : Int32) : Int32 := (c &&& (((7 : Int32) <<< (((3 : Int32) * nI j) &&& 31)) ^^^ (-1 : Int32))) ||| (v <<< (((3 : Int32) * nI j) &&& 31))
def ocA (pb c : Int32) : Nat → Int32
  | 0 => 0
  | k + 1 => if hoB pb (nI k) = true then ocA pb c k ||| ((1 : Int32) <<< (atE c k &&& 31)) else ocA pb c k
def nmI (pb c pm : Int32) : Nat → Int32 × Int32 × Int32
  | 0 => (0, 0, pm)
  | k + 1 => if hoB pb (nI k) = true then ((nmI pb c pm k).1 * (nmI pb c pm k).2.2 + atE c k - bcE ((nmI pb c pm k).2.1 &&& (((1 : Int32) <<< (atE c k &&& 31)) - (1 : Int32))), (nmI pb c pm k).2.1 ||| ((1 : Int32) <<< (atE c k &&& 31)), (nmI pb c pm k).2.2 + (-1 : Int32)) else nmI pb c pm k
theorem nmI_1 {pb c pm : Int32} {k : Nat} (h : hoB pb (nI k) = true) : nmI pb c pm (k + 1) = ((nmI pb c pm k).1 * (nmI pb c pm k).2.2 + atE c k - bcE ((nmI pb c pm k).2.1 &&& (((1 : Int32) <<< (atE c k &&& 31)) - (1 : Int32))), (nmI pb c pm k).2.1 ||| ((1 : Int32) <<< (atE c k &&& 31)), (nmI pb c pm k).2.2 + (-1 : Int32)) := by rw [nmI, if_pos h]
theorem nmI_0 {pb c pm : Int32} {k : Nat} (h : hoB pb (nI k) = false) : nmI pb c pm (k + 1) = nmI pb c pm k := by rw [nmI, h, if_neg Bool.false_ne_true]
/-- what the call that tells a place does -/
def rchR (pcd pw pli : Nat → Int32) (nl : Nat) (nc w : Int32) (q : Nat) (pcd' pw' pli' : Nat → Int32) (nl' : Nat) (r : Bool) : Prop :=
  (¬ w < pw q ∧ r = false ∧ pcd' = pcd ∧ pw' = pw ∧ pli' = pli ∧ nl' = nl) ∨
  (w < pw q ∧ r = true ∧ pw' = upd pw q w ∧ ((pw q = 1000000 ∧ pcd' = upd pcd q nc ∧ pli' = upd pli nl (nI q) ∧ nl' = nl + 1) ∨ (pw q ≠ 1000000 ∧ pcd' = pcd ∧ pli' = pli ∧ nl' = nl)))
/-- the place with the least weight on the list -/
def tkR (pw pli : Nat → Int32) (nl i q : Nat) (pli' : Nat → Int32) : Prop :=
  i < nl ∧ pli i = nI q ∧ q < 720 ∧ (∀ k x, k < nl → pli k = nI x → x < 720 → pw q ≤ pw x) ∧ pli' = upd pli i (pli (nl - 1))
def clrC (pcd : Nat → Int32) (pb : Int32) (bi : Nat → Int32) (nb p j : Nat) : Bool := inB (atE (pcd p) j) nb && decide ((ocA pb (pcd p) 8 &&& bi (nN (atE (pcd p) j))) = 0)
theorem zn_holds : .methodLinkNest RX2 38 yX5_holds RX5 ∈ zNG := List.mem_append_left _ (List.mem_of_getElem? (i := 5) rfl)
section ZLB
variable {p : Program} {l : Launch} {e : Env} {R : Room} {s : State} {m : MethodId} {args : Array Value} {below : List Frame} {meth : Method} {c : Code} {H H0 : Heap} {locs : List Loc} {cells slots : Nat} {Qg : State → Prop}
  {D : va_G} {y : Nat → ClassId} {A : Nat → Prop} {cc : ByteArray} {pc : Nat} {ls : Array Slot} {rest : List Value} {own : String} {index : Nat} {a : Nat → Nat}
  {cap clr now hom mov : Int32} {wm : Int64} {tb tf ts wc : Int32} {wf wt : Nat → Int32} {bc : Int32} {bw bl bi bb : Nat → Int32} {oc : Int32} {od ow ol ork ob olf oco : Nat → Int32} {pn pb pm : Int32} {pcd pw pli : Nat → Int32}
theorem lB_pw (hx : p.tables.exec = Jvm.exec) (hb : c.code = cc) (hK : va_K D vwCl (zT y) s) (hP : va_P D vwCl (wB a y cap clr now hom mov wm tb tf ts wc wf wt bc bw bl bi bb oc od ow ol ork ob olf oco pn pb pm pcd pw pli) H) (hdg : decode cc pc = .ok (.arraylength, 1)) (kk : W p l e R s m args below meth c H locs cells slots Qg (F0 m (pc + 1) ls (.int (nI 720) :: rest))) : W p l e R s m args below meth c H locs cells slots Qg (F0 m pc ls (.ref (a 20) :: rest)) :=
  va_alen hx hb hK hP 20 0 rfl rfl (v := nI 720) rfl hdg kk
end ZLB
theorem fill_step (v : Int32) (pw : Nat → Int32) (k : Nat) : upd (fun j => if j < k then v else pw j) k v = fun j => if j < k + 1 then v else pw j := by
  funext j
  unfold upd
  by_cases h : j = k
  · rw [if_pos h, if_pos (by omega)]
  · rw [if_neg h]
    show (if j < k then v else pw j) = _
    by_cases h2 : j < k
    · rw [if_pos h2, if_pos (by omega)]
    · rw [if_neg h2, if_neg (by omega)]
theorem tk_keep {pw pli : Nat → Int32} {i k z y : Nat} (h : ∀ x z, x < k → pli x = nI z → z < 720 → ∀ u, pli i = nI u → u < 720 → pw u ≤ pw z) (ez : pli k = nI z) (hz : z < 720) (ey : pli i = nI y) (hy : y < 720) (hle : pw y ≤ pw z) :
    ∀ x z, x < k + 1 → pli x = nI z → z < 720 → ∀ u, pli i = nI u → u < 720 → pw u ≤ pw z := by
  intro x z1 hx hz1 hz7 u hu hu7
  rcases Nat.lt_or_ge x k with q | q
  · exact h x z1 q hz1 hz7 u hu hu7
  · obtain rfl : x = k := by omega
    rw [ez] at hz1
    rw [ey] at hu
    rw [← (nI_eq (by omega) (by omega)).mp hz1, ← (nI_eq (by omega) (by omega)).mp hu]
    exact hle
theorem tk_new {pw pli : Nat → Int32} {i k z y : Nat} (h : ∀ x z, x < k → pli x = nI z → z < 720 → ∀ u, pli i = nI u → u < 720 → pw u ≤ pw z) (ez : pli k = nI z) (hz : z < 720) (ey : pli i = nI y) (hy : y < 720) (hlt : pw z < pw y) :
    ∀ x z, x < k + 1 → pli x = nI z → z < 720 → ∀ u, pli k = nI u → u < 720 → pw u ≤ pw z := by
  intro x z1 hx hz1 hz7 u hu hu7
  rw [ez] at hu
  rw [← (nI_eq (by omega) (by omega)).mp hu]
  rcases Nat.lt_or_ge x k with q | q
  · exact Int32.le_of_lt (Int32.lt_of_lt_of_le hlt (h x z1 q hz1 hz7 y ey hy))
  · obtain rfl : x = k := by omega
    rw [ez] at hz1
    rw [← (nI_eq (by omega) (by omega)).mp hz1]
    exact Int32.le_refl _
