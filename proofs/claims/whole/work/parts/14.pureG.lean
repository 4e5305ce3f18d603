/-! What the methods of Grid, State, StepLog answer, as functions. -/
def fHasCell (cc c : Int32) : Bool := decide (¬ c < 0) && decide (¬ cc ≤ c)
def fHasEdge (en : Int32) (r b : Int64) (a : Int32) : Bool := decide (¬ a < 0) && (decide (¬ en ≤ a) && fHas r b a)
def fGreater (w a : Int32) : Int32 := fLess a + (if fBelow a then w else 1)
def fEdgeNo (w c d : Int32) : Int32 := if d = 0 then 2 * (c - w) + 1 else if d = 1 then 2 * c else if d = 2 then 2 * c + 1 else 2 * (c - 1)
def fEdgeOf (w en : Int32) (r b : Int64) (c d : Int32) : Int32 := if fHasEdge en r b (fEdgeNo w c d) then fEdgeNo w c d else -1
def fCol (w x : Int32) (h : Nat) : Nat → Int64 → Int64
  | 0, z => z
  | k + 1, z => fCol w x h k (z ||| fOnly (w * nI (h - (k + 1)) + x))
def fRow (w y : Int32) (h : Nat) : Nat → Int64 → Int64
  | 0, z => z
  | k + 1, z => fRow w y h k (z ||| fOnly (w * y + nI (h - (k + 1))))
def fState (r b r2 b2 : Int64) (a : Int32) : Int32 := if fHas r b a then 1 else if fHas r2 b2 a then 2 else 0
def fTri (x y : Int64) (c : Int32) : Int32 := if fHolds x c then 1 else if fHolds y c then 2 else 0
def fMu (mu : Int64) (c d : Int32) : Int64 := if d = 1 then (mu &&& (fOnly c ^^^ (-1))) ||| fOnly c else mu &&& (fOnly c ^^^ (-1))
def fBa (ba : Int64) (c d : Int32) : Int64 := if d = 1 then ba &&& (fOnly c ^^^ (-1)) else if d = 2 then (ba &&& (fOnly c ^^^ (-1))) ||| fOnly c else ba &&& (fOnly c ^^^ (-1))
def fHasStep (ct : Int32) (n : Nat) (k : Int32) : Bool := decide (¬ k < 0) && (decide (¬ ct ≤ k) && decide (¬ nI n ≤ k))
def fNumberOf (ct : Int32) (n : Nat) (f : Nat → Int32) (k : Int32) : Int32 := if fHasStep ct n k then f k.toNatClampNeg else -1
def fStart (n : Nat) (ce : Nat → Int32) (k : Int32) : Int32 := if k ≤ 0 then 0 else if nI n < k then 0 else ce (k - 1).toNatClampNeg
def fChanges (ct : Int32) (n : Nat) (ce : Nat → Int32) (k : Int32) : Int32 := if fHasStep ct n k then ce k.toNatClampNeg - fStart n ce k else 0
def fChange (ct : Int32) (n mm : Nat) (ce ch : Nat → Int32) (k j : Int32) : Int32 :=
  if j < 0 then -1 else if j < fChanges ct n ce k then (if fStart n ce k + j < 0 then -1 else if nI mm ≤ fStart n ce k + j then -1 else ch (fStart n ce k + j).toNatClampNeg) else -1
def fHasCh (ct : Int32) (n mm : Nat) (ce ch : Nat → Int32) (k th : Int32) : Nat → Nat → Bool
  | 0, _ => false
  | f + 1, j => if fChange ct n mm ce ch k (nI j) >>> ((1 : Int32) &&& 31) = th then true else fHasCh ct n mm ce ch k th f (j + 1)
def fHasChanged (ct : Int32) (n mm : Nat) (ce ch : Nat → Int32) (k th : Int32) : Bool := fHasCh ct n mm ce ch k th (fChanges ct n ce k).toNatClampNeg 0
def fStepTh (ct : Int32) (n mm : Nat) (nu ce ch : Nat → Int32) (th : Int32) (sh : Bool) : Nat → Nat → Int32
  | 0, _ => -1
  | f + 1, j => if decide (¬ fNumberOf ct n nu (nI j) < 10) = sh ∧ fHasChanged ct n mm ce ch (nI j) th = true then nI j else fStepTh ct n mm nu ce ch th sh f (j + 1)
theorem in_of {x : Int32} {n : Nat} (hn : n < 2 ^ 31) (h0 : ¬ x < 0) (h : ¬ nI n ≤ x) : vp_in x n := by
  rw [vp_in_iff]
  have h1 : ¬ x.toInt < 0 := fun q => h0 (Int32.lt_iff_toInt_lt.mpr (by simpa using q))
  have h2 : ¬ (nI n).toInt ≤ x.toInt := fun q => h (Int32.le_iff_toInt_le.mpr q)
  rw [nI_toInt hn] at h2
  omega
theorem in_hasStep {ct : Int32} {n : Nat} {k : Int32} (hn : n < 2 ^ 31) (h : fHasStep ct n k = true) : vp_in k n := by
  simp only [fHasStep, Bool.and_eq_true, decide_eq_true_eq] at h
  exact in_of hn h.1 h.2.2
theorem in_start {n : Nat} {k : Int32} (hn : n < 2 ^ 31) (h0 : ¬ k ≤ 0) (h : ¬ nI n < k) : vp_in (k - 1) n := by
  have h1 : ¬ k.toInt ≤ 0 := fun q => h0 (Int32.le_iff_toInt_le.mpr (by simpa using q))
  have h2 : ¬ (nI n).toInt < k.toInt := fun q => h (Int32.lt_iff_toInt_lt.mpr q)
  rw [nI_toInt hn] at h2
  obtain ⟨j, hj, rfl⟩ : ∃ j : Nat, j < n ∧ k = nI (j + 1) := ⟨k.toInt.toNat - 1, by omega, Int32.toInt_inj.mp (by rw [nI_toInt (by omega)]; omega)⟩
  rw [nI_pred]
  exact vp_in_nI hj hn
theorem clamp_le {x : Int32} {j : Nat} (h : x.toNatClampNeg ≤ j) (hj : j < 2 ^ 31) : x ≤ nI j := by
  rw [Int32.le_iff_toInt_le, nI_toInt hj]
  have : x.toInt ≤ (x.toNatClampNeg : Int) := by unfold Int32.toNatClampNeg; omega
  omega
theorem clamp_gt {x : Int32} {j : Nat} (hj : j < 2 ^ 31) (h : ¬ x ≤ nI j) : j < x.toNatClampNeg := by
  rcases Nat.lt_or_ge j x.toNatClampNeg with q | q
  · exact q
  · exact absurd (clamp_le q hj) h
theorem clamp_lt (x : Int32) : x.toNatClampNeg < 2 ^ 31 := by
  have h := x.toInt_lt
  unfold Int32.toNatClampNeg
  omega
