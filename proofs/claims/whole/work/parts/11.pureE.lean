/-! What the class's smallest methods answer, as functions. -/
def fOnly (c : Int32) : Int64 := 1 <<< (c.toInt64 &&& 63)
def fHolds (x : Int64) (c : Int32) : Bool := decide (¬ x &&& fOnly c = 0)
def fBc (x0 : Int64) : Int32 :=
  let x1 := x0 - ((x0.toUInt64 >>> ((1 : Int32).toInt64.toUInt64 &&& Int64.toUInt64 63)).toInt64 &&& 6148914691236517205)
  let x2 := (x1 &&& 3689348814741910323) + ((x1.toUInt64 >>> ((2 : Int32).toInt64.toUInt64 &&& Int64.toUInt64 63)).toInt64 &&& 3689348814741910323)
  let x3 := (x2 + (x2.toUInt64 >>> ((4 : Int32).toInt64.toUInt64 &&& Int64.toUInt64 63)).toInt64) &&& 1085102592571150095
  let x4 := x3 + (x3.toUInt64 >>> ((8 : Int32).toInt64.toUInt64 &&& Int64.toUInt64 63)).toInt64
  let x5 := x4 + (x4.toUInt64 >>> ((16 : Int32).toInt64.toUInt64 &&& Int64.toUInt64 63)).toInt64
  let x6 := x5 + (x5.toUInt64 >>> ((32 : Int32).toInt64.toUInt64 &&& Int64.toUInt64 63)).toInt64
  x6.toInt32 &&& 127
def fLeast (x : Int64) : Int32 := fBc ((x &&& -x) - 1)
def fBelow (e : Int32) : Bool := decide (¬ e &&& 1 = 0)
def fLess (e : Int32) : Int32 := e >>> ((1 : Int32) &&& 31)
def fHas (r b : Int64) (e : Int32) : Bool := fHolds (if fBelow e then b else r) (fLess e)
def fLeft (r : Int64) : Int64 := r <<< ((1 : Int32).toInt64 &&& 63)
def fAbove (w : Int32) (b : Int64) : Int64 := b <<< (w.toInt64 &&& 63)
def fCount (w : Int32) (r b : Int64) (c : Int32) : Int32 := fBc (r &&& fOnly c) + fBc (fLeft r &&& fOnly c) + fBc (b &&& fOnly c) + fBc (fAbove w b &&& fOnly c)
def fOne (w : Int32) (r b : Int64) : Int64 := ((r ||| fLeft r) ||| b) ||| fAbove w b
def fTwo (w : Int32) (r b : Int64) : Int64 := ((r &&& fLeft r) ||| (b &&& fAbove w b)) ||| ((r ||| fLeft r) &&& (b ||| fAbove w b))
def fThree (w : Int32) (r b : Int64) : Int64 := ((r &&& fLeft r) &&& (b ||| fAbove w b)) ||| ((b &&& fAbove w b) &&& (r ||| fLeft r))
def fUshr (x : Int64) (k : Int32) : Int64 := (x.toUInt64 >>> (k.toInt64.toUInt64 &&& Int64.toUInt64 63)).toInt64
def fSpread (w : Int32) (r b x : Int64) : Int64 := (((x ||| ((x &&& r) <<< ((1 : Int32).toInt64 &&& 63))) ||| (fUshr x 1 &&& r)) ||| ((x &&& b) <<< (w.toInt64 &&& 63))) ||| (fUshr x w &&& b)
def fReach (w : Int32) (r b : Int64) : Nat → Int64 → Int64
  | 0, x => x
  | n + 1, x => if fSpread w r b x = x then x else fReach w r b n (fSpread w r b x)
def fJoins (w : Int32) (r b : Int64) (t : Int32) : Nat → Int64 → Bool
  | 0, x => fHolds x t
  | n + 1, x => if fHolds x t then true else if fSpread w r b x = x then false else fJoins w r b t n (fSpread w r b x)
theorem cmp0 {x y : Int64} : lg_cmp x y = 0 ↔ x = y := by
  unfold lg_cmp
  by_cases h : x = y
  · subst h; simp
  · by_cases h2 : y < x <;> simp [h, h2]
theorem lp_exit {k N : Nat} (h : k ≤ N) (hN : N < 2 ^ 31) (c : nI N ≤ nI (N - k)) : k = 0 := by
  rcases Nat.eq_zero_or_pos k with h0 | h0
  · exact h0
  · exact absurd c (nI_ge (by omega) hN)
theorem lp_go {k N : Nat} (hN : N < 2 ^ 31) (c : ¬ nI N ≤ nI (N - k)) : ∃ j, k = j + 1 := by
  rcases Nat.eq_zero_or_pos k with h0 | h0
  · subst h0; exact absurd (nI_le (Nat.le_refl _) hN) c
  · exact ⟨k - 1, by omega⟩
theorem lp_step {k N : Nat} (h : k + 1 ≤ N) : nI (N - (k + 1)) + 1 = nI (N - k) := by
  rw [nI_1]; congr 1; omega
theorem b2i_fit (b : Bool) : fits .boolean (.int (b2i b)) = true := by cases b <;> rfl
