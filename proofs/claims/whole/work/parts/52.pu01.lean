/-! THE CLASS'S MASKS, bit by bit. -/
def bt (x : Int64) (i : Nat) : Bool := x.toBitVec.getLsbD i
theorem bt_ext {x y : Int64} (h : ∀ i, i < 64 → bt x i = bt y i) : x = y := Int64.toBitVec_inj.mp (BitVec.eq_of_getLsbD_eq (fun i hi => h i hi))
theorem bt_or (x y : Int64) (i : Nat) : bt (x ||| y) i = (bt x i || bt y i) := by unfold bt; rw [Int64.toBitVec_or, BitVec.getLsbD_or]
theorem bt_and (x y : Int64) (i : Nat) : bt (x &&& y) i = (bt x i && bt y i) := by unfold bt; rw [Int64.toBitVec_and, BitVec.getLsbD_and]
theorem bt_xor (x y : Int64) (i : Nat) : bt (x ^^^ y) i = (bt x i ^^ bt y i) := by unfold bt; rw [Int64.toBitVec_xor, BitVec.getLsbD_xor]
theorem bt_big {x : Int64} {i : Nat} (h : 64 ≤ i) : bt x i = false := BitVec.getLsbD_of_ge _ _ h
theorem bt_m1 : ∀ i, i < 64 → bt (-1) i = true := by decide +kernel
theorem bt_not {x : Int64} {i : Nat} (h : i < 64) : bt (x ^^^ (-1)) i = !bt x i := by rw [bt_xor, bt_m1 i h]; cases bt x i <;> rfl
theorem bt_0 (i : Nat) : bt 0 i = false := by unfold bt; exact BitVec.getLsbD_zero
theorem bt_lt {x : Int64} {i : Nat} (h : bt x i = true) : i < 64 := by
  rcases Nat.lt_or_ge i 64 with q | q
  · exact q
  · rw [bt_big q] at h; cases h
theorem bt_an {x y : Int64} {i : Nat} : bt (x &&& (y ^^^ (-1))) i = (bt x i && !bt y i) := by
  rcases Nat.lt_or_ge i 64 with q | q
  · rw [bt_and, bt_not q]
  · rw [bt_big q, bt_big q]; rfl
theorem eq0_bt {x : Int64} : x = 0 ↔ ∀ i, i < 64 → bt x i = false :=
  ⟨fun h i _ => by rw [h]; exact bt_0 i, fun h => bt_ext (fun i hi => by rw [h i hi, bt_0])⟩
theorem ne0_bt {x : Int64} : ¬ x = 0 ↔ ∃ i, i < 64 ∧ bt x i = true := by
  constructor
  · intro h
    by_cases q : ∃ i, i < 64 ∧ bt x i = true
    · exact q
    · refine absurd (eq0_bt.mpr (fun i hi => ?_)) h
      cases e : bt x i
      · rfl
      · exact absurd ⟨i, hi, e⟩ q
  · rintro ⟨i, hi, h⟩ rfl
    rw [bt_0] at h; cases h
theorem sh_c : ∀ k, k < 64 → (((nI k).toInt64 &&& 63).toBitVec.smod 64).toNat = k := by decide +kernel
theorem sh_u : ∀ k, k < 64 → (((nI k).toInt64.toUInt64 &&& Int64.toUInt64 63).toBitVec % 64).toNat = k := by decide +kernel
theorem bt_shl {x : Int64} {k i : Nat} (hk : k < 64) (hi : i < 64) : bt (x <<< ((nI k).toInt64 &&& 63)) i = (decide (k ≤ i) && bt x (i - k)) := by
  unfold bt
  rw [Int64.toBitVec_shiftLeft, BitVec.shiftLeft_eq', sh_c k hk, BitVec.getLsbD_shiftLeft]
  by_cases h : k ≤ i
  · rw [show decide (i < 64) = true from decide_eq_true hi, show decide (i < k) = false from decide_eq_false (by omega), show decide (k ≤ i) = true from decide_eq_true h]; simp
  · rw [show decide (i < k) = true from decide_eq_true (by omega), show decide (k ≤ i) = false from decide_eq_false h]; simp
theorem bt_ushr {x : Int64} {k i : Nat} (hk : k < 64) : bt (fUshr x (nI k)) i = bt x (k + i) := by
  unfold bt fUshr
  rw [UInt64.toBitVec_toInt64, UInt64.toBitVec_shiftRight, BitVec.ushiftRight_eq', sh_u k hk, BitVec.getLsbD_ushiftRight]
  rfl
theorem only_bv : ∀ k, k < 64 → (fOnly (nI k)).toBitVec = BitVec.twoPow 64 k := by decide +kernel
theorem bt_only {k i : Nat} (hk : k < 64) : bt (fOnly (nI k)) i = decide (i = k) := by
  unfold bt
  rw [only_bv k hk, BitVec.getLsbD_twoPow]
  by_cases h : k = i
  · subst h; simp [hk]
  · rw [show decide (k = i) = false from decide_eq_false h, show decide (i = k) = false from decide_eq_false (fun q => h q.symm)]; simp
theorem holds_bt {x : Int64} {k : Nat} (hk : k < 64) : fHolds x (nI k) = bt x k := by
  unfold fHolds
  cases h : bt x k
  · refine decide_eq_false (fun q => q (eq0_bt.mpr (fun i hi => ?_)))
    rw [bt_and, bt_only hk]
    by_cases e : i = k
    · subst e; rw [h]; rfl
    · rw [decide_eq_false e]; cases bt x i <;> rfl
  · refine decide_eq_true (fun q => ?_)
    have := eq0_bt.mp q k hk
    rw [bt_and, bt_only hk, h] at this
    simp at this
