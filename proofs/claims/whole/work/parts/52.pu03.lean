theorem pop4 {c0 c1 c2 c3 c4 c5 c6 c7 : Nat} (h0 : c0 ≤ 8) (h1 : c1 ≤ 8) (x x4 : Nat) (hx : x = vl [c0, c1, c2, c3, c4, c5, c6, c7]) (e4 : x4 = x + x / 256) : x4 = vl [c0 + c1, c1 + c2, c2 + c3, c3 + c4, c4 + c5, c5 + c6, c6 + c7, c7] := by
  simp only [vl] at hx ⊢
  obtain ⟨m, hm⟩ : ∃ m, m = c1 + 256 * (c2 + 256 * (c3 + 256 * (c4 + 256 * (c5 + 256 * (c6 + 256 * (c7 + 256 * 0)))))) := ⟨_, rfl⟩
  rw [← hm] at hx
  have : x / 256 = m := by clear hm; omega
  omega
theorem pop5 {c0 c1 c2 c3 c4 c5 c6 c7 : Nat} (h0 : c0 ≤ 16) (h1 : c1 ≤ 16) (x x4 : Nat) (hx : x = vl [c0, c1, c2, c3, c4, c5, c6, c7]) (e4 : x4 = x + x / 65536) : x4 = vl [c0 + c2, c1 + c3, c2 + c4, c3 + c5, c4 + c6, c5 + c7, c6, c7] := by
  simp only [vl] at hx ⊢
  obtain ⟨m, hm⟩ : ∃ m, m = c2 + 256 * (c3 + 256 * (c4 + 256 * (c5 + 256 * (c6 + 256 * (c7 + 256 * 0))))) := ⟨_, rfl⟩
  rw [← hm] at hx
  have : x / 65536 = m := by clear hm; omega
  omega
theorem pop6 {c0 c1 c2 c3 c4 c5 c6 c7 : Nat} (h0 : c0 ≤ 32) (h1 : c1 ≤ 32) (h2 : c2 ≤ 32) (h3 : c3 ≤ 32) (x x4 : Nat) (hx : x = vl [c0, c1, c2, c3, c4, c5, c6, c7]) (e4 : x4 = x + x / 4294967296) : x4 = vl [c0 + c4, c1 + c5, c2 + c6, c3 + c7, c4, c5, c6, c7] := by
  simp only [vl] at hx ⊢
  obtain ⟨m, hm⟩ : ∃ m, m = c4 + 256 * (c5 + 256 * (c6 + 256 * (c7 + 256 * 0))) := ⟨_, rfl⟩
  rw [← hm] at hx
  have : x / 4294967296 = m := by clear hm; omega
  omega
theorem vl_lt : ∀ l : List Nat, (∀ b ∈ l, b < 256) → vl l < 256 ^ l.length := by
  intro l
  induction l with
  | nil => intro _; decide
  | cons b l ih =>
    intro h
    have hb := h b List.mem_cons_self
    have ih := ih (fun x hx => h x (List.mem_cons_of_mem _ hx))
    show b + 256 * vl l < 256 ^ (l.length + 1)
    rw [Nat.pow_succ]
    omega
theorem vl_lt8 {a b c d e f g h : Nat} (h1 : a < 256) (h2 : b < 256) (h3 : c < 256) (h4 : d < 256) (h5 : e < 256) (h6 : f < 256) (h7 : g < 256) (h8 : h < 256) : vl [a, b, c, d, e, f, g, h] < 18446744073709551616 := by
  have h9 := vl_lt [a, b, c, d, e, f, g, h] (by
    intro x hx
    simp only [List.mem_cons, List.not_mem_nil, or_false] at hx
    rcases hx with rfl | rfl | rfl | rfl | rfl | rfl | rfl | rfl <;> assumption)
  exact Nat.lt_of_lt_of_le h9 (by show 256 ^ 8 ≤ _; decide)
/-- an Int64 as a number -/
def uN (x : Int64) : Nat := x.toBitVec.toNat
theorem uN_lt (x : Int64) : uN x < 18446744073709551616 := x.toBitVec.isLt
theorem uN_and (x y : Int64) : uN (x &&& y) = (uN x &&& uN y) := by unfold uN; rw [Int64.toBitVec_and, BitVec.toNat_and]
theorem uN_add (x y : Int64) : uN (x + y) = (uN x + uN y) % 18446744073709551616 := by unfold uN; rw [Int64.toBitVec_add, BitVec.toNat_add]
theorem uN_sub {x y : Int64} (h : uN y ≤ uN x) : uN (x - y) = uN x - uN y := by
  unfold uN at h ⊢; rw [Int64.toBitVec_sub, BitVec.toNat_sub_of_le (by rw [BitVec.le_def]; exact h)]
theorem uN_ush (x : Int64) {k : Nat} (hk : k < 64) : uN (x.toUInt64 >>> ((nI k).toInt64.toUInt64 &&& Int64.toUInt64 63)).toInt64 = uN x / 2 ^ k := by
  unfold uN
  rw [UInt64.toBitVec_toInt64, UInt64.toBitVec_shiftRight, BitVec.ushiftRight_eq', sh_u k hk, BitVec.toNat_ushiftRight, Nat.shiftRight_eq_div_pow]
  rfl
/-- how many bits -/
def pcN (n : Nat) : Nat := ((by8 n).map pc8).foldr (· + ·) 0
theorem fBc_pc (x : Int64) : fBc x = nI (pcN (uN x)) := by
  obtain ⟨n, hn⟩ : ∃ n, n = uN x := ⟨_, rfl⟩
  have hlt := uN_lt x
  rw [← hn] at hlt ⊢
  unfold fBc
  obtain ⟨x1, h1⟩ : ∃ y, y = x - ((x.toUInt64 >>> ((1 : Int32).toInt64.toUInt64 &&& Int64.toUInt64 63)).toInt64 &&& 6148914691236517205) := ⟨_, rfl⟩
  have u1 : uN x1 = n - (n / 2 &&& 6148914691236517205) := by
    have e : uN ((x.toUInt64 >>> ((1 : Int32).toInt64.toUInt64 &&& Int64.toUInt64 63)).toInt64 &&& 6148914691236517205) = (n / 2 &&& 6148914691236517205) := by
      rw [uN_and, show uN (x.toUInt64 >>> ((1 : Int32).toInt64.toUInt64 &&& Int64.toUInt64 63)).toInt64 = uN x / 2 ^ 1 from uN_ush x (k := 1) (by decide), ← hn]; rfl
    rw [h1, uN_sub (by rw [e, ← hn]; exact Nat.le_trans Nat.and_le_left (Nat.div_le_self _ _)), e, ← hn]
  simp only [← h1]
  have hp := pop3 hlt
  rw [← u1] at hp
  obtain ⟨x2, h2⟩ : ∃ y, y = (x1 &&& 3689348814741910323) + ((x1.toUInt64 >>> ((2 : Int32).toInt64.toUInt64 &&& Int64.toUInt64 63)).toInt64 &&& 3689348814741910323) := ⟨_, rfl⟩
  have u2 : uN x2 = (uN x1 &&& 3689348814741910323) + (uN x1 / 4 &&& 3689348814741910323) := by
    rw [h2, uN_add, uN_and, uN_and, show uN (x1.toUInt64 >>> ((2 : Int32).toInt64.toUInt64 &&& Int64.toUInt64 63)).toInt64 = uN x1 / 2 ^ 2 from uN_ush x1 (k := 2) (by decide)]
    have a1 : (uN x1 &&& uN 3689348814741910323) ≤ 3689348814741910323 := Nat.and_le_right
    have a2 : (uN x1 / 2 ^ 2 &&& uN 3689348814741910323) ≤ 3689348814741910323 := Nat.and_le_right
    exact Nat.mod_eq_of_lt (by omega)
  simp only [← h2]
  rw [← u2] at hp
  obtain ⟨x3, h3⟩ : ∃ y, y = (x2 + (x2.toUInt64 >>> ((4 : Int32).toInt64.toUInt64 &&& Int64.toUInt64 63)).toInt64) &&& 1085102592571150095 := ⟨_, rfl⟩
  have b2 : uN x2 ≤ 3689348814741910323 + 3689348814741910323 := by
    rw [u2]
    have a1 : (uN x1 &&& 3689348814741910323) ≤ 3689348814741910323 := Nat.and_le_right
    have a2 : (uN x1 / 4 &&& 3689348814741910323) ≤ 3689348814741910323 := Nat.and_le_right
    omega
  have u3 : uN x3 = vl ((by8 n).map pc8) := by
    rw [h3, uN_and, uN_add, show uN (x2.toUInt64 >>> ((4 : Int32).toInt64.toUInt64 &&& Int64.toUInt64 63)).toInt64 = uN x2 / 2 ^ 4 from uN_ush x2 (k := 4) (by decide), Nat.mod_eq_of_lt (by omega)]
    exact hp
  simp only [← h3]
  clear hp u2 u1 h1 h2 h3 b2
  have q := fun b hb => (p8 b (by8_lt (n := n) b hb)).2.2.2.2.2
  unfold by8 at u3 q
  simp only [List.map] at u3
  have q0 := q _ (List.mem_of_getElem? (i := 0) rfl)
  have q1 := q _ (List.mem_of_getElem? (i := 1) rfl)
  have q2 := q _ (List.mem_of_getElem? (i := 2) rfl)
  have q3 := q _ (List.mem_of_getElem? (i := 3) rfl)
  have q4 := q _ (List.mem_of_getElem? (i := 4) rfl)
  have q5 := q _ (List.mem_of_getElem? (i := 5) rfl)
  have q6 := q _ (List.mem_of_getElem? (i := 6) rfl)
  have q7 := q _ (List.mem_of_getElem? (i := 7) rfl)
  clear q
  unfold pcN by8
  simp only [List.map, List.foldr]
  generalize pc8 (n % 256) = c0 at u3 q0 ⊢
  generalize pc8 (n / 256 % 256) = c1 at u3 q1 ⊢
  generalize pc8 (n / 65536 % 256) = c2 at u3 q2 ⊢
  generalize pc8 (n / 16777216 % 256) = c3 at u3 q3 ⊢
  generalize pc8 (n / 4294967296 % 256) = c4 at u3 q4 ⊢
  generalize pc8 (n / 1099511627776 % 256) = c5 at u3 q5 ⊢
  generalize pc8 (n / 281474976710656 % 256) = c6 at u3 q6 ⊢
  generalize pc8 (n / 72057594037927936 % 256) = c7 at u3 q7 ⊢
  have w4 := pop4 q0 q1 _ _ u3 rfl
  have l4 := vl_lt8 (a := c0 + c1) (b := c1 + c2) (c := c2 + c3) (d := c3 + c4) (e := c4 + c5) (f := c5 + c6) (g := c6 + c7) (h := c7) (by omega) (by omega) (by omega) (by omega) (by omega) (by omega) (by omega) (by omega)
  have w5 := pop5 (by omega) (by omega) _ _ w4 rfl
  have l5 := vl_lt8 (a := c0 + c1 + (c2 + c3)) (b := c1 + c2 + (c3 + c4)) (c := c2 + c3 + (c4 + c5)) (d := c3 + c4 + (c5 + c6)) (e := c4 + c5 + (c6 + c7)) (f := c5 + c6 + c7) (g := c6 + c7) (h := c7) (by omega) (by omega) (by omega) (by omega) (by omega) (by omega) (by omega) (by omega)
  have w6 := pop6 (by omega) (by omega) (by omega) (by omega) _ _ w5 rfl
  have l6 := vl_lt8 (a := c0 + c1 + (c2 + c3) + (c4 + c5 + (c6 + c7))) (b := c1 + c2 + (c3 + c4) + (c5 + c6 + c7)) (c := c2 + c3 + (c4 + c5) + (c6 + c7)) (d := c3 + c4 + (c5 + c6) + c7) (e := c4 + c5 + (c6 + c7)) (f := c5 + c6 + c7) (g := c6 + c7) (h := c7) (by omega) (by omega) (by omega) (by omega) (by omega) (by omega) (by omega) (by omega)
  obtain ⟨x4, h4⟩ : ∃ y, y = x3 + (x3.toUInt64 >>> ((8 : Int32).toInt64.toUInt64 &&& Int64.toUInt64 63)).toInt64 := ⟨_, rfl⟩
  have u4 : uN x4 = uN x3 + uN x3 / 256 := by
    rw [h4, uN_add, show uN (x3.toUInt64 >>> ((8 : Int32).toInt64.toUInt64 &&& Int64.toUInt64 63)).toInt64 = uN x3 / 2 ^ 8 from uN_ush x3 (k := 8) (by decide)]
    exact Nat.mod_eq_of_lt (by rw [show (2 : Nat) ^ 8 = 256 from rfl, w4]; exact l4)
  simp only [← h4]
  rw [← u4] at w5 w6
  obtain ⟨x5, h5⟩ : ∃ y, y = x4 + (x4.toUInt64 >>> ((16 : Int32).toInt64.toUInt64 &&& Int64.toUInt64 63)).toInt64 := ⟨_, rfl⟩
  have u5 : uN x5 = uN x4 + uN x4 / 65536 := by
    rw [h5, uN_add, show uN (x4.toUInt64 >>> ((16 : Int32).toInt64.toUInt64 &&& Int64.toUInt64 63)).toInt64 = uN x4 / 2 ^ 16 from uN_ush x4 (k := 16) (by decide)]
    exact Nat.mod_eq_of_lt (by rw [show (2 : Nat) ^ 16 = 65536 from rfl, w5]; exact l5)
  simp only [← h5]
  rw [← u5] at w6
  obtain ⟨x6, h6⟩ : ∃ y, y = x5 + (x5.toUInt64 >>> ((32 : Int32).toInt64.toUInt64 &&& Int64.toUInt64 63)).toInt64 := ⟨_, rfl⟩
  have u6 : uN x6 = uN x5 + uN x5 / 4294967296 := by
    rw [h6, uN_add, show uN (x5.toUInt64 >>> ((32 : Int32).toInt64.toUInt64 &&& Int64.toUInt64 63)).toInt64 = uN x5 / 2 ^ 32 from uN_ush x5 (k := 32) (by decide)]
    exact Nat.mod_eq_of_lt (by rw [show (2 : Nat) ^ 32 = 4294967296 from rfl, w6]; exact l6)
  simp only [← h6]
  rw [← u6] at w6
  have fin : uN x6 % 128 = c0 + (c1 + (c2 + (c3 + (c4 + (c5 + (c6 + (c7 + 0))))))) := by
    rw [w6]
    show (c0 + c1 + (c2 + c3) + (c4 + c5 + (c6 + c7)) + 256 * _) % 128 = _
    omega
  rw [← fin]
  apply Int32.toBitVec_inj.mp
  apply BitVec.eq_of_toNat_eq
  rw [Int32.toBitVec_and, BitVec.toNat_and, Int64.toBitVec_toInt32, BitVec.signExtend_eq_setWidth_of_le _ (by decide)]
  show (x6.toBitVec.setWidth 32).toNat &&& 127 = (BitVec.ofNat 32 (uN x6 % 128)).toNat
  rw [BitVec.toNat_setWidth, BitVec.toNat_ofNat, show (127 : Nat) = 2 ^ 7 - 1 from rfl, Nat.and_two_pow_sub_one_eq_mod]
  show uN x6 % 2 ^ 32 % 2 ^ 7 = uN x6 % 128 % 2 ^ 32
  omega
