/-! THE COUNT OF BITS. -/
def p1 (b : Nat) : Nat := b - (b / 2 &&& 85)
def p2 (b : Nat) : Nat := (b &&& 51) + (b / 4 &&& 51)
def p3 (b : Nat) : Nat := (b + b / 16) &&& 15
def vl : List Nat → Nat
  | [] => 0
  | b :: l => b + 256 * vl l
def mk8 (p : Nat) : Nat → Nat
  | 0 => 0
  | k + 1 => p + 256 * mk8 p k
theorem and_split {a b c d : Nat} (ha : a < 256) (hc : c < 256) : (a + 256 * b) &&& (c + 256 * d) = (a &&& c) + 256 * (b &&& d) := by
  apply Nat.eq_of_testBit_eq
  intro i
  have hac : (a &&& c) < 256 := Nat.lt_of_le_of_lt Nat.and_le_left ha
  rw [Nat.testBit_and, Nat.add_comm a, Nat.add_comm c, Nat.add_comm (a &&& c), show (256 : Nat) = 2 ^ 8 from rfl, Nat.testBit_two_pow_mul_add _ (by simpa using ha), Nat.testBit_two_pow_mul_add _ (by simpa using hc), Nat.testBit_two_pow_mul_add _ (by simpa using hac)]
  split
  · rw [Nat.testBit_and]
  · rw [Nat.testBit_and]
theorem c85 : ∀ b, b < 256 → ∀ e, e < 2 → ((b / 2 + 128 * e) &&& 85) = (b / 2 &&& 85) := by decide +kernel
theorem c51 : ∀ b, b < 256 → ∀ e, e < 4 → ((b / 4 + 64 * e) &&& 51) = (b / 4 &&& 51) := by decide +kernel
theorem P1 : ∀ l : List Nat, (∀ b ∈ l, b < 256) → vl l - (vl l / 2 &&& mk8 85 l.length) = vl (l.map p1) := by
  intro l
  induction l with
  | nil => intro _; rfl
  | cons b l ih =>
    intro h
    have hb : b < 256 := h b List.mem_cons_self
    have ih := ih (fun x hx => h x (List.mem_cons_of_mem _ hx))
    have e1 : (b + 256 * vl l) / 2 = (b / 2 + 128 * (vl l % 2)) + 256 * (vl l / 2) := by omega
    show (b + 256 * vl l) - ((b + 256 * vl l) / 2 &&& (85 + 256 * mk8 85 l.length)) = p1 b + 256 * vl (l.map p1)
    rw [e1, and_split (by omega) (by decide), c85 b hb _ (Nat.mod_lt _ (by decide)), ← ih, p1]
    have h1 : (b / 2 &&& 85) ≤ b := Nat.le_trans Nat.and_le_left (Nat.div_le_self _ _)
    have h2 : (vl l / 2 &&& mk8 85 l.length) ≤ vl l := Nat.le_trans Nat.and_le_left (Nat.div_le_self _ _)
    omega
theorem P2 : ∀ l : List Nat, (∀ b ∈ l, b < 256) → (vl l &&& mk8 51 l.length) + (vl l / 4 &&& mk8 51 l.length) = vl (l.map p2) := by
  intro l
  induction l with
  | nil => intro _; rfl
  | cons b l ih =>
    intro h
    have hb : b < 256 := h b List.mem_cons_self
    have ih := ih (fun x hx => h x (List.mem_cons_of_mem _ hx))
    have e1 : (b + 256 * vl l) / 4 = (b / 4 + 64 * (vl l % 4)) + 256 * (vl l / 4) := by omega
    show ((b + 256 * vl l) &&& (51 + 256 * mk8 51 l.length)) + ((b + 256 * vl l) / 4 &&& (51 + 256 * mk8 51 l.length)) = p2 b + 256 * vl (l.map p2)
    rw [e1, and_split hb (by decide), and_split (by omega) (by decide), c51 b hb _ (Nat.mod_lt _ (by decide)), ← ih, p2]
    omega
theorem vl_mod : ∀ l : List Nat, (∀ b ∈ l, b < 256 ∧ b % 16 ≤ 4 ∧ b / 16 ≤ 4) → vl l % 16 ≤ 4 := by
  intro l h
  cases l with
  | nil => decide
  | cons b l =>
    have := (h b List.mem_cons_self).2.1
    show (b + 256 * vl l) % 16 ≤ 4
    omega
theorem P3 : ∀ l : List Nat, (∀ b ∈ l, b < 256 ∧ b % 16 ≤ 4 ∧ b / 16 ≤ 4) → ((vl l + vl l / 16) &&& mk8 15 l.length) = vl (l.map p3) := by
  intro l
  induction l with
  | nil => intro _; rfl
  | cons b l ih =>
    intro h
    obtain ⟨hb, h1, h2⟩ := h b List.mem_cons_self
    have hl : ∀ x ∈ l, x < 256 ∧ x % 16 ≤ 4 ∧ x / 16 ≤ 4 := fun x hx => h x (List.mem_cons_of_mem _ hx)
    have h3 := vl_mod l hl
    have ih := ih hl
    have e1 : (b + 256 * vl l) + (b + 256 * vl l) / 16 = (b + b / 16 + 16 * (vl l % 16)) + 256 * (vl l + vl l / 16) := by omega
    show (((b + 256 * vl l) + (b + 256 * vl l) / 16) &&& (15 + 256 * mk8 15 l.length)) = p3 b + 256 * vl (l.map p3)
    rw [e1, and_split (by omega) (by decide), ← ih, p3, show (15 : Nat) = 2 ^ 4 - 1 from rfl, Nat.and_two_pow_sub_one_eq_mod, Nat.and_two_pow_sub_one_eq_mod]
    omega
def pc8 (b : Nat) : Nat := b % 2 + b / 2 % 2 + b / 4 % 2 + b / 8 % 2 + b / 16 % 2 + b / 32 % 2 + b / 64 % 2 + b / 128 % 2
theorem p8 : ∀ b, b < 256 → p1 b < 256 ∧ p2 (p1 b) < 256 ∧ p2 (p1 b) % 16 ≤ 4 ∧ p2 (p1 b) / 16 ≤ 4 ∧ p3 (p2 (p1 b)) = pc8 b ∧ pc8 b ≤ 8 := by decide +kernel
def by8 (n : Nat) : List Nat := [n % 256, n / 256 % 256, n / 65536 % 256, n / 16777216 % 256, n / 4294967296 % 256, n / 1099511627776 % 256, n / 281474976710656 % 256, n / 72057594037927936 % 256]
theorem by8_vl {n : Nat} (h : n < 18446744073709551616) : vl (by8 n) = n := by
  unfold by8
  simp only [vl]
  omega
theorem by8_lt {n : Nat} : ∀ b ∈ by8 n, b < 256 := by
  intro b hb
  simp only [by8, List.mem_cons, List.not_mem_nil, or_false] at hb
  rcases hb with rfl | rfl | rfl | rfl | rfl | rfl | rfl | rfl <;> exact Nat.mod_lt _ (by decide)
theorem pop3 {n : Nat} (h : n < 18446744073709551616) : ((((n - (n / 2 &&& 6148914691236517205)) &&& 3689348814741910323) + ((n - (n / 2 &&& 6148914691236517205)) / 4 &&& 3689348814741910323)) + (((n - (n / 2 &&& 6148914691236517205)) &&& 3689348814741910323) + ((n - (n / 2 &&& 6148914691236517205)) / 4 &&& 3689348814741910323)) / 16) &&& 1085102592571150095 = vl ((by8 n).map pc8) := by
  have h1 := P1 (by8 n) by8_lt
  have h2 := P2 ((by8 n).map p1) (by
    intro b hb
    obtain ⟨a, ha, rfl⟩ := List.mem_map.mp hb
    exact (p8 a (by8_lt a ha)).1)
  have h3 := P3 (((by8 n).map p1).map p2) (by
    intro b hb
    obtain ⟨a, ha, rfl⟩ := List.mem_map.mp hb
    obtain ⟨a', ha', rfl⟩ := List.mem_map.mp ha
    have := p8 a' (by8_lt a' ha')
    exact ⟨this.2.1, this.2.2.1, this.2.2.2.1⟩)
  rw [by8_vl h] at h1
  have h1' : n - (n / 2 &&& 6148914691236517205) = vl ((by8 n).map p1) := h1
  have h2' : (vl ((by8 n).map p1) &&& 3689348814741910323) + (vl ((by8 n).map p1) / 4 &&& 3689348814741910323) = vl (((by8 n).map p1).map p2) := h2
  rw [h1', h2']
  refine Eq.trans h3 ?_
  congr 1
  rw [List.map_map, List.map_map]
  apply List.map_congr_left
  intro a ha
  exact (p8 a (by8_lt a ha)).2.2.2.2.1
