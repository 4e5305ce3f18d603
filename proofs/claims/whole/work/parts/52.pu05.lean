/-! THE GRID'S MASKS. -/
theorem gEv_bt {N : Nat} (hN : N ≤ 64) : ∀ (k : Nat) (z : Int64) (c : Nat), k ≤ N → bt (gEv N k z) c = (bt z c || decide (N - k ≤ c ∧ c < N)) := by
  intro k
  induction k with
  | zero => intro z c _; rw [gEv, decide_eq_false (by omega)]; cases bt z c <;> rfl
  | succ k ih =>
    intro z c hk
    rw [gEv, ih _ _ (by omega), bt_or, bt_only (by omega)]
    by_cases h1 : c = N - (k + 1)
    · rw [decide_eq_true h1, decide_eq_true (by omega : N - (k + 1) ≤ c ∧ c < N)]; cases bt z c <;> rfl
    · rw [decide_eq_false h1]
      by_cases h2 : N - k ≤ c ∧ c < N
      · rw [decide_eq_true h2, decide_eq_true (by omega : N - (k + 1) ≤ c ∧ c < N)]; cases bt z c <;> rfl
      · rw [decide_eq_false h2, decide_eq_false (by omega)]; cases bt z c <;> rfl
theorem gBe_bt {gw N : Nat} (hN : N ≤ 64) (hg : gw ≤ 8) : ∀ (k : Nat) (z : Int64) (c : Nat), k ≤ N → bt (gBe gw N k z) c = (bt z c || decide (N - k ≤ c ∧ c + gw < N)) := by
  intro k
  induction k with
  | zero => intro z c _; rw [gBe, decide_eq_false (by omega)]; cases bt z c <;> rfl
  | succ k ih =>
    intro z c hk
    have e : nI N ≤ nI (N - (k + 1)) + nI gw ↔ N ≤ N - (k + 1) + gw := by rw [nI_add]; exact nI_leI (by omega) (by omega)
    rw [gBe]
    by_cases h0 : N ≤ N - (k + 1) + gw
    · rw [if_pos (e.mpr h0), ih _ _ (by omega)]
      congr 1
      exact decide_eq_decide.mpr (by omega)
    · rw [if_neg (fun q => h0 (e.mp q)), ih _ _ (by omega), bt_or, bt_only (by omega)]
      by_cases h1 : c = N - (k + 1)
      · rw [decide_eq_true h1, decide_eq_true (by omega : N - (k + 1) ≤ c ∧ c + gw < N)]; cases bt z c <;> rfl
      · rw [decide_eq_false h1]
        rw [show decide (N - k ≤ c ∧ c + gw < N) = decide (N - (k + 1) ≤ c ∧ c + gw < N) from decide_eq_decide.mpr (by omega)]
        cases bt z c <;> rfl
theorem fCol_bt {w x h : Nat} (hb : ∀ y, y < h → w * y + x < 64) : ∀ (k : Nat) (z : Int64) (c : Nat), k ≤ h → (bt (fCol (nI w) (nI x) h k z) c = true ↔ bt z c = true ∨ ∃ y, h - k ≤ y ∧ y < h ∧ c = w * y + x) := by
  intro k
  induction k with
  | zero => intro z c _; rw [fCol]; exact ⟨Or.inl, fun q => q.elim id (fun ⟨y, h1, h2, _⟩ => by omega)⟩
  | succ k ih =>
    intro z c hk
    rw [fCol, ih _ _ (by omega), bt_or, show nI w * nI (h - (k + 1)) + nI x = nI (w * (h - (k + 1)) + x) by rw [pk_mul, nI_add], bt_only (hb _ (by omega)), Bool.or_eq_true, decide_eq_true_eq]
    constructor
    · rintro ((q | q) | ⟨y, h1, h2, h3⟩)
      · exact Or.inl q
      · exact Or.inr ⟨h - (k + 1), Nat.le_refl _, by omega, q⟩
      · exact Or.inr ⟨y, by omega, h2, h3⟩
    · rintro (q | ⟨y, h1, h2, h3⟩)
      · exact Or.inl (Or.inl q)
      · by_cases e : y = h - (k + 1)
        · subst e; exact Or.inl (Or.inr h3)
        · exact Or.inr ⟨y, by omega, h2, h3⟩
theorem fRow_bt {w y h : Nat} (hb : ∀ x, x < h → w * y + x < 64) : ∀ (k : Nat) (z : Int64) (c : Nat), k ≤ h → (bt (fRow (nI w) (nI y) h k z) c = true ↔ bt z c = true ∨ ∃ x, h - k ≤ x ∧ x < h ∧ c = w * y + x) := by
  intro k
  induction k with
  | zero => intro z c _; rw [fRow]; exact ⟨Or.inl, fun q => q.elim id (fun ⟨y, h1, h2, _⟩ => by omega)⟩
  | succ k ih =>
    intro z c hk
    rw [fRow, ih _ _ (by omega), bt_or, show nI w * nI y + nI (h - (k + 1)) = nI (w * y + (h - (k + 1))) by rw [pk_mul, nI_add], bt_only (hb _ (by omega)), Bool.or_eq_true, decide_eq_true_eq]
    constructor
    · rintro ((q | q) | ⟨x, h1, h2, h3⟩)
      · exact Or.inl q
      · exact Or.inr ⟨h - (k + 1), Nat.le_refl _, by omega, q⟩
      · exact Or.inr ⟨x, by omega, h2, h3⟩
    · rintro (q | ⟨x, h1, h2, h3⟩)
      · exact Or.inl (Or.inl q)
      · by_cases e : x = h - (k + 1)
        · subst e; exact Or.inl (Or.inr h3)
        · exact Or.inr ⟨x, by omega, h2, h3⟩
/-- the sides -/
abbrev GG (gw gh : Nat) : Prop := (1 ≤ gw) ∧ (1 ≤ gh) ∧ (gw ≤ 8) ∧ (gh ≤ 8)
theorem GG.w1 {gw gh : Nat} (h9 : GG gw gh) : 1 ≤ gw := h9.1
theorem GG.h1 {gw gh : Nat} (h9 : GG gw gh) : 1 ≤ gh := h9.2.1
theorem GG.w8 {gw gh : Nat} (h9 : GG gw gh) : gw ≤ 8 := h9.2.2.1
theorem GG.h8 {gw gh : Nat} (h9 : GG gw gh) : gh ≤ 8 := h9.2.2.2
theorem GG.N {gw gh : Nat} (G : GG gw gh) : gw * gh ≤ 64 := Nat.mul_le_mul G.w8 G.h8
theorem row_lt {gw gh x y : Nat} (hx : x < gw) (hy : y < gh) : gw * y + x < gw * gh := by
  have : gw * (y + 1) ≤ gw * gh := Nat.mul_le_mul_left _ hy
  rw [Nat.mul_succ] at this
  omega
/-- a cell by its column and row -/
theorem cell_xy {gw gh c : Nat} (hw : 1 ≤ gw) (hc : c < gw * gh) : c % gw < gw ∧ c / gw < gh ∧ c = gw * (c / gw) + c % gw :=
  ⟨Nat.mod_lt _ hw, Nat.div_lt_of_lt_mul hc, (Nat.div_add_mod c gw).symm⟩
theorem xy_mod {gw x y : Nat} (hx : x < gw) : (gw * y + x) % gw = x := by rw [Nat.mul_add_mod, Nat.mod_eq_of_lt hx]
theorem xy_div {gw x y : Nat} (hx : x < gw) : (gw * y + x) / gw = y := by rw [Nat.mul_add_div (by omega), Nat.div_eq_of_lt hx, Nat.add_zero]
theorem isEn_r {gw gh c : Nat} : isEn gw gh (2 * c) = (decide (c < gw * gh) && decide (c % gw < gw - 1)) := by
  unfold isEn
  rw [if_pos (by omega), show 2 * c / 2 = c by omega, show decide (2 * c < 2 * (gw * gh)) = decide (c < gw * gh) from decide_eq_decide.mpr (by omega)]
theorem isEn_b {gw gh c : Nat} : isEn gw gh (2 * c + 1) = (decide (c < gw * gh) && decide (c / gw < gh - 1)) := by
  unfold isEn
  rw [if_neg (by omega), show (2 * c + 1) / 2 = c by omega, show decide (2 * c + 1 < 2 * (gw * gh)) = decide (c < gw * gh) from decide_eq_decide.mpr (by omega)]
abbrev gCe (gw gh : Nat) : Int64 := gEv (gw * gh) (gw * gh) 0
abbrev gAb (gw gh : Nat) : Int64 := gBe gw (gw * gh) (gw * gh) 0
abbrev gAr (gw gh : Nat) : Int64 := gEv (gw * gh) (gw * gh) 0 &&& (fCol (nI gw) (nI gw - 1) gh gh 0 ^^^ (-1))
theorem ce_bt {gw gh : Nat} (G : GG gw gh) (c : Nat) : bt (gCe gw gh) c = decide (c < gw * gh) := by
  rw [gCe, gEv_bt G.N _ _ _ (Nat.le_refl _), bt_0, Nat.sub_self, Bool.false_or]
  exact decide_eq_decide.mpr (by omega)
theorem ab_bt {gw gh : Nat} (G : GG gw gh) (c : Nat) : bt (gAb gw gh) c = isEn gw gh (2 * c + 1) := by
  rw [gAb, gBe_bt G.N G.w8 _ _ _ (Nat.le_refl _), bt_0, Nat.sub_self, Bool.false_or, isEn_b, ← Bool.decide_and]
  apply decide_eq_decide.mpr
  have hm : gw * (gh - 1) = gw * gh - gw := by rw [Nat.mul_sub, Nat.mul_one]
  have hle : gw ≤ gw * gh := Nat.le_mul_of_pos_right _ G.h1
  have hd : c / gw < gh - 1 ↔ c < gw * (gh - 1) := (Nat.div_lt_iff_lt_mul G.w1).trans (by rw [Nat.mul_comm])
  rw [hd, hm]
  have := G.w1
  omega
theorem ar_bt {gw gh : Nat} (G : GG gw gh) (c : Nat) : bt (gAr gw gh) c = isEn gw gh (2 * c) := by
  have h1 := G.w1
  have hN := G.N
  rw [gAr, bt_an, ce_bt G, isEn_r]
  by_cases hc : c < gw * gh
  · rw [decide_eq_true hc, Bool.true_and, Bool.true_and]
    obtain ⟨hx, hy, he⟩ := cell_xy h1 hc
    have hcol := fCol_bt (w := gw) (x := gw - 1) (h := gh) (fun y hy => Nat.lt_of_lt_of_le (row_lt (by omega) hy) hN) gh 0 c (Nat.le_refl _)
    rw [show nI gw - 1 = nI (gw - 1) from pk_sub (a := gw) (b := 1) h1]
    by_cases q : c % gw < gw - 1
    · rw [decide_eq_true q]
      cases e : bt (fCol (nI gw) (nI (gw - 1)) gh gh 0) c
      · rfl
      · rcases hcol.mp e with p | ⟨y, _, p2, p3⟩
        · rw [bt_0] at p; cases p
        · rw [p3, xy_mod (by omega)] at q; omega
    · rw [decide_eq_false q, hcol.mpr (Or.inr ⟨c / gw, by rw [Nat.sub_self]; exact Nat.zero_le _, hy, by have e9 : c % gw = gw - 1 := (by omega); rw [← e9]; exact he⟩)]; rfl
  · rw [decide_eq_false hc]; rfl
