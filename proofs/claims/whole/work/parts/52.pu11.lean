/-! BORDERS. -/
theorem sm_even {f : Nat → Nat} {n : Nat} : sm f (2 * n) = sm (fun c => f (2 * c) + f (2 * c + 1)) n := by
  induction n with
  | zero => rfl
  | succ n ih => rw [show 2 * (n + 1) = 2 * n + 1 + 1 by omega, sm, sm, sm, ih]; omega
theorem sm_uniq {f : Nat → Nat} {n i j : Nat} (h1 : sm f n ≤ 1) (hi : i < n) (hj : j < n) (fi : 1 ≤ f i) (fj : 1 ≤ f j) : i = j := by
  have key : ∀ i j, i < j → j < n → 1 ≤ f i → 1 ≤ f j → 2 ≤ sm f n := by
    intro i j hij hj fi fj
    have a1 : sm (fun k => if k = i then 1 else 0) n + sm (fun k => if k = j then 1 else 0) n ≤ sm f n := by
      rw [← sm_add]
      refine sm_le (fun k _ => ?_)
      by_cases q : k = i
      · subst q; rw [if_pos rfl, if_neg (by omega)]; omega
      · rw [if_neg q]
        by_cases w : k = j
        · subst w; rw [if_pos rfl]; omega
        · rw [if_neg w]; exact Nat.zero_le _
    have one : ∀ k, k < n → 1 ≤ sm (fun m => if m = k then 1 else 0) n := by
      intro k hk
      have := sm_lt (f := fun _ => 0) (g := fun m => if m = k then 1 else 0) (n := n) (j := k) (fun i _ => Nat.zero_le _) hk (by rw [if_pos rfl]; decide)
      omega
    have := one i (by omega)
    have := one j hj
    omega
  rcases Nat.lt_trichotomy i j with q | q | q
  · have := key i j q hj fi fj; omega
  · exact q
  · have := key j i q hi fj fi; omega
theorem cB_0 {x : Int64} : cB x = 0 ↔ x = 0 := by
  unfold cB
  rw [sm_0, eq0_bt]
  constructor
  · intro h i hi
    have := h i hi
    cases e : bt x i
    · rfl
    · rw [e] at this; exact absurd this (by decide)
  · intro h i hi; rw [h i hi]; rfl
section D7
variable {gw gh : Nat} {onr onb ofr ofb mu ba bl wh : Int64} {ed du sh : Nat → Int32}
/-- the edges of border b -/
def Bd (gw gh b e : Nat) : Bool := isEn gw gh e && decide (bOf gw e = b)
/-- the edge of cell c that may cross border b -/
def be (gw b c : Nat) : Nat := if b < gw - 1 then 2 * c else 2 * c + 1
theorem up_n7 (G : GG gw gh) {b : Nat} (hb : b < 2 ^ 30) : bUp gw (nI b) = decide (b < gw - 1) := by
  have h1 := G.w1
  have h8 := G.w8
  unfold bUp
  rw [show nI gw - 1 = nI (gw - 1) from pk_sub (a := gw) (b := 1) h1]
  exact decide_eq_decide.mpr (nI_ltI (by omega) (by omega))
theorem bd_par (G : GG gw gh) {b e : Nat} (h : Bd gw gh b e = true) : e = be gw b (e / 2) := by
  unfold Bd at h
  rw [Bool.and_eq_true, decide_eq_true_eq] at h
  unfold bOf at h
  unfold be
  by_cases q : e % 2 = 0
  · rw [if_pos q] at h
    have hi := h.1
    rw [show e = 2 * (e / 2) by omega, isEn_r, Bool.and_eq_true, decide_eq_true_eq, decide_eq_true_eq] at hi
    rw [if_pos (by omega)]; omega
  · rw [if_neg q] at h
    have h3 : gw - 1 ≤ b := by rw [← h.2]; exact Nat.le_add_right _ _
    rw [if_neg (by omega)]; omega
theorem bOf_be {b c : Nat} : bOf gw (be gw b c) = b ↔ (if b < gw - 1 then c % gw = b else gw - 1 + c / gw = b) := by
  unfold bOf be
  by_cases q : b < gw - 1
  · rw [if_pos q, if_pos q, if_pos (by omega), show 2 * c / 2 = c by omega]
  · rw [if_neg q, if_neg q, if_neg (by omega), show (2 * c + 1) / 2 = c by omega]
theorem sub_add1 (x y : Int32) : x - y + 1 = x + 1 - y := by
  rw [Int32.sub_eq_add_neg, Int32.sub_eq_add_neg, Int32.add_assoc, Int32.add_comm (-y) 1, Int32.add_assoc]
theorem line_bt (G : GG gw gh) {b c : Nat} (hb : b < gw + gh - 2) : bt (bLine gw gh (nI b)) c = true ↔ c < gw * gh ∧ bOf gw (be gw b c) = b := by
  have h1 := G.w1
  have h2 := G.h1
  have h8 := G.w8
  have h9 := G.h8
  have hN := G.N
  rw [bOf_be]
  unfold bLine
  rw [up_n7 G (by omega)]
  by_cases q : b < gw - 1
  · rw [decide_eq_true q, if_pos rfl, if_pos q]
    rw [fCol_bt (fun y hy => Nat.lt_of_lt_of_le (row_lt (by omega) hy) hN) gh 0 c (Nat.le_refl _)]
    constructor
    · rintro (z | ⟨y, _, hy, rfl⟩)
      · rw [bt_0] at z; cases z
      · exact ⟨row_lt (by omega) hy, xy_mod (by omega)⟩
    · rintro ⟨hc, hm⟩
      obtain ⟨a1, a2, a3⟩ := cell_xy h1 hc
      exact Or.inr ⟨c / gw, by rw [Nat.sub_self]; exact Nat.zero_le _, a2, by rw [← hm]; exact a3⟩
  · rw [decide_eq_false q, if_neg Bool.false_ne_true, if_neg q]
    rw [sub_add1, show nI b + 1 = nI (b + 1) from nI_1 b, pk_sub (a := b + 1) (b := gw) (by omega)]
    rw [fRow_bt (fun x hx => Nat.lt_of_lt_of_le (row_lt hx (by omega)) hN) gw 0 c (Nat.le_refl _)]
    constructor
    · rintro (z | ⟨x, _, hx, rfl⟩)
      · rw [bt_0] at z; cases z
      · exact ⟨row_lt hx (by omega), by rw [xy_div hx]; omega⟩
    · rintro ⟨hc, hm⟩
      obtain ⟨a1, a2, a3⟩ := cell_xy h1 hc
      refine Or.inr ⟨c % gw, by rw [Nat.sub_self]; exact Nat.zero_le _, a1, ?_⟩
      rw [show b + 1 - gw = c / gw by rw [← hm]; generalize c / gw = z; omega]
      exact a3
theorem bOn_bt (G : GG gw gh) {P : Nat → Bool} {r b' : Int64} (h : Rp gw gh P r b') {b c : Nat} (hb : b < gw + gh - 2) : bt (bOn gw gh r b' (nI b)) c = (Bd gw gh b (be gw b c) && P (be gw b c)) := by
  have h8 := G.w8
  have h9 := G.h8
  have hN := G.N
  rcases Nat.lt_or_ge c 64 with hc | hc
  · have hl := line_bt G (c := c) hb
    unfold bOn
    rw [bt_and, up_n7 G (by omega)]
    have hP : bt (if decide (b < gw - 1) = true then r else b') c = (isEn gw gh (be gw b c) && P (be gw b c)) := by
      unfold be
      by_cases q : b < gw - 1
      · rw [decide_eq_true q, if_pos rfl, if_pos q, (h c hc).1]
      · rw [decide_eq_false q, if_neg Bool.false_ne_true, if_neg q, (h c hc).2]
    rw [hP]
    unfold Bd
    cases e : isEn gw gh (be gw b c)
    · cases bt (bLine gw gh (nI b)) c <;> rfl
    · have hcN : c < gw * gh := by
        have := isEn_c e
        unfold be at this
        split at this <;> omega
      rw [show bt (bLine gw gh (nI b)) c = decide (bOf gw (be gw b c) = b) from ?_]
      · rfl
      · by_cases w : bOf gw (be gw b c) = b
        · rw [decide_eq_true w]; exact hl.mpr ⟨hcN, w⟩
        · rw [decide_eq_false w]
          cases e2 : bt (bLine gw gh (nI b)) c
          · rfl
          · exact absurd (hl.mp e2).2 w
  · rw [bt_big hc]
    cases e : isEn gw gh (be gw b c)
    · unfold Bd; rw [e]; rfl
    · have := isEn_c e
      unfold be at this
      split at this <;> omega
/-- how many edges of border b there are of which P holds -/
def bN (gw gh b : Nat) (P : Nat → Bool) : Nat := sm (fun e => b01 (Bd gw gh b e && P e)) (2 * (gw * gh))
theorem bN_cB (G : GG gw gh) {P : Nat → Bool} {r b' : Int64} (h : Rp gw gh P r b') {b : Nat} (hb : b < gw + gh - 2) : cB (bOn gw gh r b' (nI b)) = bN gw gh b P := by
  have hN := G.N
  unfold cB bN
  rw [sm_even, sm_ext hN (fun i h1 _ => by
    rw [bOn_bt G h hb]
    unfold Bd
    cases e : isEn gw gh (be gw b i)
    · rfl
    · have := isEn_c e
      unfold be at this
      split at this <;> omega)]
  refine sm_congr (fun c hc => ?_)
  rw [bOn_bt G h hb]
  have no : ∀ e, e / 2 = c → e ≠ be gw b c → b01 (Bd gw gh b e && P e) = 0 := by
    intro e h1 h2
    cases q : Bd gw gh b e
    · rfl
    · have := bd_par G q
      rw [h1] at this
      exact absurd this h2
  by_cases q : b < gw - 1
  · rw [no (2 * c + 1) (by omega) (by unfold be; rw [if_pos q]; omega), show be gw b c = 2 * c by unfold be; rw [if_pos q]]; omega
  · rw [no (2 * c) (by omega) (by unfold be; rw [if_neg q]; omega), show be gw b c = 2 * c + 1 by unfold be; rw [if_neg q]]; omega
theorem bR_eq {b : Nat} : ∀ k, k ≤ 2 * (gw * gh) → ∀ (a o : Nat) (la : Int32), (bR gw gh ed b k (a, o, la)).1 + sm (fun e => b01 (Bd gw gh b e && decide (ed e = 1))) (2 * (gw * gh) - k) = a + sm (fun e => b01 (Bd gw gh b e && decide (ed e = 1))) (2 * (gw * gh)) ∧ (bR gw gh ed b k (a, o, la)).2.1 + sm (fun e => b01 (Bd gw gh b e && decide (ed e = 0))) (2 * (gw * gh) - k) = o + sm (fun e => b01 (Bd gw gh b e && decide (ed e = 0))) (2 * (gw * gh)) ∧ ((bR gw gh ed b k (a, o, la)).2.2 = la ∨ ∃ e, e < 2 * (gw * gh) ∧ Bd gw gh b e = true ∧ ed e = 0 ∧ (bR gw gh ed b k (a, o, la)).2.2 = nI e) ∧ ((∃ e, 2 * (gw * gh) - k ≤ e ∧ e < 2 * (gw * gh) ∧ Bd gw gh b e = true ∧ ed e = 0) → ∃ e, e < 2 * (gw * gh) ∧ Bd gw gh b e = true ∧ ed e = 0 ∧ (bR gw gh ed b k (a, o, la)).2.2 = nI e) := by
  intro k
  induction k with
  | zero => intro _ a o la; exact ⟨rfl, rfl, Or.inl rfl, fun ⟨e, h1, h2, _⟩ => by omega⟩
  | succ k ih =>
    intro hk a o la
    obtain ⟨i, hi⟩ : ∃ i, i = 2 * (gw * gh) - (k + 1) := ⟨_, rfl⟩
    have e1 : 2 * (gw * gh) - k = i + 1 := by omega
    by_cases q : isEn gw gh i = true ∧ bOf gw i = b
    · have hB : Bd gw gh b i = true := by unfold Bd; rw [q.1, decide_eq_true q.2]; rfl
      rw [bR_in hi q]
      obtain ⟨x1, x2, x3, x4⟩ := ih (by omega) (a + (if ed i = 1 then 1 else 0)) (o + (if ed i = 0 then 1 else 0)) (if ed i = 0 then nI i else la)
      rw [e1, sm, hB, Bool.true_and] at x1 x2
      rw [← hi]
      refine ⟨?_, ?_, ?_, ?_⟩
      · by_cases w : ed i = 1
        · rw [if_pos w] at x1 ⊢; rw [decide_eq_true w] at x1; simp only [b01, if_true] at x1 ⊢; omega
        · rw [if_neg w] at x1 ⊢; rw [decide_eq_false w] at x1; simp only [b01, if_false, Bool.false_eq_true] at x1 ⊢; omega
      · by_cases w : ed i = 0
        · rw [if_pos w] at x2 ⊢; rw [decide_eq_true w] at x2; simp only [b01, if_true] at x2 ⊢; omega
        · rw [if_neg w] at x2 ⊢; rw [decide_eq_false w] at x2; simp only [b01, if_false, Bool.false_eq_true] at x2 ⊢; omega
      · rcases x3 with x3 | x3
        · by_cases w : ed i = 0
          · right
            exact ⟨i, by omega, hB, w, by rw [x3, if_pos w]⟩
          · left
            rw [x3, if_neg w]
        · exact Or.inr x3
      · rintro ⟨e, h1, h2, h3, h4⟩
        rcases x3 with y3 | y3
        · by_cases w : ed i = 0
          · exact ⟨i, by omega, hB, w, by rw [y3, if_pos w]⟩
          · refine x4 ⟨e, ?_, h2, h3, h4⟩
            by_cases z : e = i
            · subst z; exact absurd h4 w
            · omega
        · exact y3
    · have hB : Bd gw gh b i = false := by
        unfold Bd
        cases e : isEn gw gh i
        · rfl
        · rw [decide_eq_false (fun z => q ⟨e, z⟩)]; rfl
      rw [bR_out hi q]
      obtain ⟨x1, x2, x3, x4⟩ := ih (by omega) a o la
      rw [e1, sm, hB, Bool.false_and] at x1 x2
      rw [← hi]
      refine ⟨x1, x2, x3, ?_⟩
      rintro ⟨e, h1, h2, h3, h4⟩
      refine x4 ⟨e, ?_, h2, h3, h4⟩
      by_cases z : e = i
      · subst z; rw [hB] at h3; cases h3
      · omega
theorem odd_n : ∀ A, A < 65 → ((¬ nI A &&& 1 = 0) ↔ A % 2 = 1) := by decide +kernel
theorem D7 (G : GG gw gh) (R : Rel gw gh onr onb ofr ofb mu ba bl wh ed du sh) : dL (pBorder gw gh onr onb (mOr gw gh ofr onr) (mOb gw gh ofb onb)) (gw + gh - 2) (gw + gh - 2) = rL (pBo gw gh ed) (gw + gh - 2) (gw + gh - 2) := by
  have h8 := G.w8
  have h9 := G.h8
  have hN := G.N
  refine dL_rL (fun b hb => ?_) _ (Nat.le_refl _)
  obtain ⟨x1, x2, x3, x4⟩ := bR_eq (gw := gw) (gh := gh) (ed := ed) (b := b) (2 * (gw * gh)) (Nat.le_refl _) 0 0 (-1)
  rw [Nat.sub_self] at x1 x2 x4
  have A1 : (bR gw gh ed b (2 * (gw * gh)) (0, 0, -1)).1 = cB (bOn gw gh onr onb (nI b)) := by
    rw [bN_cB G R.on hb]; unfold bN; simp only [sm, Nat.add_zero, Nat.zero_add] at x1; exact x1
  have A2 : (bR gw gh ed b (2 * (gw * gh)) (0, 0, -1)).2.1 = cB (bOn gw gh (mOr gw gh ofr onr) (mOb gw gh ofb onb) (nI b)) := by
    rw [bN_cB G (R.op G) hb]; unfold bN; simp only [sm, Nat.add_zero, Nat.zero_add] at x2; exact x2
  have hodd : bOdd gw gh onr onb (nI b) = decide ((bR gw gh ed b (2 * (gw * gh)) (0, 0, -1)).1 % 2 = 1) := by
    unfold bOdd
    rw [A1, fBc_eq]
    exact decide_eq_decide.mpr (odd_n _ (by have := cB_le (bOn gw gh onr onb (nI b)); omega))
  have hone : fBc (bOn gw gh (mOr gw gh ofr onr) (mOb gw gh ofb onb) (nI b)) = 1 ↔ (bR gw gh ed b (2 * (gw * gh)) (0, 0, -1)).2.1 = 1 := by
    rw [A2, fBc_eq]
    have := cB_le (bOn gw gh (mOr gw gh ofr onr) (mOb gw gh ofb onb) (nI b))
    exact nI_eq (b := 1) (by omega) (by decide)
  have hz : bOn gw gh (mOr gw gh ofr onr) (mOb gw gh ofb onb) (nI b) = 0 ↔ (bR gw gh ed b (2 * (gw * gh)) (0, 0, -1)).2.1 = 0 := by rw [A2, cB_0]
  unfold pBorder pBo
  by_cases q : (bR gw gh ed b (2 * (gw * gh)) (0, 0, -1)).2.1 = 0 ∧ (bR gw gh ed b (2 * (gw * gh)) (0, 0, -1)).1 % 2 = 1
  · rw [if_pos q, if_pos ⟨hz.mpr q.1, by rw [hodd]; exact decide_eq_true q.2⟩]
  · rw [if_neg q, if_neg (fun z => q ⟨hz.mp z.1, by rw [hodd] at z; exact of_decide_eq_true z.2⟩)]
    by_cases w : (bR gw gh ed b (2 * (gw * gh)) (0, 0, -1)).2.1 = 1
    · rw [if_pos w, if_pos (hone.mpr w), hodd]
      have hne : ¬ bOn gw gh (mOr gw gh ofr onr) (mOb gw gh ofb onb) (nI b) = 0 := fun z => by rw [hz.mp z] at w; cases w
      obtain ⟨c, hc, b1, b2, b3⟩ := least_ex hne
      have b1' := b1
      rw [bOn_bt G (R.op G) hb, Bool.and_eq_true, decide_eq_true_eq] at b1'
      have hel : be gw b c < 2 * (gw * gh) := by
        have := b1'.1
        unfold Bd at this
        rw [Bool.and_eq_true] at this
        exact isEn_lt this.1
      obtain ⟨e, he, h2, h3, h4⟩ := x4 ⟨be gw b c, by omega, hel, b1'.1, b1'.2⟩
      have hpar := bd_par G h2
      have hce : e / 2 = c := by
        have he2 : bt (bOn gw gh (mOr gw gh ofr onr) (mOb gw gh ofb onb) (nI b)) (e / 2) = true := by
          rw [bOn_bt G (R.op G) hb, ← hpar, h2, decide_eq_true h3]; rfl
        refine sm_uniq (f := fun i => b01 (bt (bOn gw gh (mOr gw gh ofr onr) (mOb gw gh ofb onb) (nI b)) i)) (n := 64) ?_ (by omega) hc (by rw [he2]; decide) (by rw [b1]; decide)
        show cB _ ≤ 1
        rw [← A2, w]
        exact Nat.le_refl _
      rw [h4, hpar, hce]
      unfold bEdge
      rw [b3, up_n7 G (by omega)]
      unfold be
      by_cases z : b < gw - 1
      · rw [decide_eq_true z, if_pos rfl, if_pos z, show (2 : Int32) = nI 2 from rfl, pk_mul, Int32.add_zero]
      · rw [decide_eq_false z, if_neg Bool.false_ne_true, if_neg z, show (2 : Int32) = nI 2 from rfl, pk_mul, nI_1]
    · rw [if_neg w, if_neg (fun z => w (hone.mp z))]
end D7
