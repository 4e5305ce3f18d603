/-! THE STEPS OF ONE CELL: CELL, FULL, ALONE, FORCED. -/
section D14
variable {gw gh : Nat} {onr onb ofr ofb mu ba bl wh : Int64} {ed du sh : Nat → Int32}
def cOn (gw gh : Nat) (ed : Nat → Int32) (c : Nat) : Nat := cn gw gh (fun e => decide (ed e = 1)) c
def cOp (gw gh : Nat) (ed : Nat → Int32) (c : Nat) : Nat := cn gw gh (fun e => decide (ed e = 0)) c
abbrev mNr (gw gh : Nat) (ofr : Int64) : Int64 := gAr gw gh &&& (ofr ^^^ (-1))
abbrev mNb (gw gh : Nat) (ofb : Int64) : Int64 := gAb gw gh &&& (ofb ^^^ (-1))
abbrev mOr (gw gh : Nat) (ofr onr : Int64) : Int64 := (gAr gw gh &&& (ofr ^^^ (-1))) &&& (onr ^^^ (-1))
abbrev mOb (gw gh : Nat) (ofb onb : Int64) : Int64 := (gAb gw gh &&& (ofb ^^^ (-1))) &&& (onb ^^^ (-1))
abbrev mSo (gw : Nat) (onr onb : Int64) : Int64 := fOne (nI gw) onr onb
abbrev mTw (gw : Nat) (onr onb : Int64) : Int64 := fTwo (nI gw) onr onb
abbrev mOne (gw : Nat) (onr onb : Int64) : Int64 := fOne (nI gw) onr onb &&& (fTwo (nI gw) onr onb ^^^ (-1))
theorem dec_iff {a b : Bool} (h : a = b) {p : Prop} (hb : b = true ↔ p) : a = true ↔ p := by rw [h]; exact hb
theorem so_bt (G : GG gw gh) (R : Rel gw gh onr onb ofr ofb mu ba bl wh ed du sh) {c : Nat} (hc : c < 64) : bt (fOne (nI gw) onr onb) c = decide (1 ≤ cOn gw gh ed c) := bt_one G R.on hc
theorem tw_bt (G : GG gw gh) (R : Rel gw gh onr onb ofr ofb mu ba bl wh ed du sh) {c : Nat} (hc : c < 64) : bt (fTwo (nI gw) onr onb) c = decide (2 ≤ cOn gw gh ed c) := bt_two G R.on hc
theorem th_bt (G : GG gw gh) (R : Rel gw gh onr onb ofr ofb mu ba bl wh ed du sh) {c : Nat} (hc : c < 64) : bt (fThree (nI gw) onr onb) c = decide (3 ≤ cOn gw gh ed c) := bt_three G R.on hc
theorem op1_bt (G : GG gw gh) (R : Rel gw gh onr onb ofr ofb mu ba bl wh ed du sh) {c : Nat} (hc : c < 64) : bt (fOne (nI gw) (mOr gw gh ofr onr) (mOb gw gh ofb onb)) c = decide (1 ≤ cOp gw gh ed c) := bt_one G (R.op G) hc
theorem op2_bt (G : GG gw gh) (R : Rel gw gh onr onb ofr ofb mu ba bl wh ed du sh) {c : Nat} (hc : c < 64) : bt (fTwo (nI gw) (mOr gw gh ofr onr) (mOb gw gh ofb onb)) c = decide (2 ≤ cOp gw gh ed c) := bt_two G (R.op G) hc
theorem cnf (R : Rel gw gh onr onb ofr ofb mu ba bl wh ed du sh) (c : Nat) : cn gw gh (fun e => !decide (ed e = 2)) c = cOn gw gh ed c + cOp gw gh ed c := cn_nf R c
theorem nf2_bt (G : GG gw gh) (R : Rel gw gh onr onb ofr ofb mu ba bl wh ed du sh) {c : Nat} (hc : c < 64) : bt (fTwo (nI gw) (mNr gw gh ofr) (mNb gw gh ofb)) c = decide (2 ≤ cOn gw gh ed c + cOp gw gh ed c) := by rw [bt_two G (R.nf G) hc, cnf R]
theorem nf3_bt (G : GG gw gh) (R : Rel gw gh onr onb ofr ofb mu ba bl wh ed du sh) {c : Nat} (hc : c < 64) : bt (fThree (nI gw) (mNr gw gh ofr) (mNb gw gh ofb)) c = decide (3 ≤ cOn gw gh ed c + cOp gw gh ed c) := by rw [bt_three G (R.nf G) hc, cnf R]
theorem cnt_on (G : GG gw gh) {c : Nat} (hc : c < 64) : cnt gw gh ed c 1 = cOn gw gh ed c := cnt_eq G hc
theorem cnt_op (G : GG gw gh) {c : Nat} (hc : c < 64) : cnt gw gh ed c 0 = cOp gw gh ed c := cnt_eq G hc
theorem cOn_cell (G : GG gw gh) {c : Nat} (h : 1 ≤ cOn gw gh ed c) : c < gw * gh := cn_cell G h
theorem cOp_cell (G : GG gw gh) {c : Nat} (h : 1 ≤ cOp gw gh ed c) : c < gw * gh := cn_cell G h
theorem one_bt (G : GG gw gh) (R : Rel gw gh onr onb ofr ofb mu ba bl wh ed du sh) {c : Nat} (hc : c < 64) : bt (mOne gw onr onb) c = decide (cOn gw gh ed c = 1) := by
  rw [mOne, bt_an, so_bt G R hc, tw_bt G R hc]
  by_cases h1 : 1 ≤ cOn gw gh ed c <;> by_cases h2 : 2 ≤ cOn gw gh ed c
  · rw [decide_eq_true h1, decide_eq_true h2, decide_eq_false (by omega : ¬ cOn gw gh ed c = 1)]; rfl
  · rw [decide_eq_true h1, decide_eq_false h2, decide_eq_true (by omega : cOn gw gh ed c = 1)]; rfl
  · omega
  · rw [decide_eq_false h1, decide_eq_false h2, decide_eq_false (by omega : ¬ cOn gw gh ed c = 1)]; rfl
theorem D1 (G : GG gw gh) (R : Rel gw gh onr onb ofr ofb mu ba bl wh ed du sh) : dCell (nI gw) onr onb mu ba (mNr gw gh ofr) (mNb gw gh ofb) (mSo gw onr onb) (mOne gw onr onb) = rL (pC1 gw gh ed du) (gw * gh) (gw * gh) := by
  have hN := G.N
  unfold dCell
  refine dIf_rL (d := fun a => (1, a, 0, false, [])) (q := fun c => 2 < cOn gw gh ed c ∨ (du c = 2 ∧ 0 < cOn gw gh ed c) ∨ ((du c = 1 ∨ cOn gw gh ed c = 1) ∧ cOn gw gh ed c + cOp gw gh ed c < 2)) hN ?_ ?_ ?_
  · intro c hc
    unfold dBad
    rw [bt_or, bt_or, bt_and, bt_an, bt_or, th_bt G R hc, so_bt G R hc, one_bt G R hc, nf2_bt G R hc, R.mu c hc, R.ba c hc]
    simp only [Bool.or_eq_true, Bool.and_eq_true, decide_eq_true_eq, Bool.not_eq_true', decide_eq_false_iff_not]
    constructor
    · rintro ((h | ⟨⟨h1, h2⟩, h3⟩) | ⟨⟨h1, h2⟩ | h1, h3⟩)
      · exact ⟨cOn_cell (ed := ed) G (by omega), Or.inl (by omega)⟩
      · exact ⟨h1, Or.inr (Or.inl ⟨h2, by omega⟩)⟩
      · exact ⟨h1, Or.inr (Or.inr ⟨Or.inl h2, by omega⟩)⟩
      · exact ⟨cOn_cell G (Nat.le_of_eq h1.symm), Or.inr (Or.inr ⟨Or.inr h1, by omega⟩)⟩
    · rintro ⟨hl, h | ⟨h1, h2⟩ | ⟨h1 | h1, h2⟩⟩
      · exact Or.inl (Or.inl (by omega))
      · exact Or.inl (Or.inr ⟨⟨hl, h1⟩, by omega⟩)
      · exact Or.inr ⟨Or.inl ⟨hl, h1⟩, by omega⟩
      · exact Or.inr ⟨Or.inr h1, by omega⟩
  · intro i hi hq
    unfold pC1
    rw [cnt_on G (by omega), cnt_op G (by omega), if_pos hq]
  · intro i hi hq
    unfold pC1
    rw [cnt_on G (by omega), cnt_op G (by omega), if_neg hq]
/-- no cell is wrong -/
def NoC1 (gw gh : Nat) (ed du : Nat → Int32) : Prop := ∀ c, c < gw * gh → cOn gw gh ed c ≤ 2 ∧ (du c = 2 → cOn gw gh ed c = 0) ∧ ((du c = 1 ∨ cOn gw gh ed c = 1) → 2 ≤ cOn gw gh ed c + cOp gw gh ed c)
theorem noC1 (G : GG gw gh) (h : rL (pC1 gw gh ed du) (gw * gh) (gw * gh) = none) : NoC1 gw gh ed du := by
  have hN := G.N
  intro c hc
  have := rL_ni h c hc
  unfold pC1 at this
  rw [cnt_on G (by omega), cnt_op G (by omega)] at this
  split at this
  · cases this
  · rename_i q
    refine ⟨by omega, fun h => ?_, fun h => ?_⟩
    · by_cases z : 0 < cOn gw gh ed c
      · exact absurd (Or.inr (Or.inl ⟨h, z⟩)) q
      · omega
    · by_cases z : cOn gw gh ed c + cOp gw gh ed c < 2
      · exact absurd (Or.inr (Or.inr ⟨h, z⟩)) q
      · omega
theorem D2 (G : GG gw gh) (R : Rel gw gh onr onb ofr ofb mu ba bl wh ed du sh) (h : NoC1 gw gh ed du) : dFull (nI gw) (nI (2 * (gw * gh))) (gAr gw gh) (gAb gw gh) ba (mOr gw gh ofr onr) (mOb gw gh ofb onb) (mTw gw onr onb) = rL (pC2 gw gh ed du) (gw * gh) (gw * gh) := by
  have hN := G.N
  unfold dFull
  refine dIf_rL (d := fun a => (2, a, 1, false, oEd (nI gw) (nI (2 * (gw * gh))) (gAr gw gh) (gAb gw gh) (mOr gw gh ofr onr) (mOb gw gh ofb onb) a 4)) (q := fun c => (cOn gw gh ed c = 2 ∨ du c = 2) ∧ ¬ cOp gw gh ed c ≤ 0) hN ?_ ?_ ?_
  · intro c hc
    unfold dFullM
    rw [bt_and, bt_or, tw_bt G R hc, op1_bt G R hc, R.ba c hc]
    simp only [Bool.or_eq_true, Bool.and_eq_true, decide_eq_true_eq]
    constructor
    · rintro ⟨h1, h2⟩
      have hl := cOp_cell G h2
      refine ⟨hl, ?_, by omega⟩
      rcases h1 with h1 | ⟨_, h1⟩
      · exact Or.inl (by have := (h c hl).1; omega)
      · exact Or.inr h1
    · rintro ⟨hl, h1, h2⟩
      refine ⟨?_, by omega⟩
      rcases h1 with h1 | h1
      · exact Or.inl (by omega)
      · exact Or.inr ⟨hl, h1⟩
  · intro i hi hq
    unfold pC2
    rw [cnt_on G (by omega), cnt_op G (by omega), if_pos hq, oEd_rOp G (R.op G) (by omega) false 4 (Nat.le_refl _)]
  · intro i hi hq
    unfold pC2
    rw [cnt_on G (by omega), cnt_op G (by omega), if_neg hq]
theorem D3 (G : GG gw gh) (R : Rel gw gh onr onb ofr ofb mu ba bl wh ed du sh) : dAlone (nI gw) (nI (2 * (gw * gh))) (gAr gw gh) (gAb gw gh) (mOr gw gh ofr onr) (mOb gw gh ofb onb) (mu ||| mSo gw onr onb) = rL (pC3 gw gh ed du) (gw * gh) (gw * gh) := by
  have hN := G.N
  unfold dAlone
  refine dIf_rL (d := fun a => (3, a, 1, false, oEd (nI gw) (nI (2 * (gw * gh))) (gAr gw gh) (gAb gw gh) (mOr gw gh ofr onr) (mOb gw gh ofb onb) a 4)) (q := fun c => ¬ du c = 1 ∧ cOn gw gh ed c = 0 ∧ cOp gw gh ed c = 1) hN ?_ ?_ ?_
  · intro c hc
    unfold dAloneM
    rw [bt_an, bt_an, bt_or, so_bt G R hc, op1_bt G R hc, op2_bt G R hc, R.mu c hc]
    simp only [Bool.or_eq_true, Bool.and_eq_true, decide_eq_true_eq, Bool.not_eq_true', decide_eq_false_iff_not, Bool.or_eq_false_iff, Bool.and_eq_false_iff]
    constructor
    · rintro ⟨⟨h1, h2⟩, h3, h4⟩
      have hl := cOp_cell G h1
      exact ⟨hl, h3.elim (fun z => absurd hl z) id, by omega, by omega⟩
    · rintro ⟨hl, h1, h2, h3⟩
      exact ⟨⟨by omega, by omega⟩, Or.inr h1, by omega⟩
  · intro i hi hq
    unfold pC3
    rw [cnt_on G (by omega), cnt_op G (by omega), if_pos hq, oEd_rOp G (R.op G) (by omega) false 4 (Nat.le_refl _)]
  · intro i hi hq
    unfold pC3
    rw [cnt_on G (by omega), cnt_op G (by omega), if_neg hq]
theorem D4 (G : GG gw gh) (R : Rel gw gh onr onb ofr ofb mu ba bl wh ed du sh) : dForced (nI gw) (nI (2 * (gw * gh))) (gAr gw gh) (gAb gw gh) mu (mOr gw gh ofr onr) (mOb gw gh ofb onb) (mNr gw gh ofr) (mNb gw gh ofb) (mOne gw onr onb) = rL (pC4 gw gh ed du) (gw * gh) (gw * gh) := by
  have hN := G.N
  unfold dForced
  refine dIf_rL (d := fun a => (4, a, 1, true, oEd (nI gw) (nI (2 * (gw * gh))) (gAr gw gh) (gAb gw gh) (mOr gw gh ofr onr) (mOb gw gh ofb onb) a 4)) (q := fun c => (du c = 1 ∨ cOn gw gh ed c = 1) ∧ ¬ cOp gw gh ed c ≤ 0 ∧ cOn gw gh ed c + cOp gw gh ed c = 2) hN ?_ ?_ ?_
  · intro c hc
    unfold dForcedM
    rw [bt_and, bt_and, bt_or, one_bt G R hc, bt_an, nf2_bt G R hc, nf3_bt G R hc, op1_bt G R hc, R.mu c hc]
    simp only [Bool.or_eq_true, Bool.and_eq_true, decide_eq_true_eq, Bool.not_eq_true', decide_eq_false_iff_not]
    constructor
    · rintro ⟨⟨h1, h2, h3⟩, h4⟩
      exact ⟨cOp_cell G h4, h1.imp (fun z => z.2) id, by omega, by omega⟩
    · rintro ⟨hl, h1, h2, h3⟩
      exact ⟨⟨h1.imp (fun z => ⟨hl, z⟩) id, by omega, by omega⟩, by omega⟩
  · intro i hi hq
    unfold pC4
    rw [cnt_on G (by omega), cnt_op G (by omega), if_pos hq, oEd_rOp G (R.op G) (by omega) true 4 (Nat.le_refl _)]
  · intro i hi hq
    unfold pC4
    rw [cnt_on G (by omega), cnt_op G (by omega), if_neg hq]
end D14
