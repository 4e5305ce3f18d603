/-! SHADES: MANY, PARTS, CUT. -/
section D1012
variable {gw gh : Nat} {onr onb ofr ofb mu ba bl wh : Int64} {ed du sh : Nat → Int32}
theorem opS_bt (G : GG gw gh) (R : Rel gw gh onr onb ofr ofb mu ba bl wh ed du sh) {c : Nat} (hc : c < 64) : bt (fOpS (gCe gw gh) bl wh) c = (decide (c < gw * gh) && decide (sh c = 0)) := by
  unfold fOpS
  rw [bt_an, bt_an, ce_bt G, R.bl c hc, R.wh c hc]
  by_cases h : c < gw * gh
  · rw [decide_eq_true h]
    rcases R.s3 c h with q | q | q <;> rw [q] <;> decide
  · rw [decide_eq_false h]; rfl
theorem nw_bt (G : GG gw gh) (R : Rel gw gh onr onb ofr ofb mu ba bl wh ed du sh) {c : Nat} (hc : c < 64) : bt (gCe gw gh &&& (wh ^^^ (-1))) c = (decide (c < gw * gh) && !decide (sh c = 2)) := by
  rw [bt_an, ce_bt G, R.wh c hc]
  by_cases h : c < gw * gh
  · rw [decide_eq_true h, Bool.true_and, Bool.true_and, Bool.true_and]
  · rw [decide_eq_false h]; rfl
theorem cB_N {x : Int64} {N : Nat} {q : Nat → Bool} (hN : N ≤ 64) (h : ∀ c, c < 64 → bt x c = (decide (c < N) && q c)) : cB x = rCt q N N := by
  unfold cB
  rw [rCt_sm, sm_ext hN (fun i h1 h2 => by rw [h i h2, decide_eq_false (by omega)]; rfl)]
  refine sm_congr (fun i hi => ?_)
  rw [h i (by omega), decide_eq_true hi]; rfl
theorem rSh_congr {z : Bool} {N : Nat} : ∀ k, k ≤ N → ∀ f g : Nat → Int32, (∀ i, N - k ≤ i → i < N → f i = g i) → rSh z N k f = rSh z N k g := by
  intro k
  induction k with
  | zero => intro _ _ _ _; rfl
  | succ k ih =>
    intro hk f g h
    have hv := h (N - (k + 1)) (Nat.le_refl _) (by omega)
    by_cases q : f (N - (k + 1)) = 0
    · rw [rSh_take rfl q, rSh_take rfl (hv ▸ q)]
      congr 1
      refine ih (by omega) _ _ (fun i h1 h2 => ?_)
      unfold upd
      split
      · rfl
      · exact h i (by omega) h2
    · rw [rSh_not rfl q, rSh_not rfl (hv ▸ q)]
      exact ih (by omega) _ _ (fun i h1 h2 => h i (by omega) h2)
theorem oSh_rSh {x : Int64} {N : Nat} {z : Bool} {f : Nat → Int32} (hN : N ≤ 64) (h : ∀ c, c < N → bt x c = decide (f c = 0)) : ∀ k, k ≤ N → oSh x N k = rSh z N k f := by
  intro k
  induction k with
  | zero => intro _; rfl
  | succ k ih =>
    intro hk
    rw [oSh, holds_bt (by omega), h _ (by omega)]
    by_cases q : f (N - (k + 1)) = 0
    · rw [decide_eq_true q, if_pos rfl, rSh_take rfl q, ih (by omega)]
      congr 1
      exact rSh_congr k (by omega) _ _ (fun i h1 h2 => (pk_un (by omega)).symm)
    · rw [decide_eq_false q, if_neg Bool.false_ne_true, rSh_not rfl q, ih (by omega)]
theorem D10 (G : GG gw gh) (R : Rel gw gh onr onb ofr ofb mu ba bl wh ed du sh) {to : Int32} (ht : to = -1 ∨ ¬ to < 0) : dMany to (gCe gw gh) bl wh (gw * gh) = dMa gw gh sh to := by
  have hN := G.N
  have hB : fBc bl = nI (rCt (fun i => decide (sh i = 1)) (gw * gh) (gw * gh)) := by rw [fBc_eq, cB_N hN R.bl]
  have hW : fBc (gCe gw gh &&& (wh ^^^ (-1))) = nI (rCt (fun i => decide (sh i = 1)) (gw * gh) (gw * gh) + rCt (fun i => decide (sh i = 0)) (gw * gh) (gw * gh)) := by
    rw [fBc_eq, cB_N hN (fun c hc => nw_bt G R hc), rCt_sm, rCt_sm, rCt_sm, ← sm_add]
    congr 1
    refine sm_congr (fun i hi => ?_)
    rcases R.s3 i hi with q | q | q <;> rw [q] <;> decide
  have hl := rCt_le (fun i => decide (sh i = 1)) (gw * gh) (gw * gh)
  have hl0 := rCt_le (fun i => decide (sh i = 0)) (gw * gh) (gw * gh)
  unfold dMany dMa
  rw [hB, hW]
  generalize rCt (fun i => decide (sh i = 1)) (gw * gh) (gw * gh) = B at hl ⊢
  generalize rCt (fun i => decide (sh i = 0)) (gw * gh) (gw * gh) = O at hl0 ⊢
  by_cases h1 : to = -1
  · rw [if_pos h1, if_pos (by rw [h1]; decide)]
  · have h0 : ¬ to < 0 := ht.elim (fun q => absurd q h1) id
    rw [if_neg h1, if_neg h0]
    by_cases h2 : to < nI B
    · rw [if_pos h2, if_pos h2]
    · rw [if_neg h2, if_neg h2]
      by_cases h3 : to ≤ nI (B + O)
      · rw [if_pos h3, if_pos h3]
        by_cases h4 : O = 0
        · rw [if_pos (show nI B = nI (B + O) by rw [h4]; rfl), if_pos h4]
        · have h5 : ¬ nI B = nI (B + O) := fun q => h4 (by have := (nI_eq (by omega) (by omega)).mp q; omega)
          rw [if_neg h5, if_neg h4]
          by_cases h6 : nI B = to
          · have h7 : ¬ nI (B + O) = to := fun q => h5 (h6.trans q.symm)
            rw [if_pos h6, if_pos (Or.inl h6), decide_eq_false h7, show decide (¬ nI B = to) = false from decide_eq_false (fun q => q h6), oSh_rSh (z := false) (f := sh) hN (fun c hc => by rw [opS_bt G R (by omega), decide_eq_true hc]; rfl) _ (Nat.le_refl _)]
          · rw [if_neg h6]
            by_cases h7 : nI (B + O) = to
            · rw [if_pos h7, if_pos (Or.inr h7), decide_eq_true h7, show decide (¬ nI B = to) = true from decide_eq_true h6, oSh_rSh (z := true) (f := sh) hN (fun c hc => by rw [opS_bt G R (by omega), decide_eq_true hc]; rfl) _ (Nat.le_refl _)]
            · rw [if_neg h7, if_neg (fun q => q.elim h6 h7)]
      · rw [if_neg h3, if_neg h3]
theorem Rp_in (G : GG gw gh) {x : Int64} {Q : Nat → Bool} (h : ∀ c, c < 64 → bt x c = (decide (c < gw * gh) && Q c)) : Rp gw gh (fun e => Q (e / 2) && Q (oth gw e)) ((gAr gw gh &&& x) &&& fUshr x 1) ((gAb gw gh &&& x) &&& fUshr x (nI gw)) := by
  have hN := G.N
  have h8 := G.w8
  intro c hc
  rw [bt_and (gAr gw gh &&& x), bt_and (gAr gw gh), bt_and (gAb gw gh &&& x), bt_and (gAb gw gh), show (1 : Int32) = nI 1 from rfl, bt_ushr (by decide), bt_ushr (by omega), ar_bt G, ab_bt G, h c hc]
  dsimp only
  constructor
  · cases e : isEn gw gh (2 * c)
    · rfl
    · have ho := oth_lt e G.w1 G.w8 G.h8
      have hcN := isEn_c e
      have hoN : oth gw (2 * c) < gw * gh := by
        have hu : un gw gh (fun _ => true) (oth gw (2 * c)) 3 = true := by
          unfold un; rw [dX_3, dI_3, oth_r, show c + 1 - 1 = c by omega, e, decide_eq_true (by omega)]; rfl
        exact un_cell G hu
      rw [oth_r] at ho hoN ⊢
      rw [show 1 + c = c + 1 by omega, h (c + 1) ho, decide_eq_true hoN, show 2 * c / 2 = c by omega, decide_eq_true (by omega : c < gw * gh)]
      cases Q c <;> rfl
  · cases e : isEn gw gh (2 * c + 1)
    · rfl
    · have ho := oth_lt e G.w1 G.w8 G.h8
      have hcN := isEn_c e
      have hoN : oth gw (2 * c + 1) < gw * gh := by
        have hu : un gw gh (fun _ => true) (oth gw (2 * c + 1)) 0 = true := by
          unfold un; rw [dX_0, dI_0, oth_b, show c + gw - gw = c by omega, e, decide_eq_true (by omega)]; rfl
        exact un_cell G hu
      rw [oth_b] at ho hoN ⊢
      rw [show gw + c = c + gw by omega, h (c + gw) ho, decide_eq_true hoN, show (2 * c + 1) / 2 = c by omega, decide_eq_true (by omega : c < gw * gh)]
      cases Q c <;> rfl
theorem spart_bt (G : GG gw gh) {x : Int64} {Q : Nat → Bool} (h : ∀ c, c < 64 → bt x c = (decide (c < gw * gh) && Q c)) {f : Nat} (hf : f < 64) (hq : Q f = true) (c : Nat) : bt (fSPart (nI gw) (gAr gw gh) (gAb gw gh) (nI f) x) c = !decide (rcT gw gh Q f c = 0) := by
  have key : bt (fSPart (nI gw) (gAr gw gh) (gAb gw gh) (nI f) x) c = true ↔ ¬ rcT gw gh Q f c = 0 := by
    unfold fSPart
    rw [reach_bt G (Rp_in G h) hf, rcT_0, Classical.not_not, RchS_eq hq]
  by_cases q : rcT gw gh Q f c = 0
  · rw [decide_eq_true q]
    cases e : bt (fSPart (nI gw) (gAr gw gh) (gAb gw gh) (nI f) x) c
    · rfl
    · exact absurd q (key.mp e)
  · rw [decide_eq_false q]; exact key.mpr q
theorem rFst_fst {P : Nat → Bool} {N c : Nat} (hc : c < N) (hp : P c = true) (hl : ∀ i, i < c → P i = false) : rFst P N N = nI c := by
  have h : ∀ k, k ≤ N → N - k ≤ c → rFst P N k = nI c := by
    intro k
    induction k with
    | zero => intro _ h; omega
    | succ k ih =>
      intro hk h
      rw [rFst]
      by_cases q : c = N - (k + 1)
      · rw [← q, hp, if_pos rfl]
      · rw [hl _ (by omega), if_neg Bool.false_ne_true]
        exact ih (by omega) (by omega)
  exact h N (Nat.le_refl _) (by omega)
theorem rFst_none {P : Nat → Bool} {N : Nat} (h : ∀ i, i < N → P i = false) : rFst P N N = -1 := by
  have g : ∀ k, k ≤ N → rFst P N k = -1 := by
    intro k
    induction k with
    | zero => intro _; rfl
    | succ k ih => intro hk; rw [rFst, h _ (by omega), if_neg Bool.false_ne_true]; exact ih (by omega)
  exact g N (Nat.le_refl _)
theorem usS_m1 {i : Nat} (hi : i < 2 ^ 31) : usS sh (-1) i = !decide (sh i = 2) := by
  unfold usS
  rw [show decide (¬ nI i = -1) = true from decide_eq_true (fun q => absurd (show nI i < 0 by rw [q]; decide) (nI_pos hi)), Bool.and_true]
  simp
theorem usS_n {i j : Nat} (hi : i < 2 ^ 31) (hj : j < 2 ^ 31) : usS sh (nI j) i = ((!decide (sh i = 2)) && !decide (i = j)) := by
  unfold usS
  rw [show decide (¬ nI i = nI j) = !decide (i = j) from ?_]
  · simp
  · by_cases q : i = j
    · subst q; simp
    · rw [decide_eq_false q]; exact decide_eq_true (fun z => q ((nI_eq hi hj).mp z))
theorem D11 (G : GG gw gh) (R : Rel gw gh onr onb ofr ofb mu ba bl wh ed du sh) : dOr (dParts (nI gw) (gAr gw gh) (gAb gw gh) (gCe gw gh) bl wh) (dCut (nI gw) (gAr gw gh) (gAb gw gh) (gCe gw gh) bl wh (gw * gh)) = dSp gw gh sh := by
  have hN := G.N
  unfold dParts dCut dSp
  by_cases hz : bl = 0
  · rw [if_pos hz, if_pos hz, rFst_none (fun i hi => by
      have := R.bl i (by omega)
      rw [hz, bt_0, decide_eq_true hi, Bool.true_and] at this
      exact this.symm), if_pos (by decide)]; rfl
  · rw [if_neg hz, if_neg hz]
    obtain ⟨f, hf, b1, b2, b3⟩ := least_ex hz
    have b1' := b1
    rw [R.bl f hf, Bool.and_eq_true, decide_eq_true_eq, decide_eq_true_eq] at b1'
    have hfst : rFst (fun i => decide (sh i = 1)) (gw * gh) (gw * gh) = nI f := rFst_fst b1'.1 (decide_eq_true b1'.2) (fun i hi => by
      have := R.bl i (by omega)
      rw [b2 i hi, decide_eq_true (by omega), Bool.true_and] at this
      exact this.symm)
    rw [hfst, if_neg (nI_pos (by omega)), nI_clamp (by omega)]
    have hpt : ∀ c, bt (fBPart (nI gw) (gAr gw gh) (gAb gw gh) (gCe gw gh) bl wh) c = !decide (rcT gw gh (usS sh (-1)) f c = 0) := by
      intro c
      unfold fBPart
      rw [b3]
      exact spart_bt G (fun c hc => by rw [nw_bt G R hc, usS_m1 (by omega)]) hf (by rw [usS_m1 (by omega), b1'.2]; decide) c
    generalize fBPart (nI gw) (gAr gw gh) (gAb gw gh) (gCe gw gh) bl wh = pt at hpt ⊢
    generalize rcT gw gh (usS sh (-1)) f = rc at hpt ⊢
    have hS1 : dIf (bl &&& (pt ^^^ (-1))) (11, fLeast (bl &&& (pt ^^^ (-1))), 0, false, []) = rL (pS1 sh rc) (gw * gh) (gw * gh) := by
      refine dIf_rL (d := fun a => (11, a, 0, false, [])) (q := fun c => sh c = 1 ∧ rc c = 0) hN ?_ ?_ ?_
      · intro c hc
        rw [bt_an, hpt, R.bl c hc, Bool.not_not]
        simp only [Bool.and_eq_true, decide_eq_true_eq]
        exact ⟨fun h => ⟨h.1.1, h.1.2, h.2⟩, fun h => ⟨⟨h.1, h.2.1⟩, h.2.2⟩⟩
      · intro i hi hq; unfold pS1; rw [if_pos hq]
      · intro i hi hq; unfold pS1; rw [if_neg hq]
    have hS2 : dIf (fOpS (gCe gw gh) bl wh &&& (pt ^^^ (-1))) (11, fLeast (fOpS (gCe gw gh) bl wh &&& (pt ^^^ (-1))), 2, false, [fLeast (fOpS (gCe gw gh) bl wh &&& (pt ^^^ (-1)))]) = rL (pS2 sh rc) (gw * gh) (gw * gh) := by
      refine dIf_rL (d := fun a => (11, a, 2, false, [a])) (q := fun c => sh c = 0 ∧ rc c = 0) hN ?_ ?_ ?_
      · intro c hc
        rw [bt_an, hpt, opS_bt G R hc, Bool.not_not]
        simp only [Bool.and_eq_true, decide_eq_true_eq]
        exact ⟨fun h => ⟨h.1.1, h.1.2, h.2⟩, fun h => ⟨⟨h.1, h.2.1⟩, h.2.2⟩⟩
      · intro i hi hq; unfold pS2; rw [if_pos hq]
      · intro i hi hq; unfold pS2; rw [if_neg hq]
    have hS3 : dL (pCut (nI gw) (gAr gw gh) (gAb gw gh) (gCe gw gh) bl wh) (gw * gh) (gw * gh) = rL (pS3 gw gh sh f) (gw * gh) (gw * gh) := by
      refine dL_rL (fun i hi => ?_) _ (Nat.le_refl _)
      unfold pCut pS3
      rw [holds_bt (by omega), opS_bt G R (by omega), decide_eq_true hi, Bool.true_and]
      by_cases q : sh i = 0
      · have hne : f ≠ i := fun z => by rw [← z, b1'.2] at q; exact absurd q (by decide)
        have hcw : ∀ c, c < 64 → bt (fCutW (gCe gw gh) wh (nI i)) c = (decide (c < gw * gh) && usS sh (nI i) c) := fun c hc => by
          unfold fCutW
          rw [bt_an, nw_bt G R hc, bt_only (by omega), usS_n (by omega) (by omega), Bool.and_assoc]
        have hcu : fCuts (nI gw) (gAr gw gh) (gAb gw gh) (gCe gw gh) bl wh (nI i) = true ↔ rAny (fun b => decide (sh b = 1) && decide (rcT gw gh (usS sh (nI i)) f b = 0)) (gw * gh) (gw * gh) = true := by
          unfold fCuts
          rw [decide_eq_true_eq, ne0_bt, rAny_iff, b3]
          have hsp := fun c => spart_bt G hcw hf (by rw [usS_n (by omega) (by omega), b1'.2, decide_eq_false hne]; decide) c
          constructor
          · rintro ⟨c, hc, h⟩
            rw [bt_an, hsp, R.bl c hc, Bool.not_not] at h
            simp only [Bool.and_eq_true, decide_eq_true_eq] at h
            exact ⟨c, h.1.1, by simp only [Bool.and_eq_true, decide_eq_true_eq]; exact ⟨h.1.2, h.2⟩⟩
          · rintro ⟨c, hc, h⟩
            simp only [Bool.and_eq_true, decide_eq_true_eq] at h
            refine ⟨c, by omega, ?_⟩
            rw [bt_an, hsp, R.bl c (by omega), Bool.not_not]
            simp only [Bool.and_eq_true, decide_eq_true_eq]
            exact ⟨⟨hc, h.1⟩, h.2⟩
        rw [decide_eq_true q, if_pos rfl]
        by_cases w : rAny (fun b => decide (sh b = 1) && decide (rcT gw gh (usS sh (nI i)) f b = 0)) (gw * gh) (gw * gh) = true
        · rw [if_pos (hcu.mpr w), if_pos ⟨q, w⟩]
        · rw [if_neg (fun z => w (hcu.mp z)), if_neg (fun z => w z.2)]
      · rw [decide_eq_false q, if_neg Bool.false_ne_true, if_neg (fun z => q z.1)]
    rw [← hS1, ← hS2, ← hS3]
    by_cases hx : bl &&& (pt ^^^ (-1)) = 0
    · rw [if_pos hx, dIf_0 hx]; rfl
    · rw [if_neg hx, dIf_1 hx]; rfl
end D1012
theorem dOr_c {a b b' : DEC} (h : a = none → b = b') : dOr a b = dOr a b' := by
  cases a with
  | none => exact h rfl
  | some d => rfl
theorem dOr_as {a b c : DEC} : dOr (dOr a b) c = dOr a (dOr b c) := by
  cases a with
  | none => rfl
  | some d => rfl
/-- THE FIRST STEP OF THE CLASS IS THE REFERENCE'S -/
theorem first_next {gw gh : Nat} (G : GG gw gh) {onr onb ofr ofb mu ba bl wh : Int64} {ed du sh : Nat → Int32} (R : Rel gw gh onr onb ofr ofb mu ba bl wh ed du sh) {to : Int32} (ht : to = -1 ∨ ¬ to < 0) : dFirst gw gh (gCe gw gh) (gAr gw gh) (gAb gw gh) onr onb ofr ofb mu ba bl wh to = dNext gw gh to ed du sh := by
  unfold dFirst dNext
  rw [dOr_as, dOr_as, dOr_as, dOr_as]
  have e1 := D1 G R
  rw [← e1]
  refine dOr_c (fun h1 => ?_)
  rw [e1] at h1
  have hC := noC1 G h1
  rw [← D2 G R hC, ← D3 G R, ← D4 G R, ← D5 G R hC, ← D6 G R, ← D7 G R, ← D8 G R, ← D9 G R, ← D10 G R ht, ← D11 G R]
