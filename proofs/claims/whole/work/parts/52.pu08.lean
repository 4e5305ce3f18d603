/-! THE CLASS'S STATE AND THE REFERENCE'S: the same edges, duties and shades. -/
abbrev Rel (gw gh : Nat) (onr onb ofr ofb mu ba bl wh : Int64) (ed du sh : Nat → Int32) : Prop := (Rp gw gh (fun e => decide (ed e = 1)) onr onb) ∧ (Rp gw gh (fun e => decide (ed e = 2)) ofr ofb) ∧ (∀ e, isEn gw gh e = true → ed e = 0 ∨ ed e = 1 ∨ ed e = 2) ∧ (∀ c, c < 64 → bt mu c = (decide (c < gw * gh) && decide (du c = 1))) ∧ (∀ c, c < 64 → bt ba c = (decide (c < gw * gh) && decide (du c = 2))) ∧ (∀ c, c < gw * gh → du c = 0 ∨ du c = 1 ∨ du c = 2) ∧ (∀ c, c < 64 → bt bl c = (decide (c < gw * gh) && decide (sh c = 1))) ∧ (∀ c, c < 64 → bt wh c = (decide (c < gw * gh) && decide (sh c = 2))) ∧ (∀ c, c < gw * gh → sh c = 0 ∨ sh c = 1 ∨ sh c = 2)
theorem Rel.on {gw gh : Nat} {onr onb ofr ofb mu ba bl wh : Int64} {ed du sh : Nat → Int32} (h9 : Rel gw gh onr onb ofr ofb mu ba bl wh ed du sh) : Rp gw gh (fun e => decide (ed e = 1)) onr onb := h9.1
theorem Rel.off {gw gh : Nat} {onr onb ofr ofb mu ba bl wh : Int64} {ed du sh : Nat → Int32} (h9 : Rel gw gh onr onb ofr ofb mu ba bl wh ed du sh) : Rp gw gh (fun e => decide (ed e = 2)) ofr ofb := h9.2.1
theorem Rel.e3 {gw gh : Nat} {onr onb ofr ofb mu ba bl wh : Int64} {ed du sh : Nat → Int32} (h9 : Rel gw gh onr onb ofr ofb mu ba bl wh ed du sh) : ∀ e, isEn gw gh e = true → ed e = 0 ∨ ed e = 1 ∨ ed e = 2 := h9.2.2.1
theorem Rel.mu {gw gh : Nat} {onr onb ofr ofb mu ba bl wh : Int64} {ed du sh : Nat → Int32} (h9 : Rel gw gh onr onb ofr ofb mu ba bl wh ed du sh) : ∀ c, c < 64 → bt mu c = (decide (c < gw * gh) && decide (du c = 1)) := h9.2.2.2.1
theorem Rel.ba {gw gh : Nat} {onr onb ofr ofb mu ba bl wh : Int64} {ed du sh : Nat → Int32} (h9 : Rel gw gh onr onb ofr ofb mu ba bl wh ed du sh) : ∀ c, c < 64 → bt ba c = (decide (c < gw * gh) && decide (du c = 2)) := h9.2.2.2.2.1
theorem Rel.d3 {gw gh : Nat} {onr onb ofr ofb mu ba bl wh : Int64} {ed du sh : Nat → Int32} (h9 : Rel gw gh onr onb ofr ofb mu ba bl wh ed du sh) : ∀ c, c < gw * gh → du c = 0 ∨ du c = 1 ∨ du c = 2 := h9.2.2.2.2.2.1
theorem Rel.bl {gw gh : Nat} {onr onb ofr ofb mu ba bl wh : Int64} {ed du sh : Nat → Int32} (h9 : Rel gw gh onr onb ofr ofb mu ba bl wh ed du sh) : ∀ c, c < 64 → bt bl c = (decide (c < gw * gh) && decide (sh c = 1)) := h9.2.2.2.2.2.2.1
theorem Rel.wh {gw gh : Nat} {onr onb ofr ofb mu ba bl wh : Int64} {ed du sh : Nat → Int32} (h9 : Rel gw gh onr onb ofr ofb mu ba bl wh ed du sh) : ∀ c, c < 64 → bt wh c = (decide (c < gw * gh) && decide (sh c = 2)) := h9.2.2.2.2.2.2.2.1
theorem Rel.s3 {gw gh : Nat} {onr onb ofr ofb mu ba bl wh : Int64} {ed du sh : Nat → Int32} (h9 : Rel gw gh onr onb ofr ofb mu ba bl wh ed du sh) : ∀ c, c < gw * gh → sh c = 0 ∨ sh c = 1 ∨ sh c = 2 := h9.2.2.2.2.2.2.2.2
theorem v3 {x : Int32} (h : x = 0 ∨ x = 1 ∨ x = 2) : (!decide (x = 2)) = (decide (x = 1) || decide (x = 0)) ∧ ((!decide (x = 2)) && !decide (x = 1)) = decide (x = 0) := by
  rcases h with rfl | rfl | rfl <;> decide
section REL
variable {gw gh : Nat} {onr onb ofr ofb mu ba bl wh : Int64} {ed du sh : Nat → Int32}
theorem Rel.nf (G : GG gw gh) (R : Rel gw gh onr onb ofr ofb mu ba bl wh ed du sh) : Rp gw gh (fun e => !decide (ed e = 2)) (gAr gw gh &&& (ofr ^^^ (-1))) (gAb gw gh &&& (ofb ^^^ (-1))) :=
  Rp_congr (Rp_an (Rp_all G) R.off) (fun i _ => by simp)
theorem Rel.op (G : GG gw gh) (R : Rel gw gh onr onb ofr ofb mu ba bl wh ed du sh) : Rp gw gh (fun e => decide (ed e = 0)) ((gAr gw gh &&& (ofr ^^^ (-1))) &&& (onr ^^^ (-1))) ((gAb gw gh &&& (ofb ^^^ (-1))) &&& (onb ^^^ (-1))) :=
  Rp_congr (Rp_an (R.nf G) R.on) (fun i hi => (v3 (R.e3 i hi)).2)
theorem un_nf (R : Rel gw gh onr onb ofr ofb mu ba bl wh ed du sh) (c d : Nat) : b01 (un gw gh (fun e => !decide (ed e = 2)) c d) = b01 (un gw gh (fun e => decide (ed e = 1)) c d) + b01 (un gw gh (fun e => decide (ed e = 0)) c d) := by
  unfold un
  dsimp only
  cases q : isEn gw gh (dI gw c d)
  · cases dX gw c d <;> rfl
  · rcases R.e3 _ q with h | h | h <;> rw [h] <;> cases dX gw c d <;> rfl
theorem cn_nf (R : Rel gw gh onr onb ofr ofb mu ba bl wh ed du sh) (c : Nat) : cn gw gh (fun e => !decide (ed e = 2)) c = cn gw gh (fun e => decide (ed e = 1)) c + cn gw gh (fun e => decide (ed e = 0)) c := by
  unfold cn
  rw [un_nf R, un_nf R, un_nf R, un_nf R]
  omega
end REL
/-! First of a row. -/
abbrev DE : Type := Int32 × Int32 × Nat × Bool × List Int32
theorem rL_none {P : Nat → DEC} {N : Nat} : ∀ k, k ≤ N → (∀ i, N - k ≤ i → i < N → P i = none) → rL P N k = none := by
  intro k
  induction k with
  | zero => intro _ _; rfl
  | succ k ih =>
    intro hk h
    rw [rL_no (i := N - (k + 1)) rfl (h _ (Nat.le_refl _) (by omega))]
    exact ih (by omega) (fun i h1 h2 => h i (by omega) h2)
theorem rL_first {P : Nat → DEC} {N c : Nat} {d : DE} (hc : c < N) (hp : P c = some d) : ∀ k, k ≤ N → N - k ≤ c → (∀ i, N - k ≤ i → i < c → P i = none) → rL P N k = some d := by
  intro k
  induction k with
  | zero => intro _ h _; omega
  | succ k ih =>
    intro hk hl h
    by_cases q : c = N - (k + 1)
    · rw [rL_yes (i := c) q hp]
    · rw [rL_no (i := N - (k + 1)) rfl (h _ (Nat.le_refl _) (by omega))]
      exact ih (by omega) (by omega) (fun i h1 h2 => h i (by omega) h2)
theorem rL_n {P : Nat → DEC} {N : Nat} (h : ∀ i, i < N → P i = none) : rL P N N = none := rL_none N (Nat.le_refl _) (fun i _ h2 => h i h2)
theorem rL_f {P : Nat → DEC} {N c : Nat} {d : DE} (hc : c < N) (hp : P c = some d) (h : ∀ i, i < c → P i = none) : rL P N N = some d := rL_first hc hp N (Nat.le_refl _) (by omega) (fun i _ h2 => h i h2)
theorem rL_none_iff {P : Nat → DEC} {N : Nat} : ∀ k, k ≤ N → rL P N k = none → ∀ i, N - k ≤ i → i < N → P i = none := by
  intro k
  induction k with
  | zero => intro _ _ i h1 h2; omega
  | succ k ih =>
    intro hk h i h1 h2
    rcases e : P (N - (k + 1)) with _ | d
    · rw [rL_no (i := N - (k + 1)) rfl e] at h
      by_cases q : i = N - (k + 1)
      · rw [q]; exact e
      · exact ih (by omega) h i (by omega) h2
    · rw [rL_yes (i := N - (k + 1)) rfl e] at h; cases h
theorem rL_ni {P : Nat → DEC} {N : Nat} (h : rL P N N = none) : ∀ i, i < N → P i = none := fun i hi => rL_none_iff N (Nat.le_refl _) h i (by omega) hi
theorem dL_rL {P : Int32 → DEC} {P' : Nat → DEC} {N : Nat} (h : ∀ i, i < N → P (nI i) = P' i) : ∀ k, k ≤ N → dL P N k = rL P' N k := by
  intro k
  induction k with
  | zero => intro _; rfl
  | succ k ih => intro hk; rw [dL, rL, h _ (by omega), ih (by omega)]; rfl
theorem dIf_rL {x : Int64} {N : Nat} (hN : N ≤ 64) {q : Nat → Prop} {d : Int32 → DE} {P : Nat → DEC} (hx : ∀ c, c < 64 → (bt x c = true ↔ c < N ∧ q c)) (h1 : ∀ i, i < N → q i → P i = some (d (nI i))) (h0 : ∀ i, i < N → ¬ q i → P i = none) : dIf x (d (fLeast x)) = rL P N N := by
  by_cases z : x = 0
  · rw [dIf_0 z, rL_n]
    intro i hi
    refine h0 i hi (fun hq => ?_)
    have := (hx i (by omega)).mpr ⟨hi, hq⟩
    rw [z, bt_0] at this
    cases this
  · rw [dIf_1 z]
    obtain ⟨c, hc, h2, h3, h4⟩ := least_ex z
    obtain ⟨a1, a2⟩ := (hx c hc).mp h2
    rw [h4]
    refine (rL_f a1 (h1 c a1 a2) (fun i hi => h0 i (by omega) (fun hq => ?_))).symm
    have := (hx i (by omega)).mpr ⟨by omega, hq⟩
    rw [h3 i hi] at this
    cases this
/-! The edges that a cell's step changes. -/
theorem dI_ne {gw c d d' : Nat} (hw : 1 ≤ gw) (h : dX gw c d = true) (h' : dX gw c d' = true) (hd : d < 4) (hd' : d' < 4) (hne : d ≠ d') : dI gw c d ≠ dI gw c d' := by
  rcases (by omega : d = 0 ∨ d = 1 ∨ d = 2 ∨ d = 3) with rfl | rfl | rfl | rfl <;> rcases (by omega : d' = 0 ∨ d' = 1 ∨ d' = 2 ∨ d' = 3) with rfl | rfl | rfl | rfl <;> simp only [dX, dI, decide_eq_true_eq] at h h' ⊢ <;> omega
theorem dI_lt {gw c d : Nat} (hc : c < 64) (hd : d < 4) : dI gw c d < 128 := by
  rcases (by omega : d = 0 ∨ d = 1 ∨ d = 2 ∨ d = 3) with rfl | rfl | rfl | rfl <;> simp only [dI] <;> omega
theorem oEd_step {gw gh : Nat} (G : GG gw gh) {P : Nat → Bool} {opr opb : Int64} (h : Rp gw gh P opr opb) {c k : Nat} (hc : c < 64) (hk : k < 4) : oEd (nI gw) (nI (2 * (gw * gh))) (gAr gw gh) (gAb gw gh) opr opb (nI c) (k + 1) = (if un gw gh P c (4 - (k + 1)) = true then [nI (dI gw c (4 - (k + 1)))] else []) ++ oEd (nI gw) (nI (2 * (gw * gh))) (gAr gw gh) (gAb gw gh) opr opb (nI c) k := by
  have hl := dI_lt (gw := gw) (d := 4 - (k + 1)) hc (by omega)
  have e := edgeOf_eq G hc (d := 4 - (k + 1)) (by omega)
  unfold un
  rw [← Bool.and_assoc]
  cases q : (dX gw c (4 - (k + 1)) && isEn gw gh (dI gw c (4 - (k + 1))))
  · rw [q, if_neg Bool.false_ne_true] at e
    rw [oEd_none e, Bool.false_and, if_neg Bool.false_ne_true]; rfl
  · rw [q, if_pos rfl] at e
    have hne : ¬ fEdgeOf (nI gw) (nI (2 * (gw * gh))) (gAr gw gh) (gAb gw gh) (nI c) (nI (4 - (k + 1))) = -1 := by
      rw [e]; intro z
      exact absurd (show nI (dI gw c (4 - (k + 1))) < 0 by rw [z]; decide) (nI_pos (by omega))
    have hi : isEn gw gh (dI gw c (4 - (k + 1))) = true := (Bool.and_eq_true _ _ ▸ q).2
    have hh : fHas opr opb (fEdgeOf (nI gw) (nI (2 * (gw * gh))) (gAr gw gh) (gAb gw gh) (nI c) (nI (4 - (k + 1)))) = P (dI gw c (4 - (k + 1))) := by rw [e, Rp_has h hl, hi, Bool.true_and]
    rw [Bool.true_and]
    cases p : P (dI gw c (4 - (k + 1)))
    · rw [oEd_not hne (hh.trans p), if_neg Bool.false_ne_true]; rfl
    · rw [oEd_take hne (hh.trans p), e, if_pos rfl]; rfl
theorem rOp_congr {gw gh : Nat} (G : GG gw gh) {z : Bool} {c : Nat} (hc : c < 64) : ∀ k, k ≤ 4 → ∀ ed ed' : Nat → Int32, (∀ d, 4 - k ≤ d → d < 4 → dX gw c d = true → ed (dI gw c d) = ed' (dI gw c d)) → rOp gw gh z c k ed = rOp gw gh z c k ed' := by
  intro k
  induction k with
  | zero => intro _ _ _ _; rfl
  | succ k ih =>
    intro hk ed ed' h
    have e := rEOf_eq G hc (d := 4 - (k + 1)) (by omega)
    have hl := dI_lt (gw := gw) (d := 4 - (k + 1)) hc (by omega)
    have ih' := ih (by omega) ed ed' (fun d h1 h2 h3 => h d (by omega) h2 h3)
    cases q : (dX gw c (4 - (k + 1)) && isEn gw gh (dI gw c (4 - (k + 1))))
    · rw [q, if_neg Bool.false_ne_true] at e
      rw [rOp_none (by rw [e]; decide), rOp_none (by rw [e]; decide), ih']
    · rw [q, if_pos rfl] at e
      have hx : dX gw c (4 - (k + 1)) = true := (Bool.and_eq_true _ _ ▸ q).1
      have hv := h (4 - (k + 1)) (Nat.le_refl _) (by omega) hx
      have hcl : (rEOf gw gh c (4 - (k + 1))).toNatClampNeg = dI gw c (4 - (k + 1)) := by rw [e, nI_clamp (by omega)]
      have hn : ¬ rEOf gw gh c (4 - (k + 1)) < 0 := by rw [e]; exact nI_pos (by omega)
      by_cases p : ed (dI gw c (4 - (k + 1))) = 0
      · rw [rOp_take hn (by rw [hcl]; exact p), rOp_take hn (by rw [hcl, ← hv]; exact p), hcl]
        congr 1
        exact ih (by omega) _ _ (fun d h1 h2 h3 => by
          unfold upd
          split
          · rfl
          · exact h d (by omega) h2 h3)
      · rw [rOp_not hn (by rw [hcl]; exact p), rOp_not hn (by rw [hcl, ← hv]; exact p), ih']
theorem rOp_step {gw gh : Nat} (G : GG gw gh) {z : Bool} {ed : Nat → Int32} {c k : Nat} (hc : c < 64) (hk : k < 4) : rOp gw gh z c (k + 1) ed = (if un gw gh (fun e => decide (ed e = 0)) c (4 - (k + 1)) = true then [nI (dI gw c (4 - (k + 1)))] else []) ++ rOp gw gh z c k ed := by
  have e := rEOf_eq G hc (d := 4 - (k + 1)) (by omega)
  have hl := dI_lt (gw := gw) (d := 4 - (k + 1)) hc (by omega)
  unfold un
  dsimp only
  rw [← Bool.and_assoc]
  cases q : (dX gw c (4 - (k + 1)) && isEn gw gh (dI gw c (4 - (k + 1))))
  · rw [q, if_neg Bool.false_ne_true] at e
    rw [rOp_none (by rw [e]; decide), Bool.false_and, if_neg Bool.false_ne_true]; rfl
  · rw [q, if_pos rfl] at e
    have hx : dX gw c (4 - (k + 1)) = true := (Bool.and_eq_true _ _ ▸ q).1
    have hcl : (rEOf gw gh c (4 - (k + 1))).toNatClampNeg = dI gw c (4 - (k + 1)) := by rw [e, nI_clamp (by omega)]
    have hn : ¬ rEOf gw gh c (4 - (k + 1)) < 0 := by rw [e]; exact nI_pos (by omega)
    rw [Bool.true_and]
    by_cases p : ed (dI gw c (4 - (k + 1))) = 0
    · rw [rOp_take hn (by rw [hcl]; exact p), hcl, e, decide_eq_true p, if_pos rfl]
      show _ :: _ = _ :: _
      congr 1
      exact rOp_congr G hc k (by omega) _ _ (fun d h1 h2 h3 => pk_un (dI_ne G.w1 h3 hx h2 (by omega) (by omega)))
    · rw [rOp_not hn (by rw [hcl]; exact p), decide_eq_false p, if_neg Bool.false_ne_true]; rfl
theorem oEd_rOp {gw gh : Nat} (G : GG gw gh) {ed : Nat → Int32} {opr opb : Int64} (h : Rp gw gh (fun e => decide (ed e = 0)) opr opb) {c : Nat} (hc : c < 64) (z : Bool) : ∀ k, k ≤ 4 → oEd (nI gw) (nI (2 * (gw * gh))) (gAr gw gh) (gAb gw gh) opr opb (nI c) k = rOp gw gh z c k ed := by
  intro k
  induction k with
  | zero => intro _; rfl
  | succ k ih => intro hk; rw [oEd_step G h hc (by omega), rOp_step G hc (by omega), ih (by omega)]
