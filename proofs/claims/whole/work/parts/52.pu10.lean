/-! LOOPS: CLOSED and EARLY. -/
theorem rAny_iff {P : Nat → Bool} {N : Nat} : rAny P N N = true ↔ ∃ i, i < N ∧ P i = true := by
  have h : ∀ k, k ≤ N → (rAny P N k = true ↔ ∃ i, N - k ≤ i ∧ i < N ∧ P i = true) := by
    intro k
    induction k with
    | zero => intro _; exact ⟨fun q => (by cases q), fun ⟨i, h1, h2, _⟩ => by omega⟩
    | succ k ih =>
      intro hk
      rw [rAny]
      by_cases q : P (N - (k + 1)) = true
      · rw [if_pos q]; exact ⟨fun _ => ⟨N - (k + 1), Nat.le_refl _, by omega, q⟩, fun _ => rfl⟩
      · rw [if_neg q, ih (by omega)]
        constructor
        · rintro ⟨i, h1, h2, h3⟩; exact ⟨i, by omega, h2, h3⟩
        · rintro ⟨i, h1, h2, h3⟩
          refine ⟨i, ?_, h2, h3⟩
          by_cases e : i = N - (k + 1)
          · subst e; exact absurd h3 q
          · omega
  rw [h N (Nat.le_refl _)]
  exact ⟨fun ⟨i, _, h2, h3⟩ => ⟨i, h2, h3⟩, fun ⟨i, h2, h3⟩ => ⟨i, by omega, h2, h3⟩⟩
theorem un_end {gw gh : Nat} {P : Nat → Bool} {c d : Nat} (h : un gw gh P c d = true) : isEn gw gh (dI gw c d) = true ∧ P (dI gw c d) = true ∧ (c = dI gw c d / 2 ∨ c = oth gw (dI gw c d)) := by
  simp only [un, Bool.and_eq_true] at h
  obtain ⟨hx, he, hp⟩ := h
  refine ⟨he, hp, ?_⟩
  match d with
  | 0 =>
    have hx : gw ≤ c := of_decide_eq_true hx
    right
    show c = oth gw (2 * (c - gw) + 1)
    rw [oth_b]; omega
  | 1 => left; show c = 2 * c / 2; omega
  | 2 => left; show c = (2 * c + 1) / 2; omega
  | k + 3 =>
    have hx : 1 ≤ c := of_decide_eq_true hx
    right
    show c = oth gw (2 * (c - 1))
    rw [oth_r]; omega
theorem cn_pos {gw gh : Nat} {P : Nat → Bool} {c : Nat} : 1 ≤ cn gw gh P c ↔ ∃ e, isEn gw gh e = true ∧ P e = true ∧ (c = e / 2 ∨ c = oth gw e) := by
  constructor
  · intro h
    unfold cn at h
    rcases e0 : un gw gh P c 0 with _ | _
    · rcases e1 : un gw gh P c 1 with _ | _
      · rcases e2 : un gw gh P c 2 with _ | _
        · rcases e3 : un gw gh P c 3 with _ | _
          · rw [e0, e1, e2, e3] at h; exact absurd h (by decide)
          · exact ⟨_, un_end e3⟩
        · exact ⟨_, un_end e2⟩
      · exact ⟨_, un_end e1⟩
    · exact ⟨_, un_end e0⟩
  · rintro ⟨e, he, hp, hc⟩
    have key : ∀ d, d < 4 → un gw gh P c d = true → 1 ≤ cn gw gh P c := by
      intro d hd hu
      unfold cn
      rcases (by omega : d = 0 ∨ d = 1 ∨ d = 2 ∨ d = 3) with rfl | rfl | rfl | rfl <;> rw [hu] <;> simp only [b01, if_true] <;> omega
    by_cases q : e % 2 = 0
    · obtain ⟨m, rfl⟩ : ∃ m, e = 2 * m := ⟨e / 2, by omega⟩
      rcases hc with hc | hc
      · obtain rfl : c = m := by omega
        exact key 1 (by decide) (by unfold un; rw [dX_1, dI_1, he, hp]; rfl)
      · rw [oth_r] at hc
        subst hc
        exact key 3 (by decide) (by unfold un; rw [dX_3, dI_3, show m + 1 - 1 = m by omega, he, hp, decide_eq_true (by omega)]; rfl)
    · obtain ⟨m, rfl⟩ : ∃ m, e = 2 * m + 1 := ⟨e / 2, by omega⟩
      rcases hc with hc | hc
      · obtain rfl : c = m := by omega
        exact key 2 (by decide) (by unfold un; rw [dX_2, dI_2, he, hp]; rfl)
      · rw [oth_b] at hc
        subst hc
        exact key 0 (by decide) (by unfold un; rw [dX_0, dI_0, show m + gw - gw = m by omega, he, hp, decide_eq_true (by omega)]; rfl)
theorem usE_on {gw gh : Nat} (G : GG gw gh) {ed : Nat → Int32} (i : Nat) (hi : isEn gw gh i = true) : usE ed true (-1) i = decide (ed i = 1) := by
  have hN := G.N
  have := isEn_lt hi
  unfold usE
  rw [show decide (¬ nI i = -1) = true from decide_eq_true (fun q => absurd (show nI i < 0 by rw [q]; decide) (nI_pos (by omega))), Bool.true_and, if_pos rfl]
theorem usE_nf {gw gh : Nat} (G : GG gw gh) {ed : Nat → Int32} (i : Nat) (hi : isEn gw gh i = true) : usE ed false (-1) i = !decide (ed i = 2) := by
  have hN := G.N
  have := isEn_lt hi
  unfold usE
  rw [show decide (¬ nI i = -1) = true from decide_eq_true (fun q => absurd (show nI i < 0 by rw [q]; decide) (nI_pos (by omega))), Bool.true_and, if_neg Bool.false_ne_true]
  simp
section D56
variable {gw gh : Nat} {onr onb ofr ofb mu ba bl wh : Int64} {ed du sh : Nat → Int32}
/-- joined by edges ON -/
def Jn (gw gh : Nat) (ed : Nat → Int32) (a c : Nat) : Prop := Rch gw gh (fun e => decide (ed e = 1)) a c
def More (gw gh : Nat) (ed du : Nat → Int32) (a : Nat) : Prop := ∃ c, c < gw * gh ∧ (du c = 1 ∨ 1 ≤ cOn gw gh ed c) ∧ ¬ Jn gw gh ed a c
theorem cOn_pos {c : Nat} : 1 ≤ cOn gw gh ed c ↔ ∃ e, isEn gw gh e = true ∧ ed e = 1 ∧ (c = e / 2 ∨ c = oth gw e) := by
  have := cn_pos (gw := gw) (gh := gh) (P := fun e => decide (ed e = 1)) (c := c)
  simp only [decide_eq_true_eq] at this
  exact this
theorem rcJ (G : GG gw gh) {a c : Nat} : rcS gw gh (usE ed true (-1)) a c = 0 ↔ ¬ Jn gw gh ed a c := by
  rw [rcS_0]
  exact not_congr (Rch_congr (usE_on G))
theorem mo_iff (G : GG gw gh) {a : Nat} : rMo gw gh ed du (rcS gw gh (usE ed true (-1)) a) = true ↔ More gw gh ed du a := by
  unfold rMo
  rw [Bool.or_eq_true, rAny_iff, rAny_iff]
  simp only [Bool.and_eq_true, decide_eq_true_eq, rcJ G]
  constructor
  · rintro (⟨e, _, he, h1, h2⟩ | ⟨c, hc, h1, h2⟩)
    · exact ⟨e / 2, isEn_c he, Or.inr (cOn_pos.mpr ⟨e, he, h1, Or.inl rfl⟩), h2⟩
    · exact ⟨c, hc, Or.inl h1, h2⟩
  · rintro ⟨c, hc, h1 | h1, h2⟩
    · exact Or.inr ⟨c, hc, h1, h2⟩
    · obtain ⟨e, he, h3, h4⟩ := cOn_pos.mp h1
      refine Or.inl ⟨e, isEn_lt he, he, h3, fun q => h2 ?_⟩
      rcases h4 with h4 | h4
      · rw [h4]; exact q
      · rw [h4]; exact Rch_tr q (Rch_e1 he (decide_eq_true h3))
theorem ne_bt (G : GG gw gh) (R : Rel gw gh onr onb ofr ofb mu ba bl wh ed du sh) {c : Nat} (hc : c < 64) : bt (mu ||| mSo gw onr onb) c = true ↔ c < gw * gh ∧ (du c = 1 ∨ 1 ≤ cOn gw gh ed c) := by
  rw [bt_or, mSo, so_bt G R hc, R.mu c hc]
  simp only [Bool.or_eq_true, Bool.and_eq_true, decide_eq_true_eq]
  constructor
  · rintro (⟨h1, h2⟩ | h)
    · exact ⟨h1, Or.inl h2⟩
    · exact ⟨cOn_cell G h, Or.inr h⟩
  · rintro ⟨h1, h2 | h2⟩
    · exact Or.inl ⟨h1, h2⟩
    · exact Or.inr h2
theorem reach_J (G : GG gw gh) (R : Rel gw gh onr onb ofr ofb mu ba bl wh ed du sh) {a : Nat} (ha : a < 64) (c : Nat) : bt (fReach (nI gw) onr onb 64 (fOnly (nI a))) c = true ↔ Jn gw gh ed a c := reach_bt G R.on ha c
theorem out_iff (G : GG gw gh) (R : Rel gw gh onr onb ofr ofb mu ba bl wh ed du sh) {a : Nat} (ha : a < 64) : fOut (mu ||| mSo gw onr onb) (fReach (nI gw) onr onb 64 (fOnly (nI a))) = true ↔ More gw gh ed du a := by
  have hN := G.N
  unfold fOut
  rw [decide_eq_true_eq, ne0_bt]
  constructor
  · rintro ⟨c, hc, h⟩
    rw [bt_an, Bool.and_eq_true, ne_bt G R hc] at h
    refine ⟨c, h.1.1, h.1.2, fun q => ?_⟩
    rw [(reach_J G R ha c).mpr q] at h
    exact absurd h.2 (by decide)
  · rintro ⟨c, hc, h1, h2⟩
    refine ⟨c, by omega, ?_⟩
    rw [bt_an, Bool.and_eq_true, ne_bt G R (by omega)]
    refine ⟨⟨hc, h1⟩, ?_⟩
    cases e : bt (fReach (nI gw) onr onb 64 (fOnly (nI a))) c
    · rfl
    · exact absurd ((reach_J G R ha c).mp e) h2
/-- i lies on a loop, and there is more than it -/
def Lp (gw gh : Nat) (ed du : Nat → Int32) (i : Nat) : Prop := cOn gw gh ed i = 2 ∧ (∀ c, c < gw * gh → Jn gw gh ed i c → cOn gw gh ed c = 2) ∧ More gw gh ed du i
theorem cl_iff (G : GG gw gh) {a : Nat} : rCl gw gh ed (rcS gw gh (usE ed true (-1)) a) = true ↔ ∀ c, c < gw * gh → Jn gw gh ed a c → cOn gw gh ed c = 2 := by
  have hN := G.N
  unfold rCl
  rw [Bool.not_eq_true', Bool.eq_false_iff, Ne, rAny_iff]
  constructor
  · intro h c hc hj
    by_cases q : cOn gw gh ed c = 2
    · exact q
    · refine absurd ⟨c, hc, ?_⟩ h
      rw [Bool.and_eq_true, decide_eq_true_eq, decide_eq_true_eq, rcJ G, cnt_on G (by omega)]
      exact ⟨fun z => z hj, q⟩
  · rintro h ⟨c, hc, hq⟩
    rw [Bool.and_eq_true, decide_eq_true_eq, decide_eq_true_eq, rcJ G, cnt_on G (by omega)] at hq
    exact hq.2 (h c hc (Classical.not_not.mp hq.1))
theorem pLo1_iff (G : GG gw gh) {i : Nat} (hi : i < gw * gh) : (Lp gw gh ed du i → pLo1 gw gh ed du i = some (5, nI i, 0, false, [])) ∧ (¬ Lp gw gh ed du i → pLo1 gw gh ed du i = none) := by
  have hN := G.N
  have hc : cnt gw gh ed i 1 = cOn gw gh ed i := cnt_on G (by omega)
  unfold pLo1
  exact ⟨fun h => if_pos ⟨hc.trans h.1, (cl_iff G).mpr h.2.1, (mo_iff G).mpr h.2.2⟩, fun h => if_neg (fun q => h ⟨hc.symm.trans q.1, (cl_iff G).mp q.2.1, (mo_iff G).mp q.2.2⟩)⟩
theorem More_congr {a c : Nat} (h : Jn gw gh ed a c) (hm : More gw gh ed du a) : More gw gh ed du c := by
  obtain ⟨d, h1, h2, h3⟩ := hm
  exact ⟨d, h1, h2, fun q => h3 (Rch_tr h q)⟩
theorem D5_go (G : GG gw gh) (R : Rel gw gh onr onb ofr ofb mu ba bl wh ed du sh) (hC : NoC1 gw gh ed du) : ∀ (k : Nat) (x : Int64), (∀ c, bt x c = true → 1 ≤ cOn gw gh ed c) → (∀ a c, bt x a = true → Jn gw gh ed a c → bt x c = true) → (∀ c, 1 ≤ cOn gw gh ed c → ¬ bt x c = true → ¬ Lp gw gh ed du c) → cB x ≤ k →
    dClosedL (nI gw) onr onb (mTw gw onr onb) (mu ||| mSo gw onr onb) k x = rL (pLo1 gw gh ed du) (gw * gh) (gw * gh) := by
  have hN := G.N
  have none_of : ∀ x : Int64, (∀ c, 1 ≤ cOn gw gh ed c → ¬ bt x c = true → ¬ Lp gw gh ed du c) → x = 0 → rL (pLo1 gw gh ed du) (gw * gh) (gw * gh) = none := by
    intro x h3 hx
    refine rL_n (fun i hi => (pLo1_iff G hi).2 (fun hl => ?_))
    exact h3 i (by rw [hl.1]; decide) (by rw [hx, bt_0]; decide) hl
  intro k
  induction k with
  | zero =>
    intro x h1 h2 h3 h4
    have hx : x = 0 := by
      by_cases q : x = 0
      · exact q
      · have := cB_mono (x := 0) (y := x) (fun i hi => by rw [bt_0] at hi; cases hi) q
        omega
    rw [none_of x h3 hx]; rfl
  | succ k ih =>
    intro x h1 h2 h3 h4
    rw [dClosedL]
    by_cases hx : x = 0
    · rw [if_pos hx, none_of x h3 hx]
    · rw [if_neg hx]
      obtain ⟨f, hf, b1, b2, b3⟩ := least_ex hx
      rw [b3]
      have hfN : f < gw * gh := cOn_cell G (h1 f b1)
      have hin : ∀ c, Jn gw gh ed f c → c < gw * gh := fun c hj => cOn_cell G (h1 c (h2 f c b1 hj))
      have hy := reach_J G R hf
      have hcond : ((fReach (nI gw) onr onb 64 (fOnly (nI f)) &&& (mTw gw onr onb ^^^ (-1)) = 0) ∧ fOut (mu ||| mSo gw onr onb) (fReach (nI gw) onr onb 64 (fOnly (nI f))) = true) ↔ Lp gw gh ed du f := by
        rw [out_iff G R hf, eq0_bt]
        constructor
        · rintro ⟨q1, q2⟩
          have q3 : ∀ c, c < gw * gh → Jn gw gh ed f c → cOn gw gh ed c = 2 := by
            intro c hc hj
            have := q1 c (by omega)
            rw [bt_an, (hy c).mpr hj, mTw, tw_bt G R (by omega), Bool.true_and, Bool.not_eq_false', decide_eq_true_eq] at this
            have := (hC c hc).1
            omega
          exact ⟨q3 f hfN Rch_rf, q3, q2⟩
        · rintro ⟨q1, q2, q3⟩
          refine ⟨fun c hc => ?_, q3⟩
          rw [bt_an]
          cases e : bt (fReach (nI gw) onr onb 64 (fOnly (nI f))) c
          · rfl
          · have hj := (hy c).mp e
            rw [mTw, tw_bt G R hc, q2 c (hin c hj) hj]; rfl
      by_cases hl : Lp gw gh ed du f
      · rw [if_pos (hcond.mpr hl)]
        refine (rL_f hfN ((pLo1_iff G hfN).1 hl) (fun i hi => (pLo1_iff G (by omega)).2 (fun hli => ?_))).symm
        exact h3 i (by rw [hli.1]; decide) (by rw [b2 i hi]; decide) hli
      · rw [if_neg (fun q => hl (hcond.mp q))]
        have hbt : ∀ c, bt (x &&& (fReach (nI gw) onr onb 64 (fOnly (nI f)) ^^^ (-1))) c = true ↔ bt x c = true ∧ ¬ Jn gw gh ed f c := by
          intro c
          rw [bt_an, Bool.and_eq_true, Bool.not_eq_true', Bool.eq_false_iff, Ne, hy c]
        refine ih _ (fun c hc => h1 c ((hbt c).mp hc).1) ?_ ?_ ?_
        · intro a c ha hj
          obtain ⟨q1, q2⟩ := (hbt a).mp ha
          exact (hbt c).mpr ⟨h2 a c q1 hj, fun q => q2 (Rch_tr q (Rch_sy hj))⟩
        · intro c hc hn hlc
          by_cases q : bt x c = true
          · have hj : Jn gw gh ed f c := by
              by_cases w : Jn gw gh ed f c
              · exact w
              · exact absurd ((hbt c).mpr ⟨q, w⟩) hn
            refine hl ⟨hlc.2.1 f hfN (Rch_sy hj), fun d hd hjd => hlc.2.1 d hd (Rch_tr (Rch_sy hj) hjd), More_congr (Rch_sy hj) hlc.2.2⟩
          · exact h3 c hc q hlc
        · have := cB_mono (x := x &&& (fReach (nI gw) onr onb 64 (fOnly (nI f)) ^^^ (-1))) (y := x) (fun c hc => ((hbt c).mp hc).1) (fun q => by
            have q2 := b1
            rw [q] at q2
            exact ((hbt f).mp q2).2 Rch_rf)
          omega
theorem D5 (G : GG gw gh) (R : Rel gw gh onr onb ofr ofb mu ba bl wh ed du sh) (hC : NoC1 gw gh ed du) : dClosedL (nI gw) onr onb (mTw gw onr onb) (mu ||| mSo gw onr onb) (gw * gh) (mSo gw onr onb) = rL (pLo1 gw gh ed du) (gw * gh) (gw * gh) := by
  have hN := G.N
  have hs : ∀ c, bt (mSo gw onr onb) c = true ↔ 1 ≤ cOn gw gh ed c := by
    intro c
    rcases Nat.lt_or_ge c 64 with q | q
    · rw [mSo, so_bt G R q, decide_eq_true_eq]
    · rw [bt_big q]
      exact ⟨fun z => (by cases z), fun z => absurd (cOn_cell G z) (by omega)⟩
  refine D5_go G R hC (gw * gh) _ (fun c hc => (hs c).mp hc) (fun a c ha hj => ?_) (fun c h1 h2 => absurd ((hs c).mpr h1) h2) ?_
  · refine (hs c).mpr (hj (fun i => 1 ≤ cOn gw gh ed i) ((hs a).mp ha) (fun e he hp => ?_))
    have hp : ed e = 1 := of_decide_eq_true hp
    exact ⟨fun _ => cOn_pos.mpr ⟨e, he, hp, Or.inr rfl⟩, fun _ => cOn_pos.mpr ⟨e, he, hp, Or.inl rfl⟩⟩
  · unfold cB
    rw [sm_ext hN (fun i h1 h2 => by
      cases e : bt (mSo gw onr onb) i
      · rfl
      · exact absurd (cOn_cell G ((hs i).mp e)) (by omega))]
    have := sm_le (f := fun i => b01 (bt (mSo gw onr onb) i)) (g := fun _ => 1) (n := gw * gh) (fun i _ => b01_le _)
    rw [sm_c1] at this
    exact this
theorem D6 (G : GG gw gh) (R : Rel gw gh onr onb ofr ofb mu ba bl wh ed du sh) : dEarly (nI gw) onr onb (mOr gw gh ofr onr) (mOb gw gh ofb onb) (mOne gw onr onb) (mu ||| mSo gw onr onb) (2 * (gw * gh)) = rL (pLo2 gw gh ed du) (2 * (gw * gh)) (2 * (gw * gh)) := by
  have hN := G.N
  have h8 := G.w8
  have hR : Rp gw gh (fun e => decide (ed e = 0) && (decide (cOn gw gh ed (e / 2) = 1) && decide (cOn gw gh ed (oth gw e) = 1))) ((mOr gw gh ofr onr &&& mOne gw onr onb) &&& fUshr (mOne gw onr onb) 1) ((mOb gw gh ofb onb &&& mOne gw onr onb) &&& fUshr (mOne gw onr onb) (nI gw)) := by
    intro c hc
    obtain ⟨a1, a2⟩ := R.op G c hc
    rw [bt_and (mOr gw gh ofr onr &&& mOne gw onr onb), bt_and (mOr gw gh ofr onr), bt_and (mOb gw gh ofb onb &&& mOne gw onr onb), bt_and (mOb gw gh ofb onb), show (1 : Int32) = nI 1 from rfl, bt_ushr (by decide), bt_ushr (by omega), a1, a2]
    constructor
    · dsimp only
      cases e : isEn gw gh (2 * c)
      · rfl
      · have ho := oth_lt e G.w1 G.w8 G.h8
        rw [oth_r] at ho ⊢
        rw [one_bt G R hc, show 1 + c = c + 1 by omega, one_bt G R ho, show 2 * c / 2 = c by omega]
        cases decide (ed (2 * c) = 0) <;> cases decide (cOn gw gh ed c = 1) <;> rfl
    · dsimp only
      cases e : isEn gw gh (2 * c + 1)
      · rfl
      · have ho := oth_lt e G.w1 G.w8 G.h8
        rw [oth_b] at ho ⊢
        rw [one_bt G R hc, show gw + c = c + gw by omega, one_bt G R ho, show (2 * c + 1) / 2 = c by omega]
        cases decide (ed (2 * c + 1) = 0) <;> cases decide (cOn gw gh ed c = 1) <;> rfl
  unfold dEarly
  refine dL_rL (fun i hi => ?_) _ (Nat.le_refl _)
  unfold pEarly pLo2
  rw [Rp_has hR (by omega)]
  cases e : isEn gw gh i
  · rw [Bool.false_and, if_neg Bool.false_ne_true, if_neg (fun q => by cases q.1)]
  · have ho := oth_lt e G.w1 G.w8 G.h8
    have hl : i / 2 < 64 := by omega
    have hcl : fCloses (nI gw) onr onb (mu ||| mSo gw onr onb) (nI i) = true ↔ Jn gw gh ed (i / 2) (oth gw i) ∧ More gw gh ed du (i / 2) := by
      unfold fCloses
      rw [Bool.and_eq_true, less_n i (by omega), greater_n i (by omega) gw (by omega), holds_bt ho, reach_J G R hl, out_iff G R hl]
    have c1 : cnt gw gh ed (i / 2) 1 = cOn gw gh ed (i / 2) := cnt_on G hl
    have c2 : cnt gw gh ed (oth gw i) 1 = cOn gw gh ed (oth gw i) := cnt_on G ho
    rw [Bool.true_and]
    by_cases q : ed i = 0 ∧ cOn gw gh ed (i / 2) = 1 ∧ cOn gw gh ed (oth gw i) = 1
    · rw [decide_eq_true q.1, decide_eq_true q.2.1, decide_eq_true q.2.2, if_pos (by rfl)]
      by_cases w : Jn gw gh ed (i / 2) (oth gw i) ∧ More gw gh ed du (i / 2)
      · rw [if_pos (hcl.mpr w), if_pos ⟨rfl, q.1, c1.trans q.2.1, c2.trans q.2.2, fun z => (rcJ G).mp z w.1, (mo_iff G).mpr w.2⟩]
      · rw [if_neg (fun z => w (hcl.mp z)), if_neg (fun z => w ⟨Classical.not_not.mp (fun y => z.2.2.2.2.1 ((rcJ G).mpr y)), (mo_iff G).mp z.2.2.2.2.2⟩)]
    · rw [if_neg (fun z => q (by simpa only [Bool.and_eq_true, decide_eq_true_eq] using z)), if_neg (fun z => q ⟨z.2.1, c1.symm.trans z.2.2.1, c2.symm.trans z.2.2.2.1⟩)]
end D56
