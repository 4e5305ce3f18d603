/-! BRIDGES, and what is APART. -/
theorem Rp_rem {gw gh : Nat} {P : Nat → Bool} {r b : Int64} (h : Rp gw gh P r b) {i : Nat} (hi : i < 128) : Rp gw gh (fun e => P e && !decide (e = i)) (fRemR r (nI i)) (fRemB b (nI i)) := by
  intro c hc
  obtain ⟨a1, a2⟩ := h c hc
  unfold fRemR fRemB
  rw [below_n i hi, less_n i hi]
  by_cases q : i % 2 = 1
  · rw [decide_eq_true q, if_pos rfl, if_pos rfl, bt_an, bt_only (by omega), a1, a2]
    dsimp only
    constructor
    · rw [show decide (2 * c = i) = false from decide_eq_false (by omega)]; cases isEn gw gh (2 * c) <;> cases P (2 * c) <;> rfl
    · rw [show decide (2 * c + 1 = i) = decide (c = i / 2) from decide_eq_decide.mpr (by omega), Bool.and_assoc]
  · rw [decide_eq_false q, if_neg Bool.false_ne_true, if_neg Bool.false_ne_true, bt_an, bt_only (by omega), a1, a2]
    dsimp only
    constructor
    · rw [show decide (2 * c = i) = decide (c = i / 2) from decide_eq_decide.mpr (by omega), Bool.and_assoc]
    · rw [show decide (2 * c + 1 = i) = false from decide_eq_false (by omega)]; cases isEn gw gh (2 * c + 1) <;> cases P (2 * c + 1) <;> rfl
section D89
variable {gw gh : Nat} {onr onb ofr ofb mu ba bl wh : Int64} {ed du sh : Nat → Int32}
theorem usE_wo (G : GG gw gh) {i : Nat} (hi : i < 128) (e : Nat) (he : isEn gw gh e = true) : ((!decide (ed e = 2)) && !decide (e = i)) = usE ed false (nI i) e := by
  have hN := G.N
  have := isEn_lt he
  unfold usE
  rw [if_neg Bool.false_ne_true]
  by_cases q : e = i
  · subst q; simp
  · rw [show decide (¬ nI e = nI i) = true from decide_eq_true (fun z => q ((nI_eq (by omega) (by omega)).mp z)), decide_eq_false q]; simp
theorem D8 (G : GG gw gh) (R : Rel gw gh onr onb ofr ofb mu ba bl wh ed du sh) : dL (pBridge (nI gw) onr onb (mNr gw gh ofr) (mNb gw gh ofb)) (2 * (gw * gh)) (2 * (gw * gh)) = rL (pBr gw gh ed) (2 * (gw * gh)) (2 * (gw * gh)) := by
  have hN := G.N
  have h8 := G.w8
  refine dL_rL (fun i hi => ?_) _ (Nat.le_refl _)
  unfold pBridge pBr
  rw [Rp_has (R.nf G) (by omega), Rp_has R.on (by omega)]
  cases e : isEn gw gh i
  · rw [Bool.false_and, if_neg Bool.false_ne_true, if_neg (fun q => by cases q.1)]
  · have ho := oth_lt e G.w1 G.w8 G.h8
    have hl : i / 2 < 64 := by omega
    rw [Bool.true_and, Bool.true_and]
    have hbr : fIsBr (nI gw) (mNr gw gh ofr) (mNb gw gh ofb) (nI i) = true ↔ rcS gw gh (usE ed false (nI i)) (i / 2) (oth gw i) = 0 := by
      unfold fIsBr
      rw [less_n i (by omega), greater_n i (by omega) gw (by omega), joins_eq G ho, Bool.not_eq_true', Bool.eq_false_iff, Ne, reach_bt G (Rp_congr (Rp_rem (R.nf G) (i := i) (by omega)) (usE_wo G (by omega))) hl, rcS_0]
    by_cases q : ed i = 2
    · rw [decide_eq_true q, if_neg (by decide), if_neg (fun z => z.2.1 q)]
    · rw [decide_eq_false q, if_pos (by rfl)]
      by_cases w : rcS gw gh (usE ed false (nI i)) (i / 2) (oth gw i) = 0
      · rw [if_pos (hbr.mpr w), if_pos (show true = true ∧ ¬ ed i = 2 ∧ rcS gw gh (usE ed false (nI i)) (i / 2) (oth gw i) = 0 from ⟨rfl, q, w⟩)]
        by_cases z : ed i = 1
        · rw [decide_eq_true z, if_pos rfl, if_pos z]
        · rw [decide_eq_false z, if_neg Bool.false_ne_true, if_neg z]
      · rw [if_neg (fun z => w (hbr.mp z)), if_neg (fun z => w z.2.2)]
theorem rLast_none {P : Nat → Bool} : ∀ k z, (∀ i, i < k → P i = false) → rLast P k z = z := by
  intro k
  induction k with
  | zero => intro z _; rfl
  | succ k ih => intro z h; rw [rLast, h k (by omega), if_neg Bool.false_ne_true, ih _ (fun i hi => h i (by omega))]
theorem rLast_fst {P : Nat → Bool} {c : Nat} (hp : P c = true) (hl : ∀ i, i < c → P i = false) : ∀ k z, c < k → rLast P k z = nI c := by
  intro k
  induction k with
  | zero => intro z h; omega
  | succ k ih =>
    intro z h
    rw [rLast]
    by_cases q : c = k
    · subst q; rw [hp, if_pos rfl, rLast_none _ _ hl]
    · exact ih _ (by omega)
theorem need_iff (G : GG gw gh) {c : Nat} (hc : c < 64) : rNeed gw gh ed du c = true ↔ (du c = 1 ∨ 1 ≤ cOn gw gh ed c) := by
  unfold rNeed
  rw [cnt_on G hc, Bool.or_eq_true, decide_eq_true_eq, decide_eq_true_eq]
  constructor
  · rintro (h | h)
    · exact Or.inl h
    · exact Or.inr (by omega)
  · rintro (h | h)
    · exact Or.inl h
    · exact Or.inr (by omega)
theorem D9 (G : GG gw gh) (R : Rel gw gh onr onb ofr ofb mu ba bl wh ed du sh) : dApart (nI gw) (mOr gw gh ofr onr) (mOb gw gh ofb onb) (mNr gw gh ofr) (mNb gw gh ofb) (mu ||| mSo gw onr onb) (2 * (gw * gh)) = dAp gw gh ed du := by
  have hN := G.N
  have hnb : ∀ c, c < 64 → (bt (mu ||| mSo gw onr onb) c = true ↔ c < gw * gh ∧ rNeed gw gh ed du c = true) := fun c hc => by rw [ne_bt G R hc, need_iff G hc]
  unfold dApart dAp
  by_cases hz : (mu ||| mSo gw onr onb) = 0
  · rw [if_pos hz, rLast_none _ _ (fun i hi => by
      cases e : rNeed gw gh ed du i
      · rfl
      · have := (hnb i (by omega)).mpr ⟨hi, e⟩
        rw [hz, bt_0] at this; cases this), if_pos (by decide)]
  · rw [if_neg hz]
    obtain ⟨f, hf, b1, b2, b3⟩ := least_ex hz
    obtain ⟨hfN, hfn⟩ := (hnb f hf).mp b1
    have hlast : rLast (rNeed gw gh ed du) (gw * gh) (-1) = nI f := rLast_fst hfn (fun i hi => by
      cases e : rNeed gw gh ed du i
      · rfl
      · have := (hnb i (by omega)).mpr ⟨by omega, e⟩
        rw [b2 i hi] at this; cases this) _ _ hfN
    rw [hlast, if_neg (nI_pos (by omega)), nI_clamp (by omega)]
    have hpart : ∀ c, bt (fPart (nI gw) (mNr gw gh ofr) (mNb gw gh ofb) (mu ||| mSo gw onr onb)) c = true ↔ ¬ rcS gw gh (usE ed false (-1)) f c = 0 := by
      intro c
      unfold fPart
      rw [b3, reach_bt G (Rp_congr (R.nf G) (fun i hi => (usE_nf G i hi).symm)) hf, rcS_0, Classical.not_not]
    generalize hrc : rcS gw gh (usE ed false (-1)) f = rc at hpart ⊢
    have hpart' : ∀ c, bt (fPart (nI gw) (mNr gw gh ofr) (mNb gw gh ofb) (mu ||| mSo gw onr onb)) c = !decide (rc c = 0) := by
      intro c
      by_cases q : rc c = 0
      · rw [decide_eq_true q]
        cases e : bt (fPart (nI gw) (mNr gw gh ofr) (mNb gw gh ofb) (mu ||| mSo gw onr onb)) c
        · rfl
        · exact absurd q ((hpart c).mp e)
      · rw [decide_eq_false q]; exact (hpart c).mpr q
    generalize fPart (nI gw) (mNr gw gh ofr) (mNb gw gh ofb) (mu ||| mSo gw onr onb) = pt at hpart hpart' ⊢
    have hA1 : dIf ((mu ||| mSo gw onr onb) &&& (pt ^^^ (-1))) (9, fLeast ((mu ||| mSo gw onr onb) &&& (pt ^^^ (-1))), 0, false, []) = rL (pA1 gw gh ed du rc) (gw * gh) (gw * gh) := by
      refine dIf_rL (d := fun a => (9, a, 0, false, [])) (q := fun c => rNeed gw gh ed du c = true ∧ rc c = 0) hN ?_ ?_ ?_
      · intro c hc
        rw [bt_an, hpart', Bool.and_eq_true, hnb c hc, Bool.not_not, decide_eq_true_eq]
        exact ⟨fun h => ⟨h.1.1, h.1.2, h.2⟩, fun h => ⟨⟨h.1, h.2.1⟩, h.2.2⟩⟩
      · intro i hi hq; unfold pA1; rw [if_pos hq]
      · intro i hi hq; unfold pA1; rw [if_neg hq]
    have hA2 : dL (pApart (mOr gw gh ofr onr) (mOb gw gh ofb onb) pt) (2 * (gw * gh)) (2 * (gw * gh)) = rL (pA2 gw gh ed rc) (2 * (gw * gh)) (2 * (gw * gh)) := by
      refine dL_rL (fun i hi => ?_) _ (Nat.le_refl _)
      unfold pApart pA2
      rw [Rp_has (R.op G) (by omega), less_n i (by omega), holds_bt (by omega), hpart']
      cases e : isEn gw gh i
      · rw [Bool.false_and, if_neg Bool.false_ne_true, if_neg (fun q => by cases q.1)]
      · rw [Bool.true_and]
        by_cases q : ed i = 0
        · rw [decide_eq_true q, if_pos rfl]
          by_cases w : rc (i / 2) = 0
          · rw [decide_eq_true w, if_neg (by decide), if_pos ⟨rfl, q, w⟩]
          · rw [decide_eq_false w, if_pos (by rfl), if_neg (fun z => w z.2.2)]
        · rw [decide_eq_false q, if_neg Bool.false_ne_true, if_neg (fun z => q z.2.1)]
    rw [← hA1, ← hA2]
    by_cases hx : (mu ||| mSo gw onr onb) &&& (pt ^^^ (-1)) = 0
    · rw [if_pos hx, dIf_0 hx]; rfl
    · rw [if_neg hx, dIf_1 hx]; rfl
end D89
