/-! THE LOG OF BOTH SIDES: step i's changes lie from B i on. -/
abbrev LogR (nuc plc en chc nur plr bg chr : Nat → Int32) (B : Nat → Nat) (k : Nat) : Prop := (B 0 = 0) ∧ (∀ i, i < k → B i ≤ B (i + 1)) ∧ (∀ i, i < k → nuc i = nur i) ∧ (∀ i, i < k → plc i = plr i) ∧ (∀ i, i < k → en i = nI (B (i + 1))) ∧ (∀ i, i ≤ k → bg i = nI (B i)) ∧ (∀ j, j < B k → chc j = chr j)
theorem LogR.b0 {nuc plc en chc nur plr bg chr : Nat → Int32} {B : Nat → Nat} {k : Nat} (h9 : LogR nuc plc en chc nur plr bg chr B k) : B 0 = 0 := h9.1
theorem LogR.mono {nuc plc en chc nur plr bg chr : Nat → Int32} {B : Nat → Nat} {k : Nat} (h9 : LogR nuc plc en chc nur plr bg chr B k) : ∀ i, i < k → B i ≤ B (i + 1) := h9.2.1
theorem LogR.nu {nuc plc en chc nur plr bg chr : Nat → Int32} {B : Nat → Nat} {k : Nat} (h9 : LogR nuc plc en chc nur plr bg chr B k) : ∀ i, i < k → nuc i = nur i := h9.2.2.1
theorem LogR.pl {nuc plc en chc nur plr bg chr : Nat → Int32} {B : Nat → Nat} {k : Nat} (h9 : LogR nuc plc en chc nur plr bg chr B k) : ∀ i, i < k → plc i = plr i := h9.2.2.2.1
theorem LogR.en {nuc plc en chc nur plr bg chr : Nat → Int32} {B : Nat → Nat} {k : Nat} (h9 : LogR nuc plc en chc nur plr bg chr B k) : ∀ i, i < k → en i = nI (B (i + 1)) := h9.2.2.2.2.1
theorem LogR.bg {nuc plc en chc nur plr bg chr : Nat → Int32} {B : Nat → Nat} {k : Nat} (h9 : LogR nuc plc en chc nur plr bg chr B k) : ∀ i, i ≤ k → bg i = nI (B i) := h9.2.2.2.2.2.1
theorem LogR.ch {nuc plc en chc nur plr bg chr : Nat → Int32} {B : Nat → Nat} {k : Nat} (h9 : LogR nuc plc en chc nur plr bg chr B k) : ∀ j, j < B k → chc j = chr j := h9.2.2.2.2.2.2
section LOGR
variable {nuc plc en chc nur plr bg chr : Nat → Int32} {B : Nat → Nat} {k : Nat}
theorem LogR.le (L : LogR nuc plc en chc nur plr bg chr B k) {i : Nat} : ∀ j, i ≤ j → j ≤ k → B i ≤ B j := by
  intro j
  induction j with
  | zero => intro h _; rw [show i = 0 by omega]; exact Nat.le_refl _
  | succ j ih =>
    intro h hk
    by_cases q : i = j + 1
    · rw [q]; exact Nat.le_refl _
    · exact Nat.le_trans (ih (by omega) (by omega)) (L.mono j (by omega))
theorem LogR.pre (L : LogR nuc plc en chc nur plr bg chr B k) {k' : Nat} (h : k' ≤ k) : LogR nuc plc en chc nur plr bg chr B k' :=
  ⟨L.b0, fun i hi => L.mono i (by omega), fun i hi => L.nu i (by omega), fun i hi => L.pl i (by omega), fun i hi => L.en i (by omega), fun i hi => L.bg i (by omega), fun j hj => L.ch j (Nat.lt_of_lt_of_le hj (L.le k h (Nat.le_refl _)))⟩
def bX (B : Nat → Nat) (k t : Nat) : Nat → Nat := fun i => if i ≤ k then B i else t
theorem bX_in {t i : Nat} (h : i ≤ k) : bX B k t i = B i := if_pos h
theorem bX_out {t i : Nat} (h : k < i) : bX B k t i = t := if_neg (by omega)
theorem LogR.step (L : LogR nuc plc en chc nur plr bg chr B k) (no pc : Int32) (z : Bool) (is : List Int32) : LogR (upd nuc k no) (upd plc k pc) (upd en k (nI (B k + is.length))) (chW z chc (B k) is) (upd nur k no) (upd plr k pc) (upd bg (k + 1) (nI (B k + is.length))) (chW z chr (B k) is) (bX B k (B k + is.length)) (k + 1) := by
  refine ⟨by rw [bX_in (by omega)]; exact L.b0, fun i hi => ?_, fun i hi => ?_, fun i hi => ?_, fun i hi => ?_, fun i hi => ?_, fun j hj => ?_⟩
  · by_cases q : i = k
    · subst q; rw [bX_in (by omega), bX_out (by omega)]; omega
    · rw [bX_in (by omega), bX_in (by omega)]; exact L.mono i (by omega)
  · rw [upd_eq, upd_eq]
    split
    · rfl
    · exact L.nu i (by omega)
  · rw [upd_eq, upd_eq]
    split
    · rfl
    · exact L.pl i (by omega)
  · rw [upd_eq]
    split
    · rw [bX_out (by omega)]
    · rw [bX_in (by omega)]; exact L.en i (by omega)
  · rw [upd_eq]
    split
    · rw [bX_out (by omega)]
    · rw [bX_in (by omega)]; exact L.bg i (by omega)
  · rw [bX_out (by omega)] at hj
    by_cases q : j < B k
    · rw [chW_lt q, chW_lt q]; exact L.ch j q
    · obtain ⟨d, rfl⟩ : ∃ d, j = B k + d := ⟨j - B k, by omega⟩
      rw [chW_at is chc (B k) d (by omega), chW_at is chr (B k) d (by omega)]
theorem LogR.start (L : LogR nuc plc en chc nur plr bg chr B k) {i : Nat} (h : i ≤ k) : cStart en i = nI (B i) := by
  unfold cStart
  by_cases q : i = 0
  · rw [if_pos q, q, L.b0]; exact nI_0.symm
  · rw [if_neg q, L.en (i - 1) (by omega), show i - 1 + 1 = i by omega]
end LOGR
/-- step i (of an edge: its number below 10; of a cell: from 10 on) has changed thing e -/
def Hc (nu : Nat → Int32) (B : Nat → Nat) (ch : Nat → Int32) (sh : Bool) (e i : Nat) : Prop := decide (¬ nu i < 10) = sh ∧ ∃ m, B i ≤ m ∧ m < B (i + 1) ∧ fLess (ch m) = nI e
def ByP (H : Nat → Prop) (k : Nat) (v : Int32) : Prop := (v = -1 ∧ ∀ i, i < k → ¬ H i) ∨ ∃ i0, i0 < k ∧ v = nI i0 ∧ H i0 ∧ ∀ i, i < i0 → ¬ H i
def ByO (H : Nat → Prop) (k : Nat) (v : Int32) (o : Prop) : Prop := ByP H k v ∧ (o → ∀ i, i < k → ¬ H i)
theorem ByP.uniq {H : Nat → Prop} {k : Nat} {v w : Int32} (h : ByP H k v) (h' : ByP H k w) : v = w := by
  rcases h with ⟨rfl, h⟩ | ⟨i, hi, rfl, h1, h2⟩
  · rcases h' with ⟨rfl, _⟩ | ⟨j, hj, rfl, h1, _⟩
    · rfl
    · exact absurd h1 (h j hj)
  · rcases h' with ⟨rfl, h⟩ | ⟨j, hj, rfl, h3, h4⟩
    · exact absurd h1 (h i hi)
    · have : i = j := by
        rcases Nat.lt_trichotomy i j with q | q | q
        · exact absurd h1 (h4 i q)
        · exact q
        · exact absurd h3 (h2 j q)
      rw [this]
theorem ByP.keep {H H' : Nat → Prop} {k : Nat} {v : Int32} (h : ByP H k v) (e : ∀ i, i < k → (H' i ↔ H i)) (hk : ¬ H' k) : ByP H' (k + 1) v := by
  rcases h with ⟨rfl, h⟩ | ⟨i, hi, rfl, h1, h2⟩
  · refine Or.inl ⟨rfl, fun i hi => ?_⟩
    by_cases q : i = k
    · rw [q]; exact hk
    · exact fun w => h i (by omega) ((e i (by omega)).mp w)
  · exact Or.inr ⟨i, by omega, rfl, (e i hi).mpr h1, fun j hj w => h2 j hj ((e j (by omega)).mp w)⟩
theorem ByO.keep {H H' : Nat → Prop} {k : Nat} {v : Int32} {o o' : Prop} (h : ByO H k v o) (e : ∀ i, i < k → (H' i ↔ H i)) (hk : ¬ H' k) (ho : o' → o) : ByO H' (k + 1) v o' := by
  refine ⟨h.1.keep e hk, fun x i hi => ?_⟩
  by_cases q : i = k
  · rw [q]; exact hk
  · exact fun w => h.2 (ho x) i (by omega) ((e i (by omega)).mp w)
theorem ByO.new {H H' : Nat → Prop} {k : Nat} {v : Int32} {o o' : Prop} (h : ByO H k v o) (e : ∀ i, i < k → (H' i ↔ H i)) (hk : H' k) (ho : o) (ho' : ¬ o') : ByO H' (k + 1) (nI k) o' :=
  ⟨Or.inr ⟨k, by omega, rfl, hk, fun i hi w => h.2 ho i hi ((e i hi).mp w)⟩, fun x => absurd x ho'⟩
theorem ByO.same {H H' : Nat → Prop} {k : Nat} {v : Int32} {o o' : Prop} (h : ByO H k v o) (e : ∀ i, i < k → (H' i ↔ H i)) (ho : o' → o) : ByO H' k v o' := by
  refine ⟨?_, fun x i hi w => h.2 (ho x) i hi ((e i hi).mp w)⟩
  rcases h.1 with ⟨rfl, h0⟩ | ⟨i, hi, rfl, h1, h2⟩
  · exact Or.inl ⟨rfl, fun i hi w => h0 i hi ((e i hi).mp w)⟩
  · exact Or.inr ⟨i, hi, rfl, (e i hi).mpr h1, fun j hj w => h2 j hj ((e j (by omega)).mp w)⟩
/-- what lies before step k is looked at alone -/
theorem Hc_pre {nu nu' : Nat → Int32} {B B' : Nat → Nat} {ch ch' : Nat → Int32} {sh : Bool} {e k : Nat} (h1 : ∀ i, i < k → nu' i = nu i) (h2 : ∀ i, i ≤ k → B' i = B i) (h3 : ∀ j, j < B k → ch' j = ch j) (hm : ∀ i, i < k → B (i + 1) ≤ B k) : ∀ i, i < k → (Hc nu' B' ch' sh e i ↔ Hc nu B ch sh e i) := by
  intro i hi
  unfold Hc
  rw [h1 i hi, h2 i (by omega), h2 (i + 1) (by omega)]
  have hb := hm i hi
  constructor
  · rintro ⟨a, m, b, c, d⟩
    exact ⟨a, m, b, c, by rw [← h3 m (by omega)]; exact d⟩
  · rintro ⟨a, m, b, c, d⟩
    exact ⟨a, m, b, c, by rw [h3 m (by omega)]; exact d⟩
/-! What the code finds of a thing in its log. -/
section FIND
variable {nuc plc en chc nur plr bg chr : Nat → Int32} {B : Nat → Nat} {k n mm : Nat}
theorem hasStep_n (hn : n < 2 ^ 31) (hk : k ≤ n) {i : Nat} (hi : i < k) : fHasStep (nI k) n (nI i) = true := by
  simp only [fHasStep, Bool.and_eq_true, decide_eq_true_eq]
  exact ⟨nI_pos (by omega), by rw [nI_leI (by omega) (by omega)]; omega, by rw [nI_leI (by omega) (by omega)]; omega⟩
theorem number_n {f : Nat → Int32} (hn : n < 2 ^ 31) (hk : k ≤ n) {i : Nat} (hi : i < k) : fNumberOf (nI k) n f (nI i) = f i := by
  unfold fNumberOf
  rw [hasStep_n hn hk hi, if_pos rfl, nI_clamp (by omega)]
theorem changes_n (L : LogR nuc plc en chc nur plr bg chr B k) (hn : n < 2 ^ 31) (hk : k ≤ n) {i : Nat} (hi : i < k) : fChanges (nI k) n en (nI i) = nI (B (i + 1) - B i) := by
  unfold fChanges
  rw [hasStep_n hn hk hi, if_pos rfl, nI_clamp (by omega), fStart_nI hn (by omega), L.start (by omega), L.en i hi, pk_sub (L.mono i hi)]
theorem change_n (L : LogR nuc plc en chc nur plr bg chr B k) (hn : n < 2 ^ 31) (hk : k ≤ n) (hm : mm < 2 ^ 31) (hB : B k ≤ mm) {i j : Nat} (hi : i < k) (hj : j < B (i + 1) - B i) : fChange (nI k) n mm en chc (nI i) (nI j) = chc (B i + j) := by
  have h1 := L.le (i := i + 1) k (by omega) (Nat.le_refl _)
  unfold fChange
  rw [changes_n L hn hk hi, if_neg (nI_pos (by omega)), if_pos ((nI_ltI (by omega) (by omega)).mpr hj), fStart_nI hn (by omega), L.start (by omega), nI_add, if_neg (nI_pos (by omega)), if_neg (by rw [nI_leI hm (by omega)]; omega), nI_clamp (by omega)]
theorem hasCh_n (L : LogR nuc plc en chc nur plr bg chr B k) (hn : n < 2 ^ 31) (hk : k ≤ n) (hm : mm < 2 ^ 31) (hB : B k ≤ mm) {i : Nat} (hi : i < k) {th : Int32} : ∀ f j, j + f = B (i + 1) - B i → (fHasCh (nI k) n mm en chc (nI i) th f j = true ↔ ∃ m, B i + j ≤ m ∧ m < B (i + 1) ∧ fLess (chc m) = th) := by
  intro f
  induction f with
  | zero => intro j hj; rw [fHasCh]; exact ⟨fun h => (by cases h), fun ⟨m, a, b, _⟩ => (by omega)⟩
  | succ f ih =>
    intro j hj
    rw [fHasCh, change_n L hn hk hm hB hi (by omega)]
    by_cases q : chc (B i + j) >>> ((1 : Int32) &&& 31) = th
    · rw [if_pos q]; exact ⟨fun _ => ⟨B i + j, Nat.le_refl _, by omega, q⟩, fun _ => rfl⟩
    · rw [if_neg q, ih (j + 1) (by omega)]
      constructor
      · rintro ⟨m, a, b, c⟩; exact ⟨m, by omega, b, c⟩
      · rintro ⟨m, a, b, c⟩
        by_cases w : m = B i + j
        · rw [w] at c; exact absurd c q
        · exact ⟨m, by omega, b, c⟩
theorem hasChanged_n (L : LogR nuc plc en chc nur plr bg chr B k) (hn : n < 2 ^ 31) (hk : k ≤ n) (hm : mm < 2 ^ 31) (hB : B k ≤ mm) {i : Nat} (hi : i < k) {th : Int32} : fHasChanged (nI k) n mm en chc (nI i) th = true ↔ ∃ m, B i ≤ m ∧ m < B (i + 1) ∧ fLess (chc m) = th := by
  have h1 := L.le (i := i + 1) k (by omega) (Nat.le_refl _)
  unfold fHasChanged
  rw [changes_n L hn hk hi, nI_clamp (by omega)]
  exact hasCh_n L hn hk hm hB hi _ 0 (by omega)
theorem stepTh_n (L : LogR nuc plc en chc nur plr bg chr B k) (hn : n < 2 ^ 31) (hk : k ≤ n) (hm : mm < 2 ^ 31) (hB : B k ≤ mm) {e : Nat} {sh : Bool} : ∀ f j, j + f = k → (∀ i, i < j → ¬ Hc nuc B chc sh e i) → ByP (Hc nuc B chc sh e) k (fStepTh (nI k) n mm nuc en chc (nI e) sh f j) := by
  intro f
  induction f with
  | zero => intro j hj h; exact Or.inl ⟨rfl, fun i hi => h i (by omega)⟩
  | succ f ih =>
    intro j hj h
    rw [fStepTh, number_n hn hk (by omega)]
    by_cases q : decide (¬ nuc j < 10) = sh ∧ fHasChanged (nI k) n mm en chc (nI j) (nI e) = true
    · rw [if_pos q]
      exact Or.inr ⟨j, by omega, rfl, ⟨q.1, (hasChanged_n L hn hk hm hB (by omega)).mp q.2⟩, h⟩
    · rw [if_neg q]
      refine ih (j + 1) (by omega) (fun i hi w => ?_)
      by_cases x : i = j
      · subst x; exact q ⟨w.1, (hasChanged_n L hn hk hm hB (by omega)).mpr w.2⟩
      · exact h i (by omega) w
/-- the code's reason is the one that the reference noted -/
theorem reason_n (L : LogR nuc plc en chc nur plr bg chr B k) (hn : n < 2 ^ 31) (hk : k ≤ n) (hm : mm < 2 ^ 31) (hB : B k ≤ mm) {e : Nat} {sh : Bool} {v : Int32} {o : Prop} (h : ByO (Hc nuc B chc sh e) k v o) : fStepTh (nI k) n mm nuc en chc (nI e) sh (nI k).toNatClampNeg 0 = v := by
  rw [nI_clamp (by omega)]
  exact (stepTh_n L hn hk hm hB k 0 (by omega) (fun i hi => by omega)).uniq h.1
/-- what a step of the log says -/
theorem step_n (L : LogR nuc plc en chc nur plr bg chr B k) (hn : n < 2 ^ 30) (hk : k ≤ n) (hm : mm < 2 ^ 30) (hB : B k ≤ mm) {a d : Int32} (h0 : ¬ a < 0) (h1 : a < nI k) (h2 : 0 ≤ d) : (if d = 0 then fNumberOf (nI k) n nuc a else if d = 1 then fNumberOf (nI k) n plc a else if d = 2 then fChanges (nI k) n en a else fChange (nI k) n mm en chc a (d - 3)) = (if d = 0 then nur a.toNatClampNeg else if d = 1 then plr a.toNatClampNeg else if d < 3 then bg (a.toNatClampNeg + 1) - bg a.toNatClampNeg else if d - 3 < bg (a.toNatClampNeg + 1) - bg a.toNatClampNeg then chr (bg a.toNatClampNeg + d - 3).toNatClampNeg else -1) := by
  obtain ⟨i, hi, rfl⟩ := nI_of h0
  rw [nI_ltI hi (by omega)] at h1
  have hle := L.le (i := i + 1) k (by omega) (Nat.le_refl _)
  have hmo := L.mono i h1
  rw [nI_clamp hi, number_n (by omega) hk h1, number_n (by omega) hk h1, changes_n L (by omega) hk h1, L.nu i h1, L.pl i h1, L.bg i (by omega), L.bg (i + 1) (by omega), pk_sub hmo]
  by_cases d0 : d = 0
  · rw [if_pos d0, if_pos d0]
  rw [if_neg d0, if_neg d0]
  by_cases d1 : d = 1
  · rw [if_pos d1, if_pos d1]
  rw [if_neg d1, if_neg d1]
  by_cases d2 : d = 2
  · rw [if_pos d2, if_pos (by rw [d2]; decide)]
  rw [if_neg d2]
  obtain ⟨j, hj, rfl⟩ : ∃ j : Nat, j + 3 < 2 ^ 31 ∧ d = nI (j + 3) := by
    obtain ⟨x, hx, rfl⟩ := nI_of (x := d) (by rw [Int32.lt_iff_toInt_lt]; rw [Int32.le_iff_toInt_le] at h2; omega)
    have a0 : x ≠ 0 := fun w => d0 (by rw [w]; exact nI_0)
    have a1 : x ≠ 1 := fun w => d1 (by rw [w]; rfl)
    have a2 : x ≠ 2 := fun w => d2 (by rw [w]; rfl)
    exact ⟨x - 3, by omega, by rw [show x - 3 + 3 = x by omega]⟩
  have e3 : nI (j + 3) - 3 = nI j := by rw [show (3 : Int32) = nI 3 from rfl, pk_sub (by omega), show j + 3 - 3 = j by omega]
  rw [if_neg (by rw [show (3 : Int32) = nI 3 from rfl, nI_ltI (by omega) (by omega)]; omega), e3]
  by_cases q : j < B (i + 1) - B i
  · rw [change_n L (by omega) hk (by omega) hB h1 q, if_pos ((nI_ltI (by omega) (by omega)).mpr q), nI_add, show (3 : Int32) = nI 3 from rfl, pk_sub (by omega), show B i + (j + 3) - 3 = B i + j by omega, nI_clamp (by omega)]
    exact L.ch _ (by omega)
  · rw [if_neg (by rw [nI_ltI (by omega) (by omega)]; exact q)]
    unfold fChange
    rw [changes_n L (by omega) hk h1, if_neg (nI_pos (by omega)), if_neg (by rw [nI_ltI (by omega) (by omega)]; exact q)]
end FIND
