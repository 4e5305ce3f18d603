/-! WHAT CAN BE COME TO. -/
section RCH
variable {gw gh : Nat} {P : Nat → Bool} {r b : Int64}
theorem Rch_rf {a : Nat} : Rch gw gh P a a := fun _ h _ => h
theorem Rch_tr {a c d : Nat} (h1 : Rch gw gh P a c) (h2 : Rch gw gh P c d) : Rch gw gh P a d := fun S h hc => h2 S (h1 S h hc) hc
theorem Rch_e1 {e : Nat} (he : isEn gw gh e = true) (hp : P e = true) : Rch gw gh P (e / 2) (oth gw e) := fun _ h hc => (hc e he hp).mp h
theorem Rch_e2 {e : Nat} (he : isEn gw gh e = true) (hp : P e = true) : Rch gw gh P (oth gw e) (e / 2) := fun _ h hc => (hc e he hp).mpr h
theorem Rch_sy {a c : Nat} (h : Rch gw gh P a c) : Rch gw gh P c a :=
  h (fun i => Rch gw gh P i a) Rch_rf (fun _ he hp => ⟨fun q => Rch_tr (Rch_e2 he hp) q, fun q => Rch_tr (Rch_e1 he hp) q⟩)
theorem Rch_congr {P' : Nat → Bool} (e : ∀ i, isEn gw gh i = true → P i = P' i) {a c : Nat} : Rch gw gh P a c ↔ Rch gw gh P' a c :=
  ⟨fun h S hS hc => h S hS (fun i he hp => hc i he (by rw [← e i he]; exact hp)), fun h S hS hc => h S hS (fun i he hp => hc i he (by rw [e i he]; exact hp))⟩
theorem oth_r {c : Nat} : oth gw (2 * c) = c + 1 := by unfold oth; rw [if_pos (by omega)]; omega
theorem oth_b {c : Nat} : oth gw (2 * c + 1) = c + gw := by unfold oth; rw [if_neg (by omega)]; omega
theorem spread_bt (G : GG gw gh) (x : Int64) {c : Nat} (hc : c < 64) : bt (fSpread (nI gw) r b x) c = ((((bt x c || (decide (1 ≤ c) && (bt x (c - 1) && bt r (c - 1)))) || (bt x (1 + c) && bt r c)) || (decide (gw ≤ c) && (bt x (c - gw) && bt b (c - gw)))) || (bt x (gw + c) && bt b c)) := by
  have h8 := G.w8
  unfold fSpread
  rw [bt_or, bt_or, bt_or, bt_or, show (1 : Int32) = nI 1 from rfl, bt_shl (by decide) hc, bt_and, bt_and, bt_ushr (by decide), bt_shl (by omega) hc, bt_and, bt_and, bt_ushr (by omega)]
theorem spread_mono (G : GG gw gh) {x : Int64} {c : Nat} (h : bt x c = true) : bt (fSpread (nI gw) r b x) c = true := by
  rw [spread_bt G x (bt_lt h), h]; simp
theorem spread_sub (G : GG gw gh) (h : Rp gw gh P r b) {x : Int64} {S : Nat → Prop} (hS : ∀ i, bt x i = true → S i) (hc : ∀ e, isEn gw gh e = true → P e = true → (S (e / 2) ↔ S (oth gw e))) : ∀ i, bt (fSpread (nI gw) r b x) i = true → S i := by
  intro i hi
  have hl := bt_lt hi
  rw [spread_bt G x hl] at hi
  simp only [Bool.or_eq_true, Bool.and_eq_true, decide_eq_true_eq] at hi
  rcases hi with (((q | ⟨q1, q2, q3⟩) | ⟨q2, q3⟩) | ⟨q1, q2, q3⟩) | ⟨q2, q3⟩
  · exact hS i q
  · rw [(h (i - 1) (by omega)).1, Bool.and_eq_true] at q3
    have := (hc _ q3.1 q3.2).mp (by rw [show 2 * (i - 1) / 2 = i - 1 by omega]; exact hS _ q2)
    rw [oth_r, show i - 1 + 1 = i by omega] at this
    exact this
  · rw [(h i hl).1, Bool.and_eq_true] at q3
    have := (hc _ q3.1 q3.2).mpr (by rw [oth_r, show i + 1 = 1 + i by omega]; exact hS _ q2)
    rw [show 2 * i / 2 = i by omega] at this
    exact this
  · rw [(h (i - gw) (by omega)).2, Bool.and_eq_true] at q3
    have := (hc _ q3.1 q3.2).mp (by rw [show (2 * (i - gw) + 1) / 2 = i - gw by omega]; exact hS _ q2)
    rw [oth_b, show i - gw + gw = i by omega] at this
    exact this
  · rw [(h i hl).2, Bool.and_eq_true] at q3
    have := (hc _ q3.1 q3.2).mpr (by rw [oth_b, show i + gw = gw + i by omega]; exact hS _ q2)
    rw [show (2 * i + 1) / 2 = i by omega] at this
    exact this
theorem spread_edge (G : GG gw gh) (h : Rp gw gh P r b) {x : Int64} (hf : fSpread (nI gw) r b x = x) {e : Nat} (he : isEn gw gh e = true) (hp : P e = true) : bt x (e / 2) = true ↔ bt x (oth gw e) = true := by
  have hN := G.N
  have h1 := G.w1
  have hl := isEn_c he
  have ho := oth_lt he G.w1 G.w8 G.h8
  have A : ∀ c, c < 64 → bt x c = ((((bt x c || (decide (1 ≤ c) && (bt x (c - 1) && bt r (c - 1)))) || (bt x (1 + c) && bt r c)) || (decide (gw ≤ c) && (bt x (c - gw) && bt b (c - gw)))) || (bt x (gw + c) && bt b c)) := fun c hc => by rw [← spread_bt G x hc, hf]
  have hh := h (e / 2) (by omega)
  by_cases q : e % 2 = 0
  · obtain ⟨c, rfl⟩ : ∃ c, e = 2 * c := ⟨e / 2, by omega⟩
    rw [show 2 * c / 2 = c by omega] at hh hl ⊢
    rw [oth_r] at ho ⊢
    have hr : bt r c = true := by rw [hh.1, he, hp]; rfl
    constructor
    · intro hx
      rw [A (c + 1) ho, show c + 1 - 1 = c by omega, hx, hr]; simp
    · intro hx
      rw [A c (by omega), show 1 + c = c + 1 by omega, hx, hr]; simp
  · obtain ⟨c, rfl⟩ : ∃ c, e = 2 * c + 1 := ⟨e / 2, by omega⟩
    rw [show (2 * c + 1) / 2 = c by omega] at hh hl ⊢
    rw [oth_b] at ho ⊢
    have hr : bt b c = true := by rw [hh.2, he, hp]; rfl
    constructor
    · intro hx
      rw [A (c + gw) ho, show c + gw - gw = c by omega, hx, hr]; simp
    · intro hx
      rw [A c (by omega), show gw + c = c + gw by omega, hx, hr]; simp
theorem cB_mono {x y : Int64} (h : ∀ i, bt x i = true → bt y i = true) (hne : ¬ y = x) : cB x < cB y := by
  unfold cB
  have hd : ∃ j, j < 64 ∧ ¬ bt y j = bt x j := by
    by_cases q : ∃ j, j < 64 ∧ ¬ bt y j = bt x j
    · exact q
    · exact absurd (bt_ext (fun i hi => by
        by_cases w : bt y i = bt x i
        · exact w
        · exact absurd ⟨i, hi, w⟩ q)) hne
  obtain ⟨j, hj, hd⟩ := hd
  have hle : ∀ i, i < 64 → b01 (bt x i) ≤ b01 (bt y i) := fun i _ => by
    cases e : bt x i
    · exact Nat.zero_le _
    · rw [h i e]; exact Nat.le_refl _
  refine sm_lt (j := j) hle hj ?_
  cases e : bt x j
  · cases e2 : bt y j
    · rw [e, e2] at hd; exact absurd rfl hd
    · decide
  · rw [e, h j e] at hd; exact absurd rfl hd
theorem reach_sub (G : GG gw gh) (h : Rp gw gh P r b) {S : Nat → Prop} (hc : ∀ e, isEn gw gh e = true → P e = true → (S (e / 2) ↔ S (oth gw e))) : ∀ (n : Nat) (x : Int64), (∀ i, bt x i = true → S i) → ∀ i, bt (fReach (nI gw) r b n x) i = true → S i := by
  intro n
  induction n with
  | zero => intro x hx i hi; exact hx i hi
  | succ n ih =>
    intro x hx i hi
    rw [fReach] at hi
    split at hi
    · exact hx i hi
    · exact ih _ (spread_sub G h hx hc) i hi
theorem reach_mono (G : GG gw gh) : ∀ (n : Nat) (x : Int64) (i : Nat), bt x i = true → bt (fReach (nI gw) r b n x) i = true := by
  intro n
  induction n with
  | zero => intro x i hi; exact hi
  | succ n ih =>
    intro x i hi
    rw [fReach]
    split
    · exact hi
    · exact ih _ i (spread_mono G hi)
theorem reach_fix (G : GG gw gh) : ∀ (n : Nat) (x : Int64), 64 < cB x + n → fSpread (nI gw) r b (fReach (nI gw) r b n x) = fReach (nI gw) r b n x := by
  intro n
  induction n with
  | zero => intro x h; have := cB_le x; omega
  | succ n ih =>
    intro x h
    rw [fReach]
    split
    · assumption
    · rename_i q
      have := cB_mono (x := x) (y := fSpread (nI gw) r b x) (fun i hi => spread_mono G hi) q
      exact ih _ (by omega)
theorem cB_only {a : Nat} (ha : a < 64) : 1 ≤ cB (fOnly (nI a)) := by
  have := cB_mono (x := 0) (y := fOnly (nI a)) (fun i hi => by rw [bt_0] at hi; cases hi) (fun q => by
    have := bt_only (k := a) (i := a) ha
    rw [q, bt_0] at this
    simp at this)
  omega
theorem reach_bt (G : GG gw gh) (h : Rp gw gh P r b) {a : Nat} (ha : a < 64) (c : Nat) : bt (fReach (nI gw) r b 64 (fOnly (nI a))) c = true ↔ Rch gw gh P a c := by
  constructor
  · intro hc S hS hcl
    exact reach_sub G h hcl 64 _ (fun i hi => by rw [bt_only ha, decide_eq_true_eq] at hi; rw [hi]; exact hS) c hc
  · intro hR
    have hf := reach_fix (r := r) (b := b) G 64 (fOnly (nI a)) (by have := cB_only ha; omega)
    exact hR (fun i => bt (fReach (nI gw) r b 64 (fOnly (nI a))) i = true) (reach_mono G 64 _ a (by rw [bt_only ha]; exact decide_eq_true rfl)) (fun e he hp => spread_edge G h hf he hp)
theorem joins_eq (G : GG gw gh) {t : Nat} (ht : t < 64) : ∀ (n : Nat) (x : Int64), fJoins (nI gw) r b (nI t) n x = bt (fReach (nI gw) r b n x) t := by
  intro n
  induction n with
  | zero => intro x; rw [fJoins, fReach, holds_bt ht]
  | succ n ih =>
    intro x
    rw [fJoins, fReach, holds_bt ht]
    cases q : bt x t
    · rw [if_neg Bool.false_ne_true]
      split
      · exact q.symm
      · exact ih _
    · rw [if_pos rfl]
      split
      · exact q.symm
      · exact (reach_mono G n _ t (spread_mono G q)).symm
theorem greater_n : ∀ e, e < 128 → ∀ w, w < 9 → fGreater (nI w) (nI e) = nI (oth w e) := by decide +kernel
theorem rcS_0 {a c : Nat} : rcS gw gh P a c = 0 ↔ ¬ Rch gw gh P a c := by
  unfold rcS
  by_cases q : Rch gw gh P a c
  · rw [if_pos q]; exact ⟨fun h => absurd h (by decide), fun h => absurd q h⟩
  · rw [if_neg q]; exact ⟨fun _ => q, fun _ => rfl⟩
theorem rcT_0 {a c : Nat} : rcT gw gh P a c = 0 ↔ ¬ RchS gw gh P a c := by
  unfold rcT
  by_cases q : RchS gw gh P a c
  · rw [if_pos q]; exact ⟨fun h => absurd h (by decide), fun h => absurd q h⟩
  · rw [if_neg q]; exact ⟨fun _ => q, fun _ => rfl⟩
theorem RchS_eq {Q : Nat → Bool} {a c : Nat} (ha : Q a = true) : RchS gw gh Q a c ↔ Rch gw gh (fun e => Q (e / 2) && Q (oth gw e)) a c := by
  constructor
  · intro h S hS hc
    have := h (fun i => S i ∧ Q i = true) ⟨hS, ha⟩ (fun e he => ⟨fun q p => ⟨(hc e he (by show (Q (e / 2) && Q (oth gw e)) = true; rw [q.2, p]; rfl)).mp q.1, p⟩, fun q p => ⟨(hc e he (by show (Q (e / 2) && Q (oth gw e)) = true; rw [q.2, p]; rfl)).mpr q.1, p⟩⟩)
    exact this.1
  · intro h S hS hc
    refine h S hS (fun e he hp => ?_)
    have hp : (Q (e / 2) && Q (oth gw e)) = true := hp
    rw [Bool.and_eq_true] at hp
    exact ⟨fun q => (hc e he).1 q hp.2, fun q => (hc e he).2 q hp.1⟩
end RCH
