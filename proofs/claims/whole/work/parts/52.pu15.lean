/-! A CHANGE ON BOTH SIDES. -/
theorem isEn_128 {gw gh e : Nat} (G : GG gw gh) (h : isEn gw gh e = true) : e < 128 := by
  have := isEn_lt h
  have := G.N
  omega
theorem Rp_add {gw gh : Nat} (G : GG gw gh) {P : Nat → Bool} {r b : Int64} (h : Rp gw gh P r b) {i : Nat} (hi : isEn gw gh i = true) : Rp gw gh (fun e => decide (e = i) || P e) (fAddR r (nI i)) (fAddB b (nI i)) := by
  have h128 := isEn_128 G hi
  intro c hc
  obtain ⟨a1, a2⟩ := h c hc
  unfold fAddR fAddB
  rw [below_n i h128, less_n i h128]
  by_cases q : i % 2 = 1
  · rw [decide_eq_true q, if_pos rfl, if_pos rfl, bt_or, bt_only (by omega), a1, a2]
    dsimp only
    constructor
    · rw [decide_eq_false (show ¬ 2 * c = i by omega), Bool.false_or]
    · by_cases e : c = i / 2
      · rw [show 2 * c + 1 = i by omega, hi, decide_eq_true e, decide_eq_true rfl]; simp
      · rw [decide_eq_false e, decide_eq_false (show ¬ 2 * c + 1 = i by omega), Bool.or_false, Bool.false_or]
  · rw [decide_eq_false q, if_neg Bool.false_ne_true, if_neg Bool.false_ne_true, bt_or, bt_only (by omega), a1, a2]
    dsimp only
    constructor
    · by_cases e : c = i / 2
      · rw [show 2 * c = i by omega, hi, decide_eq_true e, decide_eq_true rfl]; simp
      · rw [decide_eq_false e, decide_eq_false (show ¬ 2 * c = i by omega), Bool.or_false, Bool.false_or]
    · rw [decide_eq_false (show ¬ 2 * c + 1 = i by omega), Bool.false_or]
theorem upd_eq (f : Nat → Int32) (k : Nat) (v : Int32) (j : Nat) : upd f k v j = if j = k then v else f j := by unfold upd; rfl
theorem sv3 (z : Bool) : sv z = 0 ∨ sv z = 1 ∨ sv z = 2 := by cases z <;> simp [sv]
section CH
variable {gw gh : Nat} {onr onb ofr ofb mu ba bl wh : Int64} {ed du sh : Nat → Int32}
theorem Rel.edge (G : GG gw gh) (R : Rel gw gh onr onb ofr ofb mu ba bl wh ed du sh) (z : Bool) {i : Nat} (hi : isEn gw gh i = true) (h0 : ed i = 0) : Rel gw gh (if z = true then fAddR onr (nI i) else onr) (if z = true then fAddB onb (nI i) else onb) (if z = false then fAddR ofr (nI i) else ofr) (if z = false then fAddB ofb (nI i) else ofb) mu ba bl wh (upd ed i (sv z)) du sh := by
  have h3 : ∀ e, isEn gw gh e = true → upd ed i (sv z) e = 0 ∨ upd ed i (sv z) e = 1 ∨ upd ed i (sv z) e = 2 := by
    intro e he
    rw [upd_eq]
    split
    · exact sv3 z
    · exact R.e3 e he
  cases z with
  | true =>
    refine ⟨?_, ?_, h3, R.mu, R.ba, R.d3, R.bl, R.wh, R.s3⟩
    · rw [if_pos rfl, if_pos rfl]
      refine Rp_congr (Rp_add G R.on hi) (fun e _ => ?_)
      rw [upd_eq]
      by_cases q : e = i
      · rw [if_pos q, decide_eq_true q]; rfl
      · rw [if_neg q, decide_eq_false q, Bool.false_or]
    · rw [if_neg (by decide), if_neg (by decide)]
      refine Rp_congr R.off (fun e _ => ?_)
      rw [upd_eq]
      by_cases q : e = i
      · rw [if_pos q, q, h0]; rfl
      · rw [if_neg q]
  | false =>
    refine ⟨?_, ?_, h3, R.mu, R.ba, R.d3, R.bl, R.wh, R.s3⟩
    · rw [if_neg (by decide), if_neg (by decide)]
      refine Rp_congr R.on (fun e _ => ?_)
      rw [upd_eq]
      by_cases q : e = i
      · rw [if_pos q, q, h0]; rfl
      · rw [if_neg q]
    · rw [if_pos rfl, if_pos rfl]
      refine Rp_congr (Rp_add G R.off hi) (fun e _ => ?_)
      rw [upd_eq]
      by_cases q : e = i
      · rw [if_pos q, decide_eq_true q]; rfl
      · rw [if_neg q, decide_eq_false q, Bool.false_or]
theorem orC_bt {N : Nat} {x : Int64} {f : Nat → Bool} (h : ∀ c, c < 64 → bt x c = (decide (c < N) && f c)) (hN : N ≤ 64) {i : Nat} (hi : i < N) {g : Nat → Bool} (hg : ∀ c, c < N → g c = (decide (c = i) || f c)) : ∀ c, c < 64 → bt (fOrC x (nI i)) c = (decide (c < N) && g c) := by
  intro c hc
  unfold fOrC
  rw [bt_or, bt_only (by omega), h c hc]
  by_cases q : c < N
  · rw [hg c q, decide_eq_true q]
    cases f c <;> cases decide (c = i) <;> rfl
  · rw [decide_eq_false q, decide_eq_false (by omega)]; rfl
theorem Rel.shade (G : GG gw gh) (R : Rel gw gh onr onb ofr ofb mu ba bl wh ed du sh) (z : Bool) {i : Nat} (hi : i < gw * gh) (h0 : sh i = 0) : Rel gw gh onr onb ofr ofb mu ba (if z = true then fOrC bl (nI i) else bl) (if z = false then fOrC wh (nI i) else wh) ed du (upd sh i (sv z)) := by
  have h3 : ∀ e, e < gw * gh → upd sh i (sv z) e = 0 ∨ upd sh i (sv z) e = 1 ∨ upd sh i (sv z) e = 2 := by
    intro e he
    rw [upd_eq]
    split
    · exact sv3 z
    · exact R.s3 e he
  cases z with
  | true =>
    refine ⟨R.on, R.off, R.e3, R.mu, R.ba, R.d3, ?_, ?_, h3⟩
    · rw [if_pos rfl]
      refine orC_bt (f := fun c => decide (sh c = 1)) R.bl G.N hi (fun c hc => ?_)
      rw [upd_eq]
      by_cases q : c = i
      · rw [if_pos q, decide_eq_true q]; rfl
      · rw [if_neg q, decide_eq_false q, Bool.false_or]
    · rw [if_neg (by decide)]
      intro c hc
      rw [R.wh c hc, upd_eq]
      by_cases q : c = i
      · rw [if_pos q, q, h0]; rfl
      · rw [if_neg q]
  | false =>
    refine ⟨R.on, R.off, R.e3, R.mu, R.ba, R.d3, ?_, ?_, h3⟩
    · rw [if_neg (by decide)]
      intro c hc
      rw [R.bl c hc, upd_eq]
      by_cases q : c = i
      · rw [if_pos q, q, h0]; rfl
      · rw [if_neg q]
    · rw [if_pos rfl]
      refine orC_bt (f := fun c => decide (sh c = 2)) R.wh G.N hi (fun c hc => ?_)
      rw [upd_eq]
      by_cases q : c = i
      · rw [if_pos q, decide_eq_true q]; rfl
      · rw [if_neg q, decide_eq_false q, Bool.false_or]
end CH
theorem Rel.edges {gw gh : Nat} (G : GG gw gh) (z : Bool) {mu ba bl wh : Int64} {du sh : Nat → Int32} : ∀ (L : List Nat) (onr onb ofr ofb : Int64) (ed : Nat → Int32), Rel gw gh onr onb ofr ofb mu ba bl wh ed du sh → L.Nodup → (∀ i ∈ L, isEn gw gh i = true ∧ ed i = 0) → Rel gw gh (adE true z fAddR (L.map nI) onr) (adE true z fAddB (L.map nI) onb) (adE false z fAddR (L.map nI) ofr) (adE false z fAddB (L.map nI) ofb) mu ba bl wh (edS z ed (L.map nI)) du sh := by
  intro L
  induction L with
  | nil => intro onr onb ofr ofb ed R _ _; cases z <;> exact R
  | cons i L ih =>
    intro onr onb ofr ofb ed R hd hq
    obtain ⟨hi, h0⟩ := hq i (List.mem_cons_self ..)
    obtain ⟨d1, d2⟩ := List.nodup_cons.mp hd
    have := ih _ _ _ _ _ (R.edge G z hi h0) d2 (fun j hj => by
      obtain ⟨a1, a2⟩ := hq j (List.mem_cons_of_mem _ hj)
      refine ⟨a1, ?_⟩
      rw [upd_eq, if_neg (fun e : j = i => d1 (by rw [← e]; exact hj))]
      exact a2)
    rw [List.map_cons, adE_cons, adE_cons, adE_cons, adE_cons]
    show Rel gw gh _ _ _ _ _ _ _ _ (edS z (upd ed (nI i).toNatClampNeg (sv z)) (L.map nI)) du sh
    rw [nI_clamp (by have := isEn_128 G hi; omega)]
    exact this
theorem Rel.shades {gw gh : Nat} (G : GG gw gh) (z : Bool) {onr onb ofr ofb mu ba : Int64} {ed du : Nat → Int32} : ∀ (L : List Nat) (bl wh : Int64) (sh : Nat → Int32), Rel gw gh onr onb ofr ofb mu ba bl wh ed du sh → L.Nodup → (∀ i ∈ L, i < gw * gh ∧ sh i = 0) → Rel gw gh onr onb ofr ofb mu ba (adE true z fOrC (L.map nI) bl) (adE false z fOrC (L.map nI) wh) ed du (edS z sh (L.map nI)) := by
  intro L
  induction L with
  | nil => intro bl wh sh R _ _; cases z <;> exact R
  | cons i L ih =>
    intro bl wh sh R hd hq
    obtain ⟨hi, h0⟩ := hq i (List.mem_cons_self ..)
    obtain ⟨d1, d2⟩ := List.nodup_cons.mp hd
    have := ih _ _ _ (R.shade G z hi h0) d2 (fun j hj => by
      obtain ⟨a1, a2⟩ := hq j (List.mem_cons_of_mem _ hj)
      refine ⟨a1, ?_⟩
      rw [upd_eq, if_neg (fun e : j = i => d1 (by rw [← e]; exact hj))]
      exact a2)
    rw [List.map_cons, adE_cons, adE_cons]
    show Rel gw gh _ _ _ _ _ _ _ _ ed du (edS z (upd sh (nI i).toNatClampNeg (sv z)) (L.map nI))
    rw [nI_clamp (by have := G.N; omega)]
    exact this
theorem fold_in {v : Int32} : ∀ (L : List Nat), (∀ i ∈ L, i < 2 ^ 31) → ∀ (f : Nat → Int32) (j : Nat), ((L.map nI).foldl (fun f i => upd f i.toNatClampNeg v) f) j = if j ∈ L then v else f j := by
  intro L
  induction L with
  | nil => intro _ f j; rw [if_neg (by simp)]; rfl
  | cons i L ih =>
    intro h f j
    show ((L.map nI).foldl (fun f i => upd f i.toNatClampNeg v) (upd f (nI i).toNatClampNeg v)) j = _
    rw [ih (fun a ha => h a (List.mem_cons_of_mem _ ha)), nI_clamp (h i (List.mem_cons_self ..)), upd_eq]
    by_cases q : j ∈ L
    · rw [if_pos q, if_pos (List.mem_cons_of_mem _ q)]
    · rw [if_neg q]
      by_cases e : j = i
      · rw [if_pos e, if_pos (by rw [e]; exact List.mem_cons_self ..)]
      · rw [if_neg e, if_neg (fun hm => by rcases List.mem_cons.mp hm with a | a; exact e a; exact q a)]
theorem edS_in {z : Bool} {L : List Nat} (h : ∀ i ∈ L, i < 2 ^ 31) (f : Nat → Int32) (j : Nat) : edS z f (L.map nI) j = if j ∈ L then sv z else f j := fold_in L h f j
theorem byS_in {k : Nat} {L : List Nat} (h : ∀ i ∈ L, i < 2 ^ 31) (f : Nat → Int32) (j : Nat) : byS k f (L.map nI) j = if j ∈ L then nI k else f j := fold_in L h f j
theorem chW_out {z : Bool} : ∀ (is : List Int32) (ch : Nat → Int32) (t j : Nat), j < t ∨ t + is.length ≤ j → chW z ch t is j = ch j := by
  intro is
  induction is with
  | nil => intro ch t j _; rfl
  | cons a is ih =>
    intro ch t j h
    rw [chW, ih _ _ _ (by rw [List.length_cons] at h; omega), upd_eq, if_neg (by rw [List.length_cons] at h; omega)]
theorem chW_lt {z : Bool} {is : List Int32} {ch : Nat → Int32} {t j : Nat} (h : j < t) : chW z ch t is j = ch j := chW_out is ch t j (Or.inl h)
theorem chW_at {z : Bool} : ∀ (is : List Int32) (ch : Nat → Int32) (t j : Nat) (h : j < is.length), chW z ch t is (t + j) = 2 * is[j] + b2i z := by
  intro is
  induction is with
  | nil => intro ch t j h; exact absurd h (Nat.not_lt_zero _)
  | cons a is ih =>
    intro ch t j h
    rw [chW]
    rcases j with _ | j
    · rw [chW_lt (by omega), upd_eq, if_pos (Nat.add_zero t)]; rfl
    · rw [show t + (j + 1) = (t + 1) + j by omega, ih _ _ j (by rw [List.length_cons] at h; omega)]; rfl
