/-! SETS OF EDGES: the masks r, b hold the edges that are there and of which P holds. -/
def Rp (gw gh : Nat) (P : Nat → Bool) (r b : Int64) : Prop := ∀ c, c < 64 → bt r c = (isEn gw gh (2 * c) && P (2 * c)) ∧ bt b c = (isEn gw gh (2 * c + 1) && P (2 * c + 1))
theorem isEn_c {gw gh e : Nat} (h : isEn gw gh e = true) : e / 2 < gw * gh := by have := isEn_lt h; omega
theorem less_n : ∀ e, e < 128 → fLess (nI e) = nI (e / 2) := by decide +kernel
theorem below_n : ∀ e, e < 128 → fBelow (nI e) = decide (e % 2 = 1) := by decide +kernel
theorem Rp_has {gw gh : Nat} {P : Nat → Bool} {r b : Int64} (h : Rp gw gh P r b) {e : Nat} (he : e < 128) : fHas r b (nI e) = (isEn gw gh e && P e) := by
  unfold fHas
  rw [below_n e he, less_n e he, holds_bt (by omega)]
  have hh := h (e / 2) (by omega)
  by_cases q : e % 2 = 1
  · rw [decide_eq_true q, if_pos rfl, hh.2, show 2 * (e / 2) + 1 = e by omega]
  · rw [decide_eq_false q, if_neg (by decide), hh.1, show 2 * (e / 2) = e by omega]
theorem Rp_all {gw gh : Nat} (G : GG gw gh) : Rp gw gh (fun _ => true) (gAr gw gh) (gAb gw gh) := fun c _ => ⟨by rw [ar_bt G, Bool.and_true], by rw [ab_bt G, Bool.and_true]⟩
theorem Rp_an {gw gh : Nat} {P P' : Nat → Bool} {r b r' b' : Int64} (h : Rp gw gh P r b) (h' : Rp gw gh P' r' b') : Rp gw gh (fun e => P e && !P' e) (r &&& (r' ^^^ (-1))) (b &&& (b' ^^^ (-1))) := by
  intro c hc
  obtain ⟨a1, a2⟩ := h c hc
  obtain ⟨b1, b2⟩ := h' c hc
  rw [bt_an, bt_an, a1, a2, b1, b2]
  dsimp only
  constructor
  · cases isEn gw gh (2 * c) <;> cases P (2 * c) <;> cases P' (2 * c) <;> rfl
  · cases isEn gw gh (2 * c + 1) <;> cases P (2 * c + 1) <;> cases P' (2 * c + 1) <;> rfl
theorem Rp_congr {gw gh : Nat} {P P' : Nat → Bool} {r b : Int64} (h : Rp gw gh P r b) (e : ∀ i, isEn gw gh i = true → P i = P' i) : Rp gw gh P' r b := by
  intro c hc
  obtain ⟨a1, a2⟩ := h c hc
  rw [a1, a2]
  constructor
  · cases q : isEn gw gh (2 * c)
    · rfl
    · rw [e _ q]
  · cases q : isEn gw gh (2 * c + 1)
    · rfl
    · rw [e _ q]
/-- the edge of cell c in direction d, if it is there and P holds of it -/
def dI (gw c : Nat) : Nat → Nat
  | 0 => 2 * (c - gw) + 1
  | 1 => 2 * c
  | 2 => 2 * c + 1
  | _ => 2 * (c - 1)
def dX (gw c : Nat) : Nat → Bool
  | 0 => decide (gw ≤ c)
  | 1 => true
  | 2 => true
  | _ => decide (1 ≤ c)
theorem dX_0 {gw c : Nat} : dX gw c 0 = decide (gw ≤ c) := rfl
theorem dX_1 {gw c : Nat} : dX gw c 1 = true := rfl
theorem dX_2 {gw c : Nat} : dX gw c 2 = true := rfl
theorem dX_3 {gw c : Nat} : dX gw c 3 = decide (1 ≤ c) := rfl
theorem dI_0 {gw c : Nat} : dI gw c 0 = 2 * (c - gw) + 1 := rfl
theorem dI_1 {gw c : Nat} : dI gw c 1 = 2 * c := rfl
theorem dI_2 {gw c : Nat} : dI gw c 2 = 2 * c + 1 := rfl
theorem dI_3 {gw c : Nat} : dI gw c 3 = 2 * (c - 1) := rfl
def un (gw gh : Nat) (P : Nat → Bool) (c d : Nat) : Bool := dX gw c d && (isEn gw gh (dI gw c d) && P (dI gw c d))
def cn (gw gh : Nat) (P : Nat → Bool) (c : Nat) : Nat := b01 (un gw gh P c 0) + b01 (un gw gh P c 1) + b01 (un gw gh P c 2) + b01 (un gw gh P c 3)
section DIR
variable {gw gh : Nat} {P : Nat → Bool} {r b : Int64}
theorem bt_right (h : Rp gw gh P r b) {c : Nat} (hc : c < 64) : bt r c = un gw gh P c 1 := by rw [(h c hc).1]; rfl
theorem bt_below (h : Rp gw gh P r b) {c : Nat} (hc : c < 64) : bt b c = un gw gh P c 2 := by rw [(h c hc).2]; rfl
theorem bt_left (h : Rp gw gh P r b) {c : Nat} (hc : c < 64) : bt (fLeft r) c = un gw gh P c 3 := by
  unfold fLeft
  rw [show (1 : Int32) = nI 1 from rfl, bt_shl (by decide) hc, (h (c - 1) (by omega)).1]; rfl
theorem bt_above (G : GG gw gh) (h : Rp gw gh P r b) {c : Nat} (hc : c < 64) : bt (fAbove (nI gw) b) c = un gw gh P c 0 := by
  unfold fAbove
  rw [bt_shl (by have := G.w8; omega) hc, (h (c - gw) (by omega)).2]; rfl
theorem bt_one (G : GG gw gh) (h : Rp gw gh P r b) {c : Nat} (hc : c < 64) : bt (fOne (nI gw) r b) c = decide (1 ≤ cn gw gh P c) := by
  unfold fOne cn
  rw [bt_or, bt_or, bt_or, bt_right h hc, bt_left h hc, bt_below h hc, bt_above G h hc]
  cases un gw gh P c 0 <;> cases un gw gh P c 1 <;> cases un gw gh P c 2 <;> cases un gw gh P c 3 <;> rfl
theorem bt_two (G : GG gw gh) (h : Rp gw gh P r b) {c : Nat} (hc : c < 64) : bt (fTwo (nI gw) r b) c = decide (2 ≤ cn gw gh P c) := by
  unfold fTwo cn
  simp only [bt_or, bt_and]
  rw [bt_right h hc, bt_left h hc, bt_below h hc, bt_above G h hc]
  cases un gw gh P c 0 <;> cases un gw gh P c 1 <;> cases un gw gh P c 2 <;> cases un gw gh P c 3 <;> rfl
theorem bt_three (G : GG gw gh) (h : Rp gw gh P r b) {c : Nat} (hc : c < 64) : bt (fThree (nI gw) r b) c = decide (3 ≤ cn gw gh P c) := by
  unfold fThree cn
  simp only [bt_or, bt_and]
  rw [bt_right h hc, bt_left h hc, bt_below h hc, bt_above G h hc]
  cases un gw gh P c 0 <;> cases un gw gh P c 1 <;> cases un gw gh P c 2 <;> cases un gw gh P c 3 <;> rfl
theorem count_n (G : GG gw gh) (h : Rp gw gh P r b) {c : Nat} (hc : c < 64) : fCount (nI gw) r b (nI c) = nI (cn gw gh P c) := by
  unfold fCount cn
  rw [bc_at hc, bc_at hc, bc_at hc, bc_at hc, bt_right h hc, bt_left h hc, bt_below h hc, bt_above G h hc, nI_add, nI_add, nI_add]
  congr 1
  omega
/-- only cells that are there have edges -/
theorem un_cell (G : GG gw gh) {c d : Nat} (h : un gw gh P c d = true) : c < gw * gh := by
  have h1 := G.w1
  simp only [un, Bool.and_eq_true] at h
  obtain ⟨hx, he, _⟩ := h
  match d with
  | 0 =>
    have hx : gw ≤ c := of_decide_eq_true hx
    have he : isEn gw gh (2 * (c - gw) + 1) = true := he
    rw [isEn_b, Bool.and_eq_true, decide_eq_true_eq, decide_eq_true_eq] at he
    have hd : (c - gw) / gw < gh - 1 ↔ c - gw < (gh - 1) * gw := Nat.div_lt_iff_lt_mul h1
    have h3 := hd.mp he.2
    have hm : (gh - 1) * gw = gw * gh - gw := by rw [Nat.sub_mul, Nat.one_mul, Nat.mul_comm]
    omega
  | 1 => have := isEn_c (e := 2 * c) he; omega
  | 2 => have := isEn_c (e := 2 * c + 1) he; omega
  | k + 3 =>
    have hx : 1 ≤ c := of_decide_eq_true hx
    have he : isEn gw gh (2 * (c - 1)) = true := he
    rw [isEn_r, Bool.and_eq_true, decide_eq_true_eq, decide_eq_true_eq] at he
    obtain ⟨a1, a2, a3⟩ := cell_xy h1 he.1
    have := row_lt (gw := gw) (gh := gh) (x := (c - 1) % gw + 1) (y := (c - 1) / gw) (by omega) a2
    omega
theorem cn_cell (G : GG gw gh) {c : Nat} (h : 1 ≤ cn gw gh P c) : c < gw * gh := by
  unfold cn at h
  rcases e0 : un gw gh P c 0 with _ | _
  · rcases e1 : un gw gh P c 1 with _ | _
    · rcases e2 : un gw gh P c 2 with _ | _
      · rcases e3 : un gw gh P c 3 with _ | _
        · rw [e0, e1, e2, e3] at h; exact absurd h (by decide)
        · exact un_cell G e3
      · exact un_cell G e2
    · exact un_cell G e1
  · exact un_cell G e0
theorem un_congr {P P' : Nat → Bool} (e : ∀ i, isEn gw gh i = true → P i = P' i) (c d : Nat) : un gw gh P c d = un gw gh P' c d := by
  unfold un
  cases q : isEn gw gh (dI gw c d)
  · rfl
  · rw [e _ q]
theorem cn_congr {P P' : Nat → Bool} (e : ∀ i, isEn gw gh i = true → P i = P' i) (c : Nat) : cn gw gh P c = cn gw gh P' c := by
  unfold cn; rw [un_congr e, un_congr e, un_congr e, un_congr e]
end DIR
/-! The reference's edges of a cell. -/
theorem raw_neg : ∀ c, c < 8 → ∀ w, w < 9 → c < w → 2 * (nI c - nI w) + 1 < 0 := by decide +kernel
theorem raw_0 {gw c : Nat} : rRaw gw c 0 = 2 * (nI c - nI gw) + 1 := rfl
theorem raw_1 {gw c : Nat} : rRaw gw c 1 = nI (2 * c) := rfl
theorem raw_2 {gw c : Nat} : rRaw gw c 2 = nI (2 * c + 1) := rfl
theorem raw_3 {gw c : Nat} : rRaw gw c 3 = if c % gw ≤ 0 then -1 else nI (2 * (c - 1)) := rfl
theorem z_pos {c : Nat} (h : 0 < c) : decide (1 ≤ c) = true := decide_eq_true h
theorem up_n {c gw : Nat} (q : gw ≤ c) : 2 * (nI c - nI gw) + 1 = nI (2 * (c - gw) + 1) := by
  rw [pk_sub (a := c) (b := gw) q, show (2 : Int32) = nI 2 from rfl, pk_mul, show (1 : Int32) = nI 1 from rfl, nI_add]
theorem lf_n {c : Nat} (q : 1 ≤ c) : 2 * (nI c - 1) = nI (2 * (c - 1)) := by
  rw [show (nI c - 1) = nI (c - 1) from pk_sub (a := c) (b := 1) q, show (2 : Int32) = nI 2 from rfl, pk_mul]
theorem rEOf_eq {gw gh c d : Nat} (G : GG gw gh) (hc : c < 64) (hd : d < 4) : rEOf gw gh c d = if (dX gw c d && isEn gw gh (dI gw c d)) = true then nI (dI gw c d) else -1 := by
  have h1 := G.w1
  have h8 := G.w8
  have key : ∀ e, e < 2 ^ 31 → (if rIsE gw gh (nI e) = true then nI e else -1) = if isEn gw gh e = true then nI e else -1 := fun e he => by rw [rIsE_nI he]
  unfold rEOf
  rcases (by omega : d = 0 ∨ d = 1 ∨ d = 2 ∨ d = 3) with rfl | rfl | rfl | rfl
  · rw [raw_0, dX_0, dI_0]
    rcases Nat.lt_or_ge c gw with q | q
    · rw [rIsE_neg (raw_neg c (by omega) gw (by omega) q), decide_eq_false (by omega), Bool.false_and, if_neg (by decide), if_neg (by decide)]
    · rw [decide_eq_true q, Bool.true_and, up_n q]
      exact key _ (by omega)
  · rw [raw_1, dX_1, dI_1, Bool.true_and]
    exact key (2 * c) (by omega)
  · rw [raw_2, dX_2, dI_2, Bool.true_and]
    exact key (2 * c + 1) (by omega)
  · rw [raw_3, dX_3, dI_3]
    by_cases q : c % gw ≤ 0
    · rw [if_pos q, rIsE_neg (by decide), if_neg (by decide)]
      rcases Nat.eq_zero_or_pos c with z | z
      · subst z; rw [decide_eq_false (by decide), Bool.false_and, if_neg (by decide)]
      · rw [z_pos z, Bool.true_and]
        cases e : isEn gw gh (2 * (c - 1))
        · rw [if_neg (by decide)]
        · exfalso
          rw [isEn_r, Bool.and_eq_true, decide_eq_true_eq, decide_eq_true_eq] at e
          obtain ⟨a1, a2, a3⟩ := cell_xy h1 e.1
          have h9 : c = gw * ((c - 1) / gw) + ((c - 1) % gw + 1) := by omega
          have h10 : c % gw = (c - 1) % gw + 1 := by
            conv => lhs; rw [h9]
            exact xy_mod (by omega)
          omega
    · have z : 1 ≤ c := by
        rcases Nat.eq_zero_or_pos c with z | z
        · subst z; rw [Nat.zero_mod] at q; omega
        · exact z
      rw [if_neg q, decide_eq_true z, Bool.true_and]
      exact key _ (by omega)
theorem cn1_eq {gw gh : Nat} (G : GG gw gh) {ed : Nat → Int32} {c d : Nat} {v : Int32} (hc : c < 64) (hd : d < 4) : cn1 gw gh ed c v d = b01 (un gw gh (fun e => decide (ed e = v)) c d) := by
  unfold cn1 un
  dsimp only
  rw [rEOf_eq G hc hd]
  cases h : (dX gw c d && isEn gw gh (dI gw c d))
  · rw [if_neg Bool.false_ne_true, if_pos (by decide), ← Bool.and_assoc, h, Bool.false_and]; rfl
  · have hl : dI gw c d < 2 ^ 31 := by
      rcases (by omega : d = 0 ∨ d = 1 ∨ d = 2 ∨ d = 3) with rfl | rfl | rfl | rfl <;> simp only [dI] <;> omega
    rw [if_pos rfl, if_neg (nI_pos hl), nI_clamp hl, ← Bool.and_assoc, h, Bool.true_and]
    by_cases e : ed (dI gw c d) = v
    · rw [if_pos e, decide_eq_true e]; rfl
    · rw [if_neg e, decide_eq_false e]; rfl
theorem cnt_eq {gw gh : Nat} (G : GG gw gh) {ed : Nat → Int32} {c : Nat} {v : Int32} (hc : c < 64) : cnt gw gh ed c v = cn gw gh (fun e => decide (ed e = v)) c := by
  unfold cnt cn
  simp only [cntR]
  rw [cn1_eq G hc (by decide), cn1_eq G hc (by decide), cn1_eq G hc (by decide), cn1_eq G hc (by decide)]
  simp only [Nat.reduceAdd, Nat.reduceSub]
  omega
theorem edgeNo_neg : ∀ c, c < 8 → ∀ w, w < 9 → c < w → 2 * (nI c - nI w) + 1 < 0 := raw_neg
theorem hasEdge_n {gw gh : Nat} (G : GG gw gh) {e : Nat} (he : e < 2 ^ 31) : fHasEdge (nI (2 * (gw * gh))) (gAr gw gh) (gAb gw gh) (nI e) = isEn gw gh e := by
  have hN := G.N
  unfold fHasEdge
  rw [decide_eq_true (nI_pos he), Bool.true_and]
  by_cases h : e < 2 * (gw * gh)
  · rw [decide_eq_true (nI_ge h (by omega)), Bool.true_and, Rp_has (Rp_all G) (by omega), Bool.and_true]
  · rw [decide_eq_false (fun q => q (nI_le (by omega) he)), Bool.false_and]
    cases q : isEn gw gh e
    · rfl
    · exact absurd (isEn_lt q) h
theorem hasEdge_neg {gw gh : Nat} {a : Int32} (h : a < 0) (r b : Int64) : fHasEdge (nI (2 * (gw * gh))) r b a = false := by
  unfold fHasEdge; rw [decide_eq_false (fun q => q h)]; rfl
theorem eNo_0 {gw c : Nat} : fEdgeNo (nI gw) (nI c) (nI 0) = 2 * (nI c - nI gw) + 1 := if_pos rfl
theorem eNo_1 {gw c : Nat} : fEdgeNo (nI gw) (nI c) (nI 1) = nI (2 * c) := by
  unfold fEdgeNo; rw [if_neg (by decide), if_pos (by decide)]; exact pk_mul 2 c
theorem eNo_2 {gw c : Nat} : fEdgeNo (nI gw) (nI c) (nI 2) = nI (2 * c + 1) := by
  unfold fEdgeNo; rw [if_neg (by decide), if_neg (by decide), if_pos (by decide), show (2 : Int32) = nI 2 from rfl, pk_mul, show (1 : Int32) = nI 1 from rfl, nI_add]
theorem eNo_3 {gw c : Nat} : fEdgeNo (nI gw) (nI c) (nI 3) = 2 * (nI c - 1) := by
  unfold fEdgeNo; rw [if_neg (by decide), if_neg (by decide), if_neg (by decide)]
theorem edgeOf_eq {gw gh c d : Nat} (G : GG gw gh) (hc : c < 64) (hd : d < 4) : fEdgeOf (nI gw) (nI (2 * (gw * gh))) (gAr gw gh) (gAb gw gh) (nI c) (nI d) = if (dX gw c d && isEn gw gh (dI gw c d)) = true then nI (dI gw c d) else -1 := by
  have h1 := G.w1
  have h8 := G.w8
  have key : ∀ e, e < 2 ^ 31 → (if fHasEdge (nI (2 * (gw * gh))) (gAr gw gh) (gAb gw gh) (nI e) = true then nI e else -1) = if isEn gw gh e = true then nI e else -1 := fun e he => by rw [hasEdge_n G he]
  unfold fEdgeOf
  rcases (by omega : d = 0 ∨ d = 1 ∨ d = 2 ∨ d = 3) with rfl | rfl | rfl | rfl
  · rw [eNo_0, dX_0, dI_0]
    rcases Nat.lt_or_ge c gw with q | q
    · rw [hasEdge_neg (raw_neg c (by omega) gw (by omega) q), decide_eq_false (by omega), Bool.false_and, if_neg (by decide), if_neg (by decide)]
    · rw [decide_eq_true q, Bool.true_and, up_n q]
      exact key _ (by omega)
  · rw [eNo_1, dX_1, dI_1, Bool.true_and]
    exact key (2 * c) (by omega)
  · rw [eNo_2, dX_2, dI_2, Bool.true_and]
    exact key (2 * c + 1) (by omega)
  · rw [eNo_3, dX_3, dI_3]
    rcases Nat.eq_zero_or_pos c with z | z
    · subst z
      rw [hasEdge_neg (by decide), decide_eq_false (by decide), Bool.false_and, if_neg (by decide), if_neg (by decide)]
    · rw [z_pos z, Bool.true_and, lf_n z]
      exact key _ (by omega)
