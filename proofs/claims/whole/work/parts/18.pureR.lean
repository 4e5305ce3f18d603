/-! What the steps of Rules decide and do, as functions. A decision: number, place, mode (0: wrong, 1: edges, 2: shades), ON or black, what it changes. -/
abbrev DEC : Type := Option (Int32 × Int32 × Nat × Bool × List Int32)
/-- what is written into the changes -/
def chW (z : Bool) : (Nat → Int32) → Nat → List Int32 → (Nat → Int32)
  | ch, _, [] => ch
  | ch, t, i :: is => chW z (upd ch t (2 * i + b2i z)) (t + 1) is
def adE (z0 z : Bool) (f : Int64 → Int32 → Int64) (l : List Int32) (x : Int64) : Int64 := if z = z0 then l.foldl f x else x
def fOrC (x : Int64) (a : Int32) : Int64 := x ||| fOnly a
theorem upd_upd (f : Nat → Int32) (k : Nat) (a b : Int32) : upd (upd f k a) k b = upd f k b := by
  funext j; unfold upd; by_cases h : j = k <;> simp [h]
theorem adE_t {z0 z : Bool} {f : Int64 → Int32 → Int64} {x : Int64} {a : Int32} : adE z0 z f [a] x = if z = z0 then f x a else x := rfl
theorem adE_cons {z0 z : Bool} {f : Int64 → Int32 → Int64} {x : Int64} {a : Int32} {l : List Int32} : adE z0 z f (a :: l) x = adE z0 z f l (if z = z0 then f x a else x) := by
  unfold adE; by_cases h : z = z0 <;> simp [h]
theorem adE_nil {z0 z : Bool} {f : Int64 → Int32 → Int64} {x : Int64} : adE z0 z f [] x = x := by unfold adE; by_cases h : z = z0 <;> simp [h]
/-- the edges that setOpenEdgesOf changes, from direction 4 - k on -/
def oEd (w en : Int32) (ar ab opr opb : Int64) (a : Int32) : Nat → List Int32
  | 0 => []
  | k + 1 => let e := fEdgeOf w en ar ab a (nI (4 - (k + 1))); if e = -1 then oEd w en ar ab opr opb a k else if fHas opr opb e then e :: oEd w en ar ab opr opb a k else oEd w en ar ab opr opb a k
/-- the cells that setOpenShades changes, from cell n - k on -/
def oSh (x : Int64) (n : Nat) : Nat → List Int32
  | 0 => []
  | k + 1 => if fHolds x (nI (n - (k + 1))) then nI (n - (k + 1)) :: oSh x n k else oSh x n k
theorem adE_consT {z : Bool} {f : Int64 → Int32 → Int64} {x : Int64} {a : Int32} {l : List Int32} : adE true z f (a :: l) x = adE true z f l (if z then f x a else x) := adE_cons
theorem adE_consF {z : Bool} {f : Int64 → Int32 → Int64} {x : Int64} {a : Int32} {l : List Int32} : adE false z f (a :: l) x = adE false z f l (if z then x else f x a) := by
  rw [adE_cons]; cases z <;> rfl
def oEq (z : Bool) (L : List Int32) (o1 o2 f1 f2 : Int64) (c1 : Nat → Int32) (t1 : Nat) (L0 : List Int32) (p1 p2 g1 g2 : Int64) (c0 : Nat → Int32) (t0 : Nat) : Prop :=
  adE true z fAddR L o1 = adE true z fAddR L0 p1 ∧ adE true z fAddB L o2 = adE true z fAddB L0 p2 ∧ adE false z fAddR L f1 = adE false z fAddR L0 g1 ∧ adE false z fAddB L f2 = adE false z fAddB L0 g2 ∧ chW z c1 t1 L = chW z c0 t0 L0 ∧ t1 + L.length = t0 + L0.length
theorem oEq_rf {z : Bool} {L : List Int32} {o1 o2 f1 f2 : Int64} {c1 : Nat → Int32} {t1 : Nat} : oEq z L o1 o2 f1 f2 c1 t1 L o1 o2 f1 f2 c1 t1 := ⟨rfl, rfl, rfl, rfl, rfl, rfl⟩
theorem oEq_step {z : Bool} {a : Int32} {L : List Int32} {o1 o2 f1 f2 : Int64} {c1 : Nat → Int32} {t1 : Nat} {L0 : List Int32} {p1 p2 g1 g2 : Int64} {c0 : Nat → Int32} {t0 : Nat} (h : oEq z (a :: L) o1 o2 f1 f2 c1 t1 L0 p1 p2 g1 g2 c0 t0) : oEq z L (if z then fAddR o1 a else o1) (if z then fAddB o2 a else o2) (if z then f1 else fAddR f1 a) (if z then f2 else fAddB f2 a) (upd c1 t1 (2 * a + b2i z)) (t1 + 1) L0 p1 p2 g1 g2 c0 t0 := by
  obtain ⟨h1, h2, h3, h4, h5, h6⟩ := h
  rw [adE_consT] at h1 h2
  rw [adE_consF] at h3 h4
  exact ⟨h1, h2, h3, h4, h5, by rw [List.length_cons] at h6; omega⟩
theorem oEq_end {z : Bool} {o1 o2 f1 f2 : Int64} {c1 : Nat → Int32} {t1 : Nat} {L0 : List Int32} {p1 p2 g1 g2 : Int64} {c0 : Nat → Int32} {t0 : Nat} (h : oEq z [] o1 o2 f1 f2 c1 t1 L0 p1 p2 g1 g2 c0 t0) : o1 = adE true z fAddR L0 p1 ∧ o2 = adE true z fAddB L0 p2 ∧ f1 = adE false z fAddR L0 g1 ∧ f2 = adE false z fAddB L0 g2 ∧ c1 = chW z c0 t0 L0 ∧ t1 = t0 + L0.length := by
  obtain ⟨h1, h2, h3, h4, h5, h6⟩ := h
  rw [adE_nil] at h1 h2 h3 h4
  exact ⟨h1, h2, h3, h4, h5, h6⟩
theorem oEq_lt {z : Bool} {a : Int32} {L : List Int32} {o1 o2 f1 f2 : Int64} {c1 : Nat → Int32} {t1 : Nat} {L0 : List Int32} {p1 p2 g1 g2 : Int64} {c0 : Nat → Int32} {t0 mm : Nat} (h : oEq z (a :: L) o1 o2 f1 f2 c1 t1 L0 p1 p2 g1 g2 c0 t0) (hm : t0 + L0.length ≤ mm) : t1 < mm := by
  have h6 := h.2.2.2.2.2
  rw [List.length_cons] at h6
  omega
theorem oEd_none {w en : Int32} {ar ab opr opb : Int64} {a : Int32} {k : Nat} (h : fEdgeOf w en ar ab a (nI (4 - (k + 1))) = -1) : oEd w en ar ab opr opb a (k + 1) = oEd w en ar ab opr opb a k := by
  rw [oEd]; simp only [h, if_true]
theorem oEd_not {w en : Int32} {ar ab opr opb : Int64} {a : Int32} {k : Nat} (h : ¬ fEdgeOf w en ar ab a (nI (4 - (k + 1))) = -1) (h2 : fHas opr opb (fEdgeOf w en ar ab a (nI (4 - (k + 1)))) = false) : oEd w en ar ab opr opb a (k + 1) = oEd w en ar ab opr opb a k := by
  rw [oEd]; simp only [h, h2, if_false, Bool.false_eq_true]
theorem oEd_take {w en : Int32} {ar ab opr opb : Int64} {a : Int32} {k : Nat} (h : ¬ fEdgeOf w en ar ab a (nI (4 - (k + 1))) = -1) (h2 : fHas opr opb (fEdgeOf w en ar ab a (nI (4 - (k + 1)))) = true) : oEd w en ar ab opr opb a (k + 1) = fEdgeOf w en ar ab a (nI (4 - (k + 1))) :: oEd w en ar ab opr opb a k := by
  rw [oEd]; simp only [h, h2, if_false, if_true]
/-- the same for shades -/
def sEq (z : Bool) (L : List Int32) (x1 x2 : Int64) (c1 : Nat → Int32) (t1 : Nat) (L0 : List Int32) (p1 p2 : Int64) (c0 : Nat → Int32) (t0 : Nat) : Prop :=
  adE true z fOrC L x1 = adE true z fOrC L0 p1 ∧ adE false z fOrC L x2 = adE false z fOrC L0 p2 ∧ chW z c1 t1 L = chW z c0 t0 L0 ∧ t1 + L.length = t0 + L0.length
theorem sEq_rf {z : Bool} {L : List Int32} {x1 x2 : Int64} {c1 : Nat → Int32} {t1 : Nat} : sEq z L x1 x2 c1 t1 L x1 x2 c1 t1 := ⟨rfl, rfl, rfl, rfl⟩
theorem sEq_step {z : Bool} {a : Int32} {L : List Int32} {x1 x2 : Int64} {c1 : Nat → Int32} {t1 : Nat} {L0 : List Int32} {p1 p2 : Int64} {c0 : Nat → Int32} {t0 : Nat} (h : sEq z (a :: L) x1 x2 c1 t1 L0 p1 p2 c0 t0) : sEq z L (if z then x1 ||| fOnly a else x1) (if z then x2 else x2 ||| fOnly a) (upd c1 t1 (2 * a + b2i z)) (t1 + 1) L0 p1 p2 c0 t0 := by
  obtain ⟨h1, h2, h5, h6⟩ := h
  rw [adE_consT] at h1
  rw [adE_consF] at h2
  exact ⟨h1, h2, h5, by rw [List.length_cons] at h6; omega⟩
theorem sEq_end {z : Bool} {x1 x2 : Int64} {c1 : Nat → Int32} {t1 : Nat} {L0 : List Int32} {p1 p2 : Int64} {c0 : Nat → Int32} {t0 : Nat} (h : sEq z [] x1 x2 c1 t1 L0 p1 p2 c0 t0) : x1 = adE true z fOrC L0 p1 ∧ x2 = adE false z fOrC L0 p2 ∧ c1 = chW z c0 t0 L0 ∧ t1 = t0 + L0.length := by
  obtain ⟨h1, h2, h5, h6⟩ := h
  rw [adE_nil] at h1 h2
  exact ⟨h1, h2, h5, h6⟩
theorem sEq_lt {z : Bool} {a : Int32} {L : List Int32} {x1 x2 : Int64} {c1 : Nat → Int32} {t1 : Nat} {L0 : List Int32} {p1 p2 : Int64} {c0 : Nat → Int32} {t0 mm : Nat} (h : sEq z (a :: L) x1 x2 c1 t1 L0 p1 p2 c0 t0) (hm : t0 + L0.length ≤ mm) : t1 < mm := by
  have h6 := h.2.2.2
  rw [List.length_cons] at h6
  omega
