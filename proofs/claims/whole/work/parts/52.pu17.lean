/-! A STATE OF BOTH SIDES, with the log up to step k. -/
def opE (gw gh : Nat) (ed : Nat → Int32) : Nat := sm (fun e => b01 (isEn gw gh e && decide (ed e = 0))) 128
def opS (gw gh : Nat) (sh : Nat → Int32) : Nat := sm (fun c => b01 (decide (c < gw * gh) && decide (sh c = 0))) 64
abbrev Snap (gw gh mm calls : Nat) (nu : Nat → Int32) (B : Nat → Nat) (ch : Nat → Int32) (k : Nat) (onr onb ofr ofb mu ba bl wh : Int64) (to : Int32) (wr : Bool) (ed du sh eb sb : Nat → Int32) : Prop := (Rel gw gh onr onb ofr ofb mu ba bl wh ed du sh) ∧ (to = -1 ∨ ¬ to < 0) ∧ (∀ e, isEn gw gh e = true → ByO (Hc nu B ch false e) k (eb e) (ed e = 0)) ∧ (∀ c, c < gw * gh → ByO (Hc nu B ch true c) k (sb c) (sh c = 0)) ∧ (∃ W, k ≤ W + B k ∧ 2 * W ≤ calls + b01 wr ∧ B k + (opE gw gh ed + opS gw gh sh) ≤ mm)
theorem Snap.rel {gw gh mm calls : Nat} {nu : Nat → Int32} {B : Nat → Nat} {ch : Nat → Int32} {k : Nat} {onr onb ofr ofb mu ba bl wh : Int64} {to : Int32} {wr : Bool} {ed du sh eb sb : Nat → Int32} (h9 : Snap gw gh mm calls nu B ch k onr onb ofr ofb mu ba bl wh to wr ed du sh eb sb) : Rel gw gh onr onb ofr ofb mu ba bl wh ed du sh := h9.1
theorem Snap.told {gw gh mm calls : Nat} {nu : Nat → Int32} {B : Nat → Nat} {ch : Nat → Int32} {k : Nat} {onr onb ofr ofb mu ba bl wh : Int64} {to : Int32} {wr : Bool} {ed du sh eb sb : Nat → Int32} (h9 : Snap gw gh mm calls nu B ch k onr onb ofr ofb mu ba bl wh to wr ed du sh eb sb) : to = -1 ∨ ¬ to < 0 := h9.2.1
theorem Snap.be {gw gh mm calls : Nat} {nu : Nat → Int32} {B : Nat → Nat} {ch : Nat → Int32} {k : Nat} {onr onb ofr ofb mu ba bl wh : Int64} {to : Int32} {wr : Bool} {ed du sh eb sb : Nat → Int32} (h9 : Snap gw gh mm calls nu B ch k onr onb ofr ofb mu ba bl wh to wr ed du sh eb sb) : ∀ e, isEn gw gh e = true → ByO (Hc nu B ch false e) k (eb e) (ed e = 0) := h9.2.2.1
theorem Snap.bs {gw gh mm calls : Nat} {nu : Nat → Int32} {B : Nat → Nat} {ch : Nat → Int32} {k : Nat} {onr onb ofr ofb mu ba bl wh : Int64} {to : Int32} {wr : Bool} {ed du sh eb sb : Nat → Int32} (h9 : Snap gw gh mm calls nu B ch k onr onb ofr ofb mu ba bl wh to wr ed du sh eb sb) : ∀ c, c < gw * gh → ByO (Hc nu B ch true c) k (sb c) (sh c = 0) := h9.2.2.2.1
theorem Snap.bud {gw gh mm calls : Nat} {nu : Nat → Int32} {B : Nat → Nat} {ch : Nat → Int32} {k : Nat} {onr onb ofr ofb mu ba bl wh : Int64} {to : Int32} {wr : Bool} {ed du sh eb sb : Nat → Int32} (h9 : Snap gw gh mm calls nu B ch k onr onb ofr ofb mu ba bl wh to wr ed du sh eb sb) : ∃ W, k ≤ W + B k ∧ 2 * W ≤ calls + b01 wr ∧ B k + (opE gw gh ed + opS gw gh sh) ≤ mm := h9.2.2.2.2
theorem b01_mono {a b : Bool} (h : a = true → b = true) : b01 a ≤ b01 b := by
  cases a
  · exact Nat.zero_le _
  · rw [h rfl]; exact Nat.le_refl _
theorem sm_up {f g : Nat → Nat} {n j : Nat} (hj : j < n) (h : ∀ i, i ≠ j → g i = f i) (h1 : f j = 1) (h0 : g j = 0) : sm g n + 1 = sm f n := by
  induction n with
  | zero => omega
  | succ n ih =>
    show (sm g n + g n) + 1 = sm f n + f n
    by_cases q : j = n
    · subst q
      rw [sm_congr (f := g) (g := f) (fun i hi => h i (by omega)), h1, h0]
    · have := ih (by omega)
      rw [h n (fun w => q w.symm)]; omega
theorem opE_list {gw gh : Nat} (G : GG gw gh) (z : Bool) : ∀ (L : List Nat) (ed : Nat → Int32), L.Nodup → (∀ i ∈ L, isEn gw gh i = true ∧ ed i = 0) → opE gw gh (edS z ed (L.map nI)) + L.length = opE gw gh ed := by
  intro L
  induction L with
  | nil => intro ed _ _; exact Nat.add_zero _
  | cons i L ih =>
    intro ed hd hq
    obtain ⟨hi, h0⟩ := hq i (List.mem_cons_self ..)
    obtain ⟨d1, d2⟩ := List.nodup_cons.mp hd
    have e1 := ih (upd ed i (sv z)) d2 (fun j hj => by
      obtain ⟨a1, a2⟩ := hq j (List.mem_cons_of_mem _ hj)
      refine ⟨a1, ?_⟩
      rw [upd_eq, if_neg (fun e : j = i => d1 (by rw [← e]; exact hj))]
      exact a2)
    have e2 : opE gw gh (upd ed i (sv z)) + 1 = opE gw gh ed := by
      refine sm_up (isEn_128 G hi) (fun j hj => ?_) ?_ ?_
      · rw [upd_eq, if_neg hj]
      · rw [hi, h0]; rfl
      · rw [upd_eq, if_pos rfl, hi]; cases z <;> rfl
    show opE gw gh (edS z (upd ed (nI i).toNatClampNeg (sv z)) (L.map nI)) + (L.length + 1) = _
    rw [nI_clamp (by have := isEn_128 G hi; omega)]
    omega
theorem opS_list {gw gh : Nat} (G : GG gw gh) (z : Bool) : ∀ (L : List Nat) (sh : Nat → Int32), L.Nodup → (∀ i ∈ L, i < gw * gh ∧ sh i = 0) → opS gw gh (edS z sh (L.map nI)) + L.length = opS gw gh sh := by
  have hN := G.N
  intro L
  induction L with
  | nil => intro ed _ _; exact Nat.add_zero _
  | cons i L ih =>
    intro ed hd hq
    obtain ⟨hi, h0⟩ := hq i (List.mem_cons_self ..)
    obtain ⟨d1, d2⟩ := List.nodup_cons.mp hd
    have e1 := ih (upd ed i (sv z)) d2 (fun j hj => by
      obtain ⟨a1, a2⟩ := hq j (List.mem_cons_of_mem _ hj)
      refine ⟨a1, ?_⟩
      rw [upd_eq, if_neg (fun e : j = i => d1 (by rw [← e]; exact hj))]
      exact a2)
    have e2 : opS gw gh (upd ed i (sv z)) + 1 = opS gw gh ed := by
      refine sm_up (j := i) (by omega) (fun j hj => ?_) ?_ ?_
      · rw [upd_eq, if_neg hj]
      · rw [decide_eq_true hi, h0]; rfl
      · rw [upd_eq, if_pos rfl, decide_eq_true hi]; cases z <;> rfl
    show opS gw gh (edS z (upd ed (nI i).toNatClampNeg (sv z)) (L.map nI)) + (L.length + 1) = _
    rw [nI_clamp (by omega)]
    omega
section SNAP
variable {gw gh mm calls : Nat} {nu : Nat → Int32} {B : Nat → Nat} {ch : Nat → Int32} {k : Nat} {onr onb ofr ofb mu ba bl wh : Int64} {to : Int32} {wr : Bool} {ed du sh eb sb : Nat → Int32}
theorem Snap.mono (S : Snap gw gh mm calls nu B ch k onr onb ofr ofb mu ba bl wh to wr ed du sh eb sb) {c' : Nat} (h : calls ≤ c') : Snap gw gh mm c' nu B ch k onr onb ofr ofb mu ba bl wh to wr ed du sh eb sb := by
  obtain ⟨W, a, b, c⟩ := S.bud
  exact ⟨S.rel, S.told, S.be, S.bs, W, a, by omega, c⟩
theorem Snap.pre (S : Snap gw gh mm calls nu B ch k onr onb ofr ofb mu ba bl wh to wr ed du sh eb sb) {nu' ch' : Nat → Int32} {B' : Nat → Nat} (h1 : ∀ i, i < k → nu' i = nu i) (h2 : ∀ i, i ≤ k → B' i = B i) (h3 : ∀ j, j < B k → ch' j = ch j) (hm : ∀ i, i < k → B (i + 1) ≤ B k) : Snap gw gh mm calls nu' B' ch' k onr onb ofr ofb mu ba bl wh to wr ed du sh eb sb := by
  obtain ⟨W, a, b, c⟩ := S.bud
  exact ⟨S.rel, S.told, fun e he => (S.be e he).same (Hc_pre h1 h2 h3 hm) id, fun e he => (S.bs e he).same (Hc_pre h1 h2 h3 hm) id, W, by rw [h2 k (Nat.le_refl _)]; exact a, b, by rw [h2 k (Nat.le_refl _)]; exact c⟩
theorem Snap.fn (G : GG gw gh) (S : Snap gw gh mm calls nu B ch k onr onb ofr ofb mu ba bl wh to wr ed du sh eb sb) {ed' du' sh' eb' sb' : Nat → Int32} (h1 : ∀ i, i < 128 → ed' i = ed i) (h2 : ∀ i, i < 64 → du' i = du i) (h3 : ∀ i, i < 64 → sh' i = sh i) (h4 : ∀ i, i < 128 → eb' i = eb i) (h5 : ∀ i, i < 64 → sb' i = sb i) : Snap gw gh mm calls nu B ch k onr onb ofr ofb mu ba bl wh to wr ed' du' sh' eb' sb' := by
  have hN := G.N
  obtain ⟨W, a, b, c⟩ := S.bud
  have R := S.rel
  refine ⟨⟨Rp_congr R.on (fun i hi => by rw [h1 i (isEn_128 G hi)]), Rp_congr R.off (fun i hi => by rw [h1 i (isEn_128 G hi)]), fun i hi => by rw [h1 i (isEn_128 G hi)]; exact R.e3 i hi, fun i hi => by rw [h2 i hi]; exact R.mu i hi, fun i hi => by rw [h2 i hi]; exact R.ba i hi, fun i hi => by rw [h2 i (by omega)]; exact R.d3 i hi, fun i hi => by rw [h3 i hi]; exact R.bl i hi, fun i hi => by rw [h3 i hi]; exact R.wh i hi, fun i hi => by rw [h3 i (by omega)]; exact R.s3 i hi⟩, S.told, fun e he => ?_, fun e he => ?_, W, a, b, ?_⟩
  · rw [h1 e (isEn_128 G he), h4 e (isEn_128 G he)]; exact S.be e he
  · rw [h3 e (by omega), h5 e (by omega)]; exact S.bs e he
  · have e1 : opE gw gh ed' = opE gw gh ed := sm_congr (fun i hi => by rw [h1 i hi])
    have e2 : opS gw gh sh' = opS gw gh sh := sm_congr (fun i hi => by rw [h3 i hi])
    rw [e1, e2]; exact c
theorem sv_ne (z : Bool) : ¬ sv z = 0 := by cases z <;> decide
/-- an edge is told -/
theorem Snap.edge (G : GG gw gh) (S : Snap gw gh mm calls nu B ch k onr onb ofr ofb mu ba bl wh to wr ed du sh eb sb) (z : Bool) {i : Nat} (hi : isEn gw gh i = true) (h0 : ed i = 0) : Snap gw gh mm (calls + 1) nu B ch k (if z = true then fAddR onr (nI i) else onr) (if z = true then fAddB onb (nI i) else onb) (if z = false then fAddR ofr (nI i) else ofr) (if z = false then fAddB ofb (nI i) else ofb) mu ba bl wh to false (upd ed i (sv z)) du sh eb sb := by
  obtain ⟨W, a, b, c⟩ := S.bud
  have hw : b01 wr ≤ 1 := b01_le wr
  have e1 := opE_list G z [i] ed (by simp) (fun j hj => by rw [List.mem_singleton.mp hj]; exact ⟨hi, h0⟩)
  have e2 : edS z ed ([i].map nI) = upd ed i (sv z) := by
    show upd ed (nI i).toNatClampNeg (sv z) = _
    rw [nI_clamp (by have := isEn_128 G hi; omega)]
  rw [e2] at e1
  refine ⟨S.rel.edge G z hi h0, S.told, fun e he => (S.be e he).same (fun _ _ => Iff.rfl) (fun x => ?_), S.bs, W, a, by show 2 * W ≤ calls + 1 + 0; omega, by omega⟩
  rw [upd_eq] at x
  by_cases q : e = i
  · rw [if_pos q] at x; exact absurd x (sv_ne z)
  · rw [if_neg q] at x; exact x
theorem Snap.shade (G : GG gw gh) (S : Snap gw gh mm calls nu B ch k onr onb ofr ofb mu ba bl wh to wr ed du sh eb sb) (z : Bool) {i : Nat} (hi : i < gw * gh) (h0 : sh i = 0) : Snap gw gh mm (calls + 1) nu B ch k onr onb ofr ofb mu ba (if z = true then fOrC bl (nI i) else bl) (if z = false then fOrC wh (nI i) else wh) to false ed du (upd sh i (sv z)) eb sb := by
  obtain ⟨W, a, b, c⟩ := S.bud
  have hN := G.N
  have hw : b01 wr ≤ 1 := b01_le wr
  have e1 := opS_list G z [i] sh (by simp) (fun j hj => by rw [List.mem_singleton.mp hj]; exact ⟨hi, h0⟩)
  have e2 : edS z sh ([i].map nI) = upd sh i (sv z) := by
    show upd sh (nI i).toNatClampNeg (sv z) = _
    rw [nI_clamp (by omega)]
  rw [e2] at e1
  refine ⟨S.rel.shade G z hi h0, S.told, S.be, fun e he => (S.bs e he).same (fun _ _ => Iff.rfl) (fun x => ?_), W, a, by show 2 * W ≤ calls + 1 + 0; omega, by omega⟩
  rw [upd_eq] at x
  by_cases q : e = i
  · rw [if_pos q] at x; exact absurd x (sv_ne z)
  · rw [if_neg q] at x; exact x
theorem Snap.tell (S : Snap gw gh mm calls nu B ch k onr onb ofr ofb mu ba bl wh to wr ed du sh eb sb) {a : Int32} (h : ¬ a < -1) : Snap gw gh mm (calls + 1) nu B ch k onr onb ofr ofb mu ba bl wh a false ed du sh eb sb := by
  obtain ⟨W, x, b, c⟩ := S.bud
  have hw : b01 wr ≤ 1 := b01_le wr
  refine ⟨S.rel, ?_, S.be, S.bs, W, x, by show 2 * W ≤ calls + 1 + 0; omega, c⟩
  by_cases q : a < 0
  · refine Or.inl (Int32.toInt_inj.mp ?_)
    rw [Int32.lt_iff_toInt_lt] at h q
    have e0 : (0 : Int32).toInt = 0 := by decide
    have e1 : (-1 : Int32).toInt = -1 := by decide
    rw [e0] at q; rw [e1] at h ⊢; omega
  · exact Or.inr q
theorem duty_mu {c : Nat} {i : Nat} (hi : i < 64) {d : Int32} (hc : c < 64) : bt (fMu mu (nI i) d) c = if c = i then decide (d = 1) else bt mu c := by
  unfold fMu
  by_cases q : d = 1
  · rw [if_pos q, bt_or, bt_an, bt_only hi, decide_eq_true q]
    by_cases e : c = i
    · rw [decide_eq_true e, if_pos e, Bool.or_true]
    · rw [decide_eq_false e, if_neg e]; cases bt mu c <;> rfl
  · rw [if_neg q, bt_an, bt_only hi, decide_eq_false q]
    by_cases e : c = i
    · rw [decide_eq_true e, if_pos e]; cases bt mu c <;> rfl
    · rw [decide_eq_false e, if_neg e]; cases bt mu c <;> rfl
theorem duty_ba {c : Nat} {i : Nat} (hi : i < 64) {d : Int32} (hc : c < 64) : bt (fBa ba (nI i) d) c = if c = i then decide (d = 2) else bt ba c := by
  unfold fBa
  have off : bt (ba &&& (fOnly (nI i) ^^^ (-1))) c = if c = i then false else bt ba c := by
    rw [bt_an, bt_only hi]
    by_cases e : c = i
    · rw [decide_eq_true e, if_pos e]; cases bt ba c <;> rfl
    · rw [decide_eq_false e, if_neg e]; cases bt ba c <;> rfl
  by_cases q : d = 1
  · rw [if_pos q, off, q]; rfl
  · rw [if_neg q]
    by_cases r : d = 2
    · rw [if_pos r, bt_or, off, bt_only hi, decide_eq_true r]
      by_cases e : c = i
      · rw [decide_eq_true e, if_pos e, if_pos e]; rfl
      · rw [decide_eq_false e, if_neg e, if_neg e]; cases bt ba c <;> rfl
    · rw [if_neg r, off, decide_eq_false r]
theorem Snap.duty (G : GG gw gh) (S : Snap gw gh mm calls nu B ch k onr onb ofr ofb mu ba bl wh to wr ed du sh eb sb) {i : Nat} (hi : i < gw * gh) {d : Int32} (hd : d = 0 ∨ d = 1 ∨ d = 2) : Snap gw gh mm (calls + 1) nu B ch k onr onb ofr ofb (fMu mu (nI i) d) (fBa ba (nI i) d) bl wh to false ed (upd du i d) sh eb sb := by
  obtain ⟨W, x, b, c⟩ := S.bud
  have hN := G.N
  have hw : b01 wr ≤ 1 := b01_le wr
  have R := S.rel
  refine ⟨⟨R.on, R.off, R.e3, fun j hj => ?_, fun j hj => ?_, fun j hj => ?_, R.bl, R.wh, R.s3⟩, S.told, S.be, S.bs, W, x, by show 2 * W ≤ calls + 1 + 0; omega, c⟩
  · rw [duty_mu (by omega) hj, upd_eq]
    by_cases e : j = i
    · rw [if_pos e, if_pos e, decide_eq_true (by omega : j < gw * gh), Bool.true_and]
    · rw [if_neg e, if_neg e]; exact R.mu j hj
  · rw [duty_ba (by omega) hj, upd_eq]
    by_cases e : j = i
    · rw [if_pos e, if_pos e, decide_eq_true (by omega : j < gw * gh), Bool.true_and]
    · rw [if_neg e, if_neg e]; exact R.ba j hj
  · rw [upd_eq]
    by_cases e : j = i
    · rw [if_pos e]; exact hd
    · rw [if_neg e]; exact R.d3 j hj
end SNAP
