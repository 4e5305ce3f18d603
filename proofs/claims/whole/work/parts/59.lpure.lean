/-! WHAT A CALL DOES ON BOTH SIDES. -/
section CALLS
variable {gw gh mm calls : Nat} {C : CSt} {L : CLg} {k : Nat} {R : RSt} {M : RLg} {mk : Nat} {sf : Nat → Int32} {rc : Nat → CSt} {V : RMk} {B ks : Nat → Nat}
theorem IV.edge (G : GG gw gh) (I : IV gw gh mm calls C L k R M mk sf rc V B ks) {av : Int32} (z : Bool) (hv : rIsE gw gh av = true) :
    IV gw gh mm (calls + 1) ((if fState C.onr C.onb C.ofr C.ofb av = 0 then if z then fAddR C.onr av else C.onr else C.onr), (if fState C.onr C.onb C.ofr C.ofb av = 0 then if z then fAddB C.onb av else C.onb else C.onb), (if fState C.onr C.onb C.ofr C.ofb av = 0 then if z then C.ofr else fAddR C.ofr av else C.ofr), (if fState C.onr C.onb C.ofr C.ofb av = 0 then if z then C.ofb else fAddB C.ofb av else C.ofb), C.mu, C.ba, C.bl, C.wh, C.to, (if fState C.onr C.onb C.ofr C.ofb av = 0 then false else C.wr)) L k ((if (rIsE gw gh av && decide (R.ed av.toNatClampNeg = 0)) = true then upd R.ed av.toNatClampNeg (sv z) else R.ed), R.du, R.sh, R.eb, R.sb) M mk sf rc V B ks
    ∧ (if (rIsE gw gh av && decide (R.ed av.toNatClampNeg = 0)) = true then false else C.wr) = (if fState C.onr C.onb C.ofr C.ofb av = 0 then false else C.wr)
    ∧ b2i (decide (fState C.onr C.onb C.ofr C.ofb av = 0)) = b2i (rIsE gw gh av && decide (R.ed av.toNatClampNeg = 0)) := by
  obtain ⟨i, hi, rfl, hcl⟩ := rIsE_spec G hv
  have e1 := state_eq G I.now.rel hi
  rw [e1, hcl, hv, Bool.true_and]
  by_cases h0 : R.ed i = 0
  · simp only [if_pos h0, decide_eq_true h0, if_true]
    refine ⟨I.set ?_, trivial, trivial⟩
    have := I.now.edge G z hi h0
    cases z <;> exact this
  · simp only [if_neg h0, decide_eq_false h0, Bool.false_eq_true, if_false]
    exact ⟨I.more, trivial, trivial⟩
theorem IV.shade (G : GG gw gh) (I : IV gw gh mm calls C L k R M mk sf rc V B ks) {av : Int32} (z : Bool) (hv : rIsC gw gh av = true) :
    IV gw gh mm (calls + 1) (C.onr, C.onb, C.ofr, C.ofb, C.mu, C.ba, (if fTri C.bl C.wh av = 0 then if z then C.bl ||| fOnly av else C.bl else C.bl), (if fTri C.bl C.wh av = 0 then if z then C.wh else C.wh ||| fOnly av else C.wh), C.to, (if fTri C.bl C.wh av = 0 then false else C.wr)) L k (R.ed, R.du, (if (rIsC gw gh av && decide (R.sh av.toNatClampNeg = 0)) = true then upd R.sh av.toNatClampNeg (sv z) else R.sh), R.eb, R.sb) M mk sf rc V B ks
    ∧ (if (rIsC gw gh av && decide (R.sh av.toNatClampNeg = 0)) = true then false else C.wr) = (if fTri C.bl C.wh av = 0 then false else C.wr)
    ∧ b2i (decide (fTri C.bl C.wh av = 0)) = b2i (rIsC gw gh av && decide (R.sh av.toNatClampNeg = 0)) := by
  obtain ⟨i, hi, rfl, hcl⟩ := rIsC_spec G hv
  have e1 := sh_eq G I.now.rel hi
  rw [e1, hcl, hv, Bool.true_and]
  by_cases h0 : R.sh i = 0
  · simp only [if_pos h0, decide_eq_true h0, if_true]
    refine ⟨I.set ?_, trivial, trivial⟩
    have := I.now.shade G z hi h0
    cases z <;> exact this
  · simp only [if_neg h0, decide_eq_false h0, Bool.false_eq_true, if_false]
    exact ⟨I.more, trivial, trivial⟩
theorem IV.duty (G : GG gw gh) (I : IV gw gh mm calls C L k R M mk sf rc V B ks) {av d : Int32} (hv : rIsC gw gh av = true) (hd0 : ¬ d < 0) (hd2 : d ≤ 2) :
    IV gw gh mm (calls + 1) (C.onr, C.onb, C.ofr, C.ofb, (if fTri C.mu C.ba av = d then C.mu else fMu C.mu av d), (if fTri C.mu C.ba av = d then C.ba else fBa C.ba av d), C.bl, C.wh, C.to, (if fTri C.mu C.ba av = d then C.wr else false)) L k (R.ed, (if (rIsC gw gh av && (!(decide (d < 0) || decide (¬ d ≤ 2)) && decide (¬ R.du av.toNatClampNeg = d))) = true then upd R.du av.toNatClampNeg d else R.du), R.sh, R.eb, R.sb) M mk sf rc V B ks
    ∧ (if (rIsC gw gh av && (!(decide (d < 0) || decide (¬ d ≤ 2)) && decide (¬ R.du av.toNatClampNeg = d))) = true then false else C.wr) = (if fTri C.mu C.ba av = d then C.wr else false)
    ∧ b2i (decide (¬ fTri C.mu C.ba av = d)) = b2i (rIsC gw gh av && (!(decide (d < 0) || decide (¬ d ≤ 2)) && decide (¬ R.du av.toNatClampNeg = d))) := by
  obtain ⟨i, hi, rfl, hcl⟩ := rIsC_spec G hv
  have e1 := du_eq G I.now.rel hi
  have hd : d = 0 ∨ d = 1 ∨ d = 2 := by
    obtain ⟨j, hj, rfl⟩ := nI_of hd0
    have : j ≤ 2 := (nI_leI hj (b := 2) (by omega)).mp hd2
    rcases (by omega : j = 0 ∨ j = 1 ∨ j = 2) with rfl | rfl | rfl
    · exact Or.inl rfl
    · exact Or.inr (Or.inl rfl)
    · exact Or.inr (Or.inr rfl)
  rw [e1, hcl, hv, Bool.true_and, decide_eq_false hd0, decide_eq_false (fun q => q hd2), Bool.or_false, Bool.not_false, Bool.true_and]
  by_cases h0 : R.du i = d
  · simp only [if_pos h0, decide_eq_false (fun q : ¬ R.du i = d => q h0), Bool.false_eq_true, if_false]
    exact ⟨I.more, trivial, trivial⟩
  · simp only [if_neg h0, decide_eq_true h0, if_true]
    exact ⟨I.set (I.now.duty G hi hd), trivial, trivial⟩
theorem IV.tell (I : IV gw gh mm calls C L k R M mk sf rc V B ks) {av : Int32} (h : ¬ av < -1) : IV gw gh mm (calls + 1) (C.onr, C.onb, C.ofr, C.ofb, C.mu, C.ba, C.bl, C.wh, av, false) L k R M mk sf rc V B ks := I.set (I.now.tell h)
/-! The answers. -/
theorem IV.endA (G : GG gw gh) {av : Int32} (z : Bool) (hv : rIsE gw gh av = true) : (if z then fGreater (nI gw) av else fLess av) = (if rIsE gw gh av then (if z then nI (oth gw av.toNatClampNeg) else nI (av.toNatClampNeg / 2)) else 0) := by
  obtain ⟨i, hi, rfl, hcl⟩ := rIsE_spec G hv
  rw [end_eq G hi z, hcl, hv]; rfl
theorem IV.isA (G : GG gw gh) (I : IV gw gh mm calls C L k R M mk sf rc V B ks) {av : Int32} (hv : rIsE gw gh av = true) : fState C.onr C.onb C.ofr C.ofb av = (if rIsE gw gh av then R.ed av.toNatClampNeg else 0) := by
  obtain ⟨i, hi, rfl, hcl⟩ := rIsE_spec G hv
  rw [state_eq G I.now.rel hi, hcl, hv]; rfl
theorem IV.reasonA (G : GG gw gh) (I : IV gw gh mm calls C L k R M mk sf rc V B ks) (hc : calls ≤ 512) (hm : mm ≤ 176) {av : Int32} (hv : rIsE gw gh av = true) : fStepTh (nI k) (mm + 256) mm L.nu L.en L.ch av false (nI k).toNatClampNeg 0 = (if rIsE gw gh av then R.eb av.toNatClampNeg else 0) := by
  obtain ⟨i, hi, rfl, hcl⟩ := rIsE_spec G hv
  have hk := I.kn hc
  rw [hcl, hv, if_pos rfl]
  exact reason_n I.log (by omega) hk.1 (by omega) hk.2 (I.now.be i hi)
theorem IV.cellA (G : GG gw gh) (I : IV gw gh mm calls C L k R M mk sf rc V B ks) (hc : calls ≤ 512) (hm : mm ≤ 176) {av : Int32} (d : Int32) (hv : rIsC gw gh av = true) :
    (if d = 0 then fTri C.bl C.wh av else if d = 1 then fTri C.mu C.ba av else if d = 2 then fCount (nI gw) C.onr C.onb av else if d = 3 then fCount (nI gw) (gAr gw gh) (gAb gw gh) av - fCount (nI gw) C.onr C.onb av - fCount (nI gw) C.ofr C.ofb av else if d = 4 then fStepTh (nI k) (mm + 256) mm L.nu L.en L.ch av true (nI k).toNatClampNeg 0 else -1)
    = (if rIsC gw gh av then (if d = 0 then R.sh av.toNatClampNeg else if d = 1 then R.du av.toNatClampNeg else if d = 2 then nI (cnt gw gh R.ed av.toNatClampNeg 1) else if d = 3 then nI (cnt gw gh R.ed av.toNatClampNeg 0) else if d = 4 then R.sb av.toNatClampNeg else -1) else 0) := by
  obtain ⟨i, hi, rfl, hcl⟩ := rIsC_spec G hv
  have hk := I.kn hc
  rw [hcl, hv, if_pos rfl, sh_eq G I.now.rel hi, du_eq G I.now.rel hi, cnt_opA G I.now.rel hi, cnt_onA G I.now.rel hi, reason_n I.log (by omega) hk.1 (by omega) hk.2 (I.now.bs i hi)]
theorem IV.stepA (I : IV gw gh mm calls C L k R M mk sf rc V B ks) (hc : calls ≤ 512) (hm : mm ≤ 176) {av d : Int32} (h0 : ¬ av < 0) (h1 : av < nI k) (h2 : 0 ≤ d) :
    (if d = 0 then fNumberOf (nI k) (mm + 256) L.nu av else if d = 1 then fNumberOf (nI k) (mm + 256) L.pl av else if d = 2 then fChanges (nI k) (mm + 256) L.en av else fChange (nI k) (mm + 256) mm L.en L.ch av (d - 3))
    = (if (decide (av < 0) || (decide (nI k ≤ av) || decide (¬ 0 ≤ d))) = true then 0 else (if d = 0 then M.nu av.toNatClampNeg else if d = 1 then M.pl av.toNatClampNeg else if d < 3 then M.bg (av.toNatClampNeg + 1) - M.bg av.toNatClampNeg else if d - 3 < M.bg (av.toNatClampNeg + 1) - M.bg av.toNatClampNeg then M.ch (M.bg av.toNatClampNeg + d - 3).toNatClampNeg else -1)) := by
  have hk := I.kn hc
  have hle : ¬ nI k ≤ av := fun q => by
    rw [Int32.le_iff_toInt_le] at q
    rw [Int32.lt_iff_toInt_lt] at h1
    omega
  rw [decide_eq_false h0, decide_eq_false hle, decide_eq_false (fun q : ¬ 0 ≤ d => q h2), Bool.or_false, Bool.or_false, if_neg Bool.false_ne_true]
  exact step_n I.log (by omega) hk.1 (by omega) hk.2 h0 h1 h2
end CALLS
