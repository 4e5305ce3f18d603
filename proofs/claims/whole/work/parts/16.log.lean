/-! READERS of StepLog: laid by wip/s_log.py -/
theorem nI_clamp_lt {x : Int32} {j : Nat} (hj : j < 2 ^ 31) (h : j < x.toNatClampNeg) : ¬ x ≤ nI j := by
  rw [Int32.le_iff_toInt_le, nI_toInt hj]
  unfold Int32.toNatClampNeg at h
  omega
theorem b2i_inj {a b : Bool} (h : b2i a = b2i b) : a = b := by
  cases a <;> cases b <;> simp [b2i] at h ⊢
set_option maxHeartbeats 4000000 in
set_option maxRecDepth 100000 in
theorem cX4_room_ct (l : Launch) (E : GE) (q a1 a2 a3 a4 n mm : Nat) (nu pl ce ch : Nat → Int32) (ct : Int32) (hn : n < 2 ^ 31)   : rdI l yX4_room wsX4_room ({ frames := 0, cells := 0, slots := 0, locals := 0 }) E [.ref q] [(q, .inr (5, [.ref a1, .ref a2, .ref a3, .ref a4, .int ct])), (a1, .inl (E.2 0, n, .inl nu)), (a2, .inl (E.2 0, n, .inl pl)), (a3, .inl (E.2 0, n, .inl ce)), (a4, .inl (E.2 0, mm, .inl ch))] (nI n - ct) := by
  refine Met.ofW (cc := cX4_room) (maxL := 1) (ret := (some .int)) (by decide) rfl ?_
  intro p e s m args below meth c s₁ B hml hv
  obtain ⟨rfl, hE, hP⟩ := hv
  have hx := B.exec
  have hb := B.bytes
  have hr := B.returns
  have hts := atoms_spec (ws := wsX4_room) B.pre
  have hown : s.vm.findClass RX4 = some m.cls := findClass_of_methodNamed B.named
  have hlocks := B.notSynchronized
  have hP : va_P E.1 vwCl [(q, .inr (5, [.ref a1, .ref a2, .ref a3, .ref a4, .int ct])), (a1, .inl (E.2 0, n, .inl nu)), (a2, .inl (E.2 0, n, .inl pl)), (a3, .inl (E.2 0, n, .inl ce)), (a4, .inl (E.2 0, mm, .inl ch))] s.heap := hP
  have hl := lv_entry ([.ref q]) (n := 1) (Nat.le_of_ble_eq_true rfl)
  rw [lg_entry_eq]
  generalize (lg_sl ([.ref q]) ++ List.replicate (1 - (lg_sl ([.ref q])).length) Slot.unset).toArray = ls at hl ⊢
  have hl : lv_has ls 1 [(0, .ref q)] := hl
  have hf_24 := hts (.fieldLink RX4 24 "LoopRegions$StepLog" "count" "I") (by decide +kernel)
  have hf_9 := hts (.fieldLink RX4 9 "LoopRegions$StepLog" "numbers" "[I") (by decide +kernel)
  have hi_RX4 : ∀ w ∈ wsX40, w ∈ wsX4_room := by decide +kernel
  refine lv_aload_n hx hb dX4_room_0 rfl (lv_at hl 0 rfl) ?_
  refine va_get (D := E.1) (ci := 5) (v := .ref a1) (C := RX4) (T := TX4) (N := 5) hx hb hts hi_RX4 hown hE.1 hP 0 rfl rfl 0 (by decide) hf_9 (fun _ h9 => h9) rfl dX4_room_1 ?_
  refine va_alen (v := nI n) hx hb hE.1 hP 1 0 rfl rfl rfl dX4_room_4 ?_
  refine lv_aload_n hx hb dX4_room_5 rfl (lv_at hl 0 rfl) ?_
  refine va_get (D := E.1) (ci := 5) (v := .int ct) (C := RX4) (T := TX4) (N := 5) hx hb hts hi_RX4 hown hE.1 hP 0 rfl rfl 4 (by decide) hf_24 (fun _ h9 => h9) rfl dX4_room_6 ?_
  refine lv_isub hx hb dX4_room_9 ?_
  exact W.iret (v := (nI n) - ct) hx hb hr (fun t9 ht9 _ => ⟨(nI n) - ct, rfl, rfl, ht9⟩) (fun q h => absurd h List.not_mem_nil) dX4_room_10
set_option maxHeartbeats 4000000 in
set_option maxRecDepth 100000 in
theorem cX4_hasStep_ct (l : Launch) (E : GE) (q a1 a2 a3 a4 n mm : Nat) (nu pl ce ch : Nat → Int32) (ct : Int32) (hn : n < 2 ^ 31) (k : Int32)  : rdI l yX4_hasStep wsX4_hasStep ({ frames := 0, cells := 0, slots := 0, locals := 0 }) E [.ref q, .int k] [(q, .inr (5, [.ref a1, .ref a2, .ref a3, .ref a4, .int ct])), (a1, .inl (E.2 0, n, .inl nu)), (a2, .inl (E.2 0, n, .inl pl)), (a3, .inl (E.2 0, n, .inl ce)), (a4, .inl (E.2 0, mm, .inl ch))] (b2i (fHasStep ct n k)) := by
  refine Met.ofW (cc := cX4_hasStep) (maxL := 2) (ret := (some .boolean)) (by decide) rfl ?_
  intro p e s m args below meth c s₁ B hml hv
  obtain ⟨rfl, hE, hP⟩ := hv
  have hx := B.exec
  have hb := B.bytes
  have hr := B.returns
  have hts := atoms_spec (ws := wsX4_hasStep) B.pre
  have hown : s.vm.findClass RX4 = some m.cls := findClass_of_methodNamed B.named
  have hlocks := B.notSynchronized
  have hP : va_P E.1 vwCl [(q, .inr (5, [.ref a1, .ref a2, .ref a3, .ref a4, .int ct])), (a1, .inl (E.2 0, n, .inl nu)), (a2, .inl (E.2 0, n, .inl pl)), (a3, .inl (E.2 0, n, .inl ce)), (a4, .inl (E.2 0, mm, .inl ch))] s.heap := hP
  have hl := lv_entry ([.ref q, .int k]) (n := 2) (Nat.le_of_ble_eq_true rfl)
  rw [lg_entry_eq]
  generalize (lg_sl ([.ref q, .int k]) ++ List.replicate (2 - (lg_sl ([.ref q, .int k])).length) Slot.unset).toArray = ls at hl ⊢
  have hl : lv_has ls 2 [(0, .ref q), (1, .int k)] := hl
  have hf_24 := hts (.fieldLink RX4 24 "LoopRegions$StepLog" "count" "I") (by decide +kernel)
  have hf_9 := hts (.fieldLink RX4 9 "LoopRegions$StepLog" "numbers" "[I") (by decide +kernel)
  have hi_RX4 : ∀ w ∈ wsX40, w ∈ wsX4_hasStep := by decide +kernel
  refine lv_iload_n hx hb dX4_hasStep_0 rfl (lv_at hl 1 rfl) ?_
  refine lv_if_lt (tgt := 25) hx hb dX4_hasStep_1 (by decide) (fun c_1 => ?_) (fun c_1 => ?_)
  · skip
    refine lv_iconst (v := 0) hx hb dX4_hasStep_25 (by decide) ?_
    exact W.zret (v := 0) hx hb hr (rfl) (fun t9 ht9 _ => ⟨0, rfl, by simp [b2i, fHasStep, c_1], ht9⟩) (fun q h => absurd h List.not_mem_nil) dX4_hasStep_26
  · skip
    refine lv_iload_n hx hb dX4_hasStep_4 rfl (lv_at hl 1 rfl) ?_
    refine lv_aload_n hx hb dX4_hasStep_5 rfl (lv_at hl 0 rfl) ?_
    refine va_get (D := E.1) (ci := 5) (v := .int ct) (C := RX4) (T := TX4) (N := 5) hx hb hts hi_RX4 hown hE.1 hP 0 rfl rfl 4 (by decide) hf_24 (fun _ h9 => h9) rfl dX4_hasStep_6 ?_
    refine lv_icmp_ge (tgt := 25) hx hb dX4_hasStep_9 (by decide) (fun c_9 => ?_) (fun c_9 => ?_)
    · skip
      refine lv_iconst (v := 0) hx hb dX4_hasStep_25 (by decide) ?_
      exact W.zret (v := 0) hx hb hr (rfl) (fun t9 ht9 _ => ⟨0, rfl, by simp [b2i, fHasStep, c_1, c_9], ht9⟩) (fun q h => absurd h List.not_mem_nil) dX4_hasStep_26
    · skip
      refine lv_iload_n hx hb dX4_hasStep_12 rfl (lv_at hl 1 rfl) ?_
      refine lv_aload_n hx hb dX4_hasStep_13 rfl (lv_at hl 0 rfl) ?_
      refine va_get (D := E.1) (ci := 5) (v := .ref a1) (C := RX4) (T := TX4) (N := 5) hx hb hts hi_RX4 hown hE.1 hP 0 rfl rfl 0 (by decide) hf_9 (fun _ h9 => h9) rfl dX4_hasStep_14 ?_
      refine va_alen (v := nI n) hx hb hE.1 hP 1 0 rfl rfl rfl dX4_hasStep_17 ?_
      refine lv_icmp_ge (tgt := 25) hx hb dX4_hasStep_18 (by decide) (fun c_18 => ?_) (fun c_18 => ?_)
      · skip
        refine lv_iconst (v := 0) hx hb dX4_hasStep_25 (by decide) ?_
        exact W.zret (v := 0) hx hb hr (rfl) (fun t9 ht9 _ => ⟨0, rfl, by simp [b2i, fHasStep, c_1, c_9, c_18], ht9⟩) (fun q h => absurd h List.not_mem_nil) dX4_hasStep_26
      · skip
        refine lv_iconst (v := 1) hx hb dX4_hasStep_21 (by decide) ?_
        refine lv_goto (tgt := 26) hx hb dX4_hasStep_22 (by decide) ?_
        exact W.zret (v := 1) hx hb hr (rfl) (fun t9 ht9 _ => ⟨1, rfl, by simp [b2i, fHasStep, c_1, c_9, c_18], ht9⟩) (fun q h => absurd h List.not_mem_nil) dX4_hasStep_26
set_option maxHeartbeats 4000000 in
set_option maxRecDepth 100000 in
theorem cX4_numberOf_ct (l : Launch) (E : GE) (q a1 a2 a3 a4 n mm : Nat) (nu pl ce ch : Nat → Int32) (ct : Int32) (hn : n < 2 ^ 31) (k : Int32)  : rdI l yX4_numberOf wsX4_numberOf ({ frames := 1, cells := 0, slots := 0, locals := 21 }) E [.ref q, .int k] [(q, .inr (5, [.ref a1, .ref a2, .ref a3, .ref a4, .int ct])), (a1, .inl (E.2 0, n, .inl nu)), (a2, .inl (E.2 0, n, .inl pl)), (a3, .inl (E.2 0, n, .inl ce)), (a4, .inl (E.2 0, mm, .inl ch))] (fNumberOf ct n nu k) := by
  refine Met.ofW (cc := cX4_numberOf) (maxL := 2) (ret := (some .int)) (by decide) rfl ?_
  intro p e s m args below meth c s₁ B hml hv
  obtain ⟨rfl, hE, hP⟩ := hv
  have hx := B.exec
  have hb := B.bytes
  have hr := B.returns
  have hts := atoms_spec (ws := wsX4_numberOf) B.pre
  have hown : s.vm.findClass RX4 = some m.cls := findClass_of_methodNamed B.named
  have hlocks := B.notSynchronized
  have hP : va_P E.1 vwCl [(q, .inr (5, [.ref a1, .ref a2, .ref a3, .ref a4, .int ct])), (a1, .inl (E.2 0, n, .inl nu)), (a2, .inl (E.2 0, n, .inl pl)), (a3, .inl (E.2 0, n, .inl ce)), (a4, .inl (E.2 0, mm, .inl ch))] s.heap := hP
  have hl := lv_entry ([.ref q, .int k]) (n := 2) (Nat.le_of_ble_eq_true rfl)
  rw [lg_entry_eq]
  generalize (lg_sl ([.ref q, .int k]) ++ List.replicate (2 - (lg_sl ([.ref q, .int k])).length) Slot.unset).toArray = ls at hl ⊢
  have hl : lv_has ls 2 [(0, .ref q), (1, .int k)] := hl
  have hf_9 := hts (.fieldLink RX4 9 "LoopRegions$StepLog" "numbers" "[I") (by decide +kernel)
  have hi_RX4 : ∀ w ∈ wsX40, w ∈ wsX4_numberOf := by decide +kernel
  refine lv_aload_n hx hb dX4_numberOf_0 rfl (lv_at hl 0 rfl) ?_
  refine lv_iload_n hx hb dX4_numberOf_1 rfl (lv_at hl 1 rfl) ?_
  refine crVi (As := [.int k]) (rest := []) ⟨hx, hb, hml, hown, hts⟩ hE (cX4_hasStep_ct l E q a1 a2 a3 a4 n mm nu pl ce ch ct hn k) (cwV 1 hts gX4_numberOf_X4_hasStep rfl rfl rfl (by decide +kernel) ⟨Nat.le_of_ble_eq_true rfl, Nat.le_of_ble_eq_true rfl⟩) (hP.sub (ws' := [(q, .inr (5, [.ref a1, .ref a2, .ref a3, .ref a4, .int ct])), (a1, .inl (E.2 0, n, .inl nu)), (a2, .inl (E.2 0, n, .inl pl)), (a3, .inl (E.2 0, n, .inl ce)), (a4, .inl (E.2 0, mm, .inl ch))]) [0, 1, 2, 3, 4] rfl) (va_recv hE.1 hP (ci := 5) (q0 := 0) rfl rfl) rfl hl.1 rfl (Nat.le_of_ble_eq_true rfl) dX4_numberOf_2 ⟨Nat.zero_le _, Nat.zero_le _⟩ ?_
  refine lv_if_eq (tgt := 17) hx hb dX4_numberOf_5 (by decide) (fun c_5 => ?_) (fun c_5 => ?_)
  · skip
    refine lv_iconst (v := (-1)) hx hb dX4_numberOf_17 (by decide) ?_
    exact W.iret (v := (-1)) hx hb hr (fun t9 ht9 _ => ⟨(-1), rfl, by rw [b2i_eq0] at c_5; simp [fNumberOf, c_5], ht9⟩) (fun q h => absurd h List.not_mem_nil) dX4_numberOf_18
  · skip
    have hs : fHasStep ct n k = true := by rw [b2i_eq0] at c_5; simpa using c_5
    refine lv_aload_n hx hb dX4_numberOf_8 rfl (lv_at hl 0 rfl) ?_
    refine va_get (D := E.1) (ci := 5) (v := .ref a1) (C := RX4) (T := TX4) (N := 5) hx hb hts hi_RX4 hown hE.1 hP 0 rfl rfl 0 (by decide) hf_9 (fun _ h9 => h9) rfl dX4_numberOf_9 ?_
    refine lv_iload_n hx hb dX4_numberOf_12 rfl (lv_at hl 1 rfl) ?_
    refine va_iald hx hb hE.1 hP 1 0 rfl rfl (show vp_in (k) n from in_hasStep hn hs) dX4_numberOf_13 ?_
    refine lv_goto (tgt := 18) hx hb dX4_numberOf_14 (by decide) ?_
    exact W.iret (v := nu (k : Int32).toNatClampNeg) hx hb hr (fun t9 ht9 _ => ⟨nu (k : Int32).toNatClampNeg, rfl, by rw [b2i_eq0] at c_5; simp [fNumberOf, c_5], ht9⟩) (fun q h => absurd h List.not_mem_nil) dX4_numberOf_18
set_option maxHeartbeats 4000000 in
set_option maxRecDepth 100000 in
theorem cX4_placeOf_ct (l : Launch) (E : GE) (q a1 a2 a3 a4 n mm : Nat) (nu pl ce ch : Nat → Int32) (ct : Int32) (hn : n < 2 ^ 31) (k : Int32)  : rdI l yX4_placeOf wsX4_placeOf ({ frames := 1, cells := 0, slots := 0, locals := 21 }) E [.ref q, .int k] [(q, .inr (5, [.ref a1, .ref a2, .ref a3, .ref a4, .int ct])), (a1, .inl (E.2 0, n, .inl nu)), (a2, .inl (E.2 0, n, .inl pl)), (a3, .inl (E.2 0, n, .inl ce)), (a4, .inl (E.2 0, mm, .inl ch))] (fNumberOf ct n pl k) := by
  refine Met.ofW (cc := cX4_placeOf) (maxL := 2) (ret := (some .int)) (by decide) rfl ?_
  intro p e s m args below meth c s₁ B hml hv
  obtain ⟨rfl, hE, hP⟩ := hv
  have hx := B.exec
  have hb := B.bytes
  have hr := B.returns
  have hts := atoms_spec (ws := wsX4_placeOf) B.pre
  have hown : s.vm.findClass RX4 = some m.cls := findClass_of_methodNamed B.named
  have hlocks := B.notSynchronized
  have hP : va_P E.1 vwCl [(q, .inr (5, [.ref a1, .ref a2, .ref a3, .ref a4, .int ct])), (a1, .inl (E.2 0, n, .inl nu)), (a2, .inl (E.2 0, n, .inl pl)), (a3, .inl (E.2 0, n, .inl ce)), (a4, .inl (E.2 0, mm, .inl ch))] s.heap := hP
  have hl := lv_entry ([.ref q, .int k]) (n := 2) (Nat.le_of_ble_eq_true rfl)
  rw [lg_entry_eq]
  generalize (lg_sl ([.ref q, .int k]) ++ List.replicate (2 - (lg_sl ([.ref q, .int k])).length) Slot.unset).toArray = ls at hl ⊢
  have hl : lv_has ls 2 [(0, .ref q), (1, .int k)] := hl
  have hf_15 := hts (.fieldLink RX4 15 "LoopRegions$StepLog" "places" "[I") (by decide +kernel)
  have hi_RX4 : ∀ w ∈ wsX40, w ∈ wsX4_placeOf := by decide +kernel
  refine lv_aload_n hx hb dX4_placeOf_0 rfl (lv_at hl 0 rfl) ?_
  refine lv_iload_n hx hb dX4_placeOf_1 rfl (lv_at hl 1 rfl) ?_
  refine crVi (As := [.int k]) (rest := []) ⟨hx, hb, hml, hown, hts⟩ hE (cX4_hasStep_ct l E q a1 a2 a3 a4 n mm nu pl ce ch ct hn k) (cwV 1 hts gX4_placeOf_X4_hasStep rfl rfl rfl (by decide +kernel) ⟨Nat.le_of_ble_eq_true rfl, Nat.le_of_ble_eq_true rfl⟩) (hP.sub (ws' := [(q, .inr (5, [.ref a1, .ref a2, .ref a3, .ref a4, .int ct])), (a1, .inl (E.2 0, n, .inl nu)), (a2, .inl (E.2 0, n, .inl pl)), (a3, .inl (E.2 0, n, .inl ce)), (a4, .inl (E.2 0, mm, .inl ch))]) [0, 1, 2, 3, 4] rfl) (va_recv hE.1 hP (ci := 5) (q0 := 0) rfl rfl) rfl hl.1 rfl (Nat.le_of_ble_eq_true rfl) dX4_placeOf_2 ⟨Nat.zero_le _, Nat.zero_le _⟩ ?_
  refine lv_if_eq (tgt := 17) hx hb dX4_placeOf_5 (by decide) (fun c_5 => ?_) (fun c_5 => ?_)
  · skip
    refine lv_iconst (v := (-1)) hx hb dX4_placeOf_17 (by decide) ?_
    exact W.iret (v := (-1)) hx hb hr (fun t9 ht9 _ => ⟨(-1), rfl, by rw [b2i_eq0] at c_5; simp [fNumberOf, c_5], ht9⟩) (fun q h => absurd h List.not_mem_nil) dX4_placeOf_18
  · skip
    have hs : fHasStep ct n k = true := by rw [b2i_eq0] at c_5; simpa using c_5
    refine lv_aload_n hx hb dX4_placeOf_8 rfl (lv_at hl 0 rfl) ?_
    refine va_get (D := E.1) (ci := 5) (v := .ref a2) (C := RX4) (T := TX4) (N := 5) hx hb hts hi_RX4 hown hE.1 hP 0 rfl rfl 1 (by decide) hf_15 (fun _ h9 => h9) rfl dX4_placeOf_9 ?_
    refine lv_iload_n hx hb dX4_placeOf_12 rfl (lv_at hl 1 rfl) ?_
    refine va_iald hx hb hE.1 hP 2 0 rfl rfl (show vp_in (k) n from in_hasStep hn hs) dX4_placeOf_13 ?_
    refine lv_goto (tgt := 18) hx hb dX4_placeOf_14 (by decide) ?_
    exact W.iret (v := pl (k : Int32).toNatClampNeg) hx hb hr (fun t9 ht9 _ => ⟨pl (k : Int32).toNatClampNeg, rfl, by rw [b2i_eq0] at c_5; simp [fNumberOf, c_5], ht9⟩) (fun q h => absurd h List.not_mem_nil) dX4_placeOf_18
set_option maxHeartbeats 4000000 in
set_option maxRecDepth 100000 in
theorem cX4_changeStart_ct (l : Launch) (E : GE) (q a1 a2 a3 a4 n mm : Nat) (nu pl ce ch : Nat → Int32) (ct : Int32) (hn : n < 2 ^ 31) (k : Int32)  : rdI l yX4_changeStart wsX4_changeStart ({ frames := 0, cells := 0, slots := 0, locals := 0 }) E [.ref q, .int k] [(q, .inr (5, [.ref a1, .ref a2, .ref a3, .ref a4, .int ct])), (a1, .inl (E.2 0, n, .inl nu)), (a2, .inl (E.2 0, n, .inl pl)), (a3, .inl (E.2 0, n, .inl ce)), (a4, .inl (E.2 0, mm, .inl ch))] (fStart n ce k) := by
  refine Met.ofW (cc := cX4_changeStart) (maxL := 2) (ret := (some .int)) (by decide) rfl ?_
  intro p e s m args below meth c s₁ B hml hv
  obtain ⟨rfl, hE, hP⟩ := hv
  have hx := B.exec
  have hb := B.bytes
  have hr := B.returns
  have hts := atoms_spec (ws := wsX4_changeStart) B.pre
  have hown : s.vm.findClass RX4 = some m.cls := findClass_of_methodNamed B.named
  have hlocks := B.notSynchronized
  have hP : va_P E.1 vwCl [(q, .inr (5, [.ref a1, .ref a2, .ref a3, .ref a4, .int ct])), (a1, .inl (E.2 0, n, .inl nu)), (a2, .inl (E.2 0, n, .inl pl)), (a3, .inl (E.2 0, n, .inl ce)), (a4, .inl (E.2 0, mm, .inl ch))] s.heap := hP
  have hl := lv_entry ([.ref q, .int k]) (n := 2) (Nat.le_of_ble_eq_true rfl)
  rw [lg_entry_eq]
  generalize (lg_sl ([.ref q, .int k]) ++ List.replicate (2 - (lg_sl ([.ref q, .int k])).length) Slot.unset).toArray = ls at hl ⊢
  have hl : lv_has ls 2 [(0, .ref q), (1, .int k)] := hl
  have hf_18 := hts (.fieldLink RX4 18 "LoopRegions$StepLog" "changeEnds" "[I") (by decide +kernel)
  have hi_RX4 : ∀ w ∈ wsX40, w ∈ wsX4_changeStart := by decide +kernel
  refine lv_iload_n hx hb dX4_changeStart_0 rfl (lv_at hl 1 rfl) ?_
  refine lv_if_le (tgt := 24) hx hb dX4_changeStart_1 (by decide) (fun c_1 => ?_) (fun c_1 => ?_)
  · skip
    refine lv_iconst (v := 0) hx hb dX4_changeStart_24 (by decide) ?_
    exact W.iret (v := 0) hx hb hr (fun t9 ht9 _ => ⟨0, rfl, by simp [fStart, c_1], ht9⟩) (fun q h => absurd h List.not_mem_nil) dX4_changeStart_25
  · skip
    refine lv_iload_n hx hb dX4_changeStart_4 rfl (lv_at hl 1 rfl) ?_
    refine lv_aload_n hx hb dX4_changeStart_5 rfl (lv_at hl 0 rfl) ?_
    refine va_get (D := E.1) (ci := 5) (v := .ref a3) (C := RX4) (T := TX4) (N := 5) hx hb hts hi_RX4 hown hE.1 hP 0 rfl rfl 2 (by decide) hf_18 (fun _ h9 => h9) rfl dX4_changeStart_6 ?_
    refine va_alen (v := nI n) hx hb hE.1 hP 3 0 rfl rfl rfl dX4_changeStart_9 ?_
    refine lv_icmp_gt (tgt := 24) hx hb dX4_changeStart_10 (by decide) (fun c_10 => ?_) (fun c_10 => ?_)
    · skip
      refine lv_iconst (v := 0) hx hb dX4_changeStart_24 (by decide) ?_
      exact W.iret (v := 0) hx hb hr (fun t9 ht9 _ => ⟨0, rfl, by simp [fStart, c_1, c_10], ht9⟩) (fun q h => absurd h List.not_mem_nil) dX4_changeStart_25
    · skip
      refine lv_aload_n hx hb dX4_changeStart_13 rfl (lv_at hl 0 rfl) ?_
      refine va_get (D := E.1) (ci := 5) (v := .ref a3) (C := RX4) (T := TX4) (N := 5) hx hb hts hi_RX4 hown hE.1 hP 0 rfl rfl 2 (by decide) hf_18 (fun _ h9 => h9) rfl dX4_changeStart_14 ?_
      refine lv_iload_n hx hb dX4_changeStart_17 rfl (lv_at hl 1 rfl) ?_
      refine lv_iconst (v := 1) hx hb dX4_changeStart_18 (by decide) ?_
      refine lv_isub hx hb dX4_changeStart_19 ?_
      refine va_iald hx hb hE.1 hP 3 0 rfl rfl (show vp_in (k - 1) n from in_start hn c_1 c_10) dX4_changeStart_20 ?_
      refine lv_goto (tgt := 25) hx hb dX4_changeStart_21 (by decide) ?_
      exact W.iret (v := ce (k - 1 : Int32).toNatClampNeg) hx hb hr (fun t9 ht9 _ => ⟨ce (k - 1 : Int32).toNatClampNeg, rfl, by simp [fStart, c_1, c_10], ht9⟩) (fun q h => absurd h List.not_mem_nil) dX4_changeStart_25
set_option maxHeartbeats 4000000 in
set_option maxRecDepth 100000 in
theorem cX4_changesOf_ct (l : Launch) (E : GE) (q a1 a2 a3 a4 n mm : Nat) (nu pl ce ch : Nat → Int32) (ct : Int32) (hn : n < 2 ^ 31) (k : Int32)  : rdI l yX4_changesOf wsX4_changesOf ({ frames := 1, cells := 0, slots := 0, locals := 21 }) E [.ref q, .int k] [(q, .inr (5, [.ref a1, .ref a2, .ref a3, .ref a4, .int ct])), (a1, .inl (E.2 0, n, .inl nu)), (a2, .inl (E.2 0, n, .inl pl)), (a3, .inl (E.2 0, n, .inl ce)), (a4, .inl (E.2 0, mm, .inl ch))] (fChanges ct n ce k) := by
  refine Met.ofW (cc := cX4_changesOf) (maxL := 2) (ret := (some .int)) (by decide) rfl ?_
  intro p e s m args below meth c s₁ B hml hv
  obtain ⟨rfl, hE, hP⟩ := hv
  have hx := B.exec
  have hb := B.bytes
  have hr := B.returns
  have hts := atoms_spec (ws := wsX4_changesOf) B.pre
  have hown : s.vm.findClass RX4 = some m.cls := findClass_of_methodNamed B.named
  have hlocks := B.notSynchronized
  have hP : va_P E.1 vwCl [(q, .inr (5, [.ref a1, .ref a2, .ref a3, .ref a4, .int ct])), (a1, .inl (E.2 0, n, .inl nu)), (a2, .inl (E.2 0, n, .inl pl)), (a3, .inl (E.2 0, n, .inl ce)), (a4, .inl (E.2 0, mm, .inl ch))] s.heap := hP
  have hl := lv_entry ([.ref q, .int k]) (n := 2) (Nat.le_of_ble_eq_true rfl)
  rw [lg_entry_eq]
  generalize (lg_sl ([.ref q, .int k]) ++ List.replicate (2 - (lg_sl ([.ref q, .int k])).length) Slot.unset).toArray = ls at hl ⊢
  have hl : lv_has ls 2 [(0, .ref q), (1, .int k)] := hl
  have hf_18 := hts (.fieldLink RX4 18 "LoopRegions$StepLog" "changeEnds" "[I") (by decide +kernel)
  have hi_RX4 : ∀ w ∈ wsX40, w ∈ wsX4_changesOf := by decide +kernel
  refine lv_aload_n hx hb dX4_changesOf_0 rfl (lv_at hl 0 rfl) ?_
  refine lv_iload_n hx hb dX4_changesOf_1 rfl (lv_at hl 1 rfl) ?_
  refine crVi (As := [.int k]) (rest := []) ⟨hx, hb, hml, hown, hts⟩ hE (cX4_hasStep_ct l E q a1 a2 a3 a4 n mm nu pl ce ch ct hn k) (cwV 1 hts gX4_changesOf_X4_hasStep rfl rfl rfl (by decide +kernel) ⟨Nat.le_of_ble_eq_true rfl, Nat.le_of_ble_eq_true rfl⟩) (hP.sub (ws' := [(q, .inr (5, [.ref a1, .ref a2, .ref a3, .ref a4, .int ct])), (a1, .inl (E.2 0, n, .inl nu)), (a2, .inl (E.2 0, n, .inl pl)), (a3, .inl (E.2 0, n, .inl ce)), (a4, .inl (E.2 0, mm, .inl ch))]) [0, 1, 2, 3, 4] rfl) (va_recv hE.1 hP (ci := 5) (q0 := 0) rfl rfl) rfl hl.1 rfl (Nat.le_of_ble_eq_true rfl) dX4_changesOf_2 ⟨Nat.zero_le _, Nat.zero_le _⟩ ?_
  refine lv_if_eq (tgt := 23) hx hb dX4_changesOf_5 (by decide) (fun c_5 => ?_) (fun c_5 => ?_)
  · skip
    refine lv_iconst (v := 0) hx hb dX4_changesOf_23 (by decide) ?_
    exact W.iret (v := 0) hx hb hr (fun t9 ht9 _ => ⟨0, rfl, by rw [b2i_eq0] at c_5; simp [fChanges, c_5], ht9⟩) (fun q h => absurd h List.not_mem_nil) dX4_changesOf_24
  · skip
    have hs : fHasStep ct n k = true := by rw [b2i_eq0] at c_5; simpa using c_5
    refine lv_aload_n hx hb dX4_changesOf_8 rfl (lv_at hl 0 rfl) ?_
    refine va_get (D := E.1) (ci := 5) (v := .ref a3) (C := RX4) (T := TX4) (N := 5) hx hb hts hi_RX4 hown hE.1 hP 0 rfl rfl 2 (by decide) hf_18 (fun _ h9 => h9) rfl dX4_changesOf_9 ?_
    refine lv_iload_n hx hb dX4_changesOf_12 rfl (lv_at hl 1 rfl) ?_
    refine va_iald hx hb hE.1 hP 3 0 rfl rfl (show vp_in (k) n from in_hasStep hn hs) dX4_changesOf_13 ?_
    refine lv_aload_n hx hb dX4_changesOf_14 rfl (lv_at hl 0 rfl) ?_
    refine lv_iload_n hx hb dX4_changesOf_15 rfl (lv_at hl 1 rfl) ?_
    refine crVi (As := [.int k]) (rest := [.int (ce (k : Int32).toNatClampNeg)]) ⟨hx, hb, hml, hown, hts⟩ hE (cX4_changeStart_ct l E q a1 a2 a3 a4 n mm nu pl ce ch ct hn k) (cwV 1 hts gX4_changesOf_X4_changeStart rfl rfl rfl (by decide +kernel) ⟨Nat.le_of_ble_eq_true rfl, Nat.le_of_ble_eq_true rfl⟩) (hP.sub (ws' := [(q, .inr (5, [.ref a1, .ref a2, .ref a3, .ref a4, .int ct])), (a1, .inl (E.2 0, n, .inl nu)), (a2, .inl (E.2 0, n, .inl pl)), (a3, .inl (E.2 0, n, .inl ce)), (a4, .inl (E.2 0, mm, .inl ch))]) [0, 1, 2, 3, 4] rfl) (va_recv hE.1 hP (ci := 5) (q0 := 0) rfl rfl) rfl hl.1 rfl (Nat.le_of_ble_eq_true rfl) dX4_changesOf_16 ⟨Nat.zero_le _, Nat.zero_le _⟩ ?_
    refine lv_isub hx hb dX4_changesOf_19 ?_
    refine lv_goto (tgt := 24) hx hb dX4_changesOf_20 (by decide) ?_
    exact W.iret (v := (ce (k : Int32).toNatClampNeg) - (fStart n ce k)) hx hb hr (fun t9 ht9 _ => ⟨(ce (k : Int32).toNatClampNeg) - (fStart n ce k), rfl, by rw [b2i_eq0] at c_5; simp [fChanges, c_5], ht9⟩) (fun q h => absurd h List.not_mem_nil) dX4_changesOf_24
set_option maxHeartbeats 4000000 in
set_option maxRecDepth 100000 in
theorem cX4_changeOf_ct (l : Launch) (E : GE) (q a1 a2 a3 a4 n mm : Nat) (nu pl ce ch : Nat → Int32) (ct : Int32) (hn : n < 2 ^ 31) (hm : mm < 2 ^ 31) (k j : Int32)  : rdI l yX4_changeOf wsX4_changeOf ({ frames := 2, cells := 0, slots := 0, locals := 42 }) E [.ref q, .int k, .int j] [(q, .inr (5, [.ref a1, .ref a2, .ref a3, .ref a4, .int ct])), (a1, .inl (E.2 0, n, .inl nu)), (a2, .inl (E.2 0, n, .inl pl)), (a3, .inl (E.2 0, n, .inl ce)), (a4, .inl (E.2 0, mm, .inl ch))] (fChange ct n mm ce ch k j) := by
  refine Met.ofW (cc := cX4_changeOf) (maxL := 4) (ret := (some .int)) (by decide) rfl ?_
  intro p e s m args below meth c s₁ B hml hv
  obtain ⟨rfl, hE, hP⟩ := hv
  have hx := B.exec
  have hb := B.bytes
  have hr := B.returns
  have hts := atoms_spec (ws := wsX4_changeOf) B.pre
  have hown : s.vm.findClass RX4 = some m.cls := findClass_of_methodNamed B.named
  have hlocks := B.notSynchronized
  have hP : va_P E.1 vwCl [(q, .inr (5, [.ref a1, .ref a2, .ref a3, .ref a4, .int ct])), (a1, .inl (E.2 0, n, .inl nu)), (a2, .inl (E.2 0, n, .inl pl)), (a3, .inl (E.2 0, n, .inl ce)), (a4, .inl (E.2 0, mm, .inl ch))] s.heap := hP
  have hl := lv_entry ([.ref q, .int k, .int j]) (n := 4) (Nat.le_of_ble_eq_true rfl)
  rw [lg_entry_eq]
  generalize (lg_sl ([.ref q, .int k, .int j]) ++ List.replicate (4 - (lg_sl ([.ref q, .int k, .int j])).length) Slot.unset).toArray = ls at hl ⊢
  have hl : lv_has ls 4 [(0, .ref q), (1, .int k), (2, .int j)] := hl
  have hf_21 := hts (.fieldLink RX4 21 "LoopRegions$StepLog" "changes" "[I") (by decide +kernel)
  have hi_RX4 : ∀ w ∈ wsX40, w ∈ wsX4_changeOf := by decide +kernel
  refine lv_iload_n hx hb dX4_changeOf_0 rfl (lv_at hl 2 rfl) ?_
  refine lv_if_lt (tgt := 13) hx hb dX4_changeOf_1 (by decide) (fun c_1 => ?_) (fun c_1 => ?_)
  · skip
    refine lv_iconst (v := (-1)) hx hb dX4_changeOf_13 (by decide) ?_
    exact W.iret (v := (-1)) hx hb hr (fun t9 ht9 _ => ⟨(-1), rfl, by rw [fChange]; simp only [c_1, if_true, if_false], ht9⟩) (fun q h => absurd h List.not_mem_nil) dX4_changeOf_14
  · skip
    refine lv_iload_n hx hb dX4_changeOf_4 rfl (lv_at hl 2 rfl) ?_
    refine lv_aload_n hx hb dX4_changeOf_5 rfl (lv_at hl 0 rfl) ?_
    refine lv_iload_n hx hb dX4_changeOf_6 rfl (lv_at hl 1 rfl) ?_
    refine crVi (As := [.int k]) (rest := [.int j]) ⟨hx, hb, hml, hown, hts⟩ hE (cX4_changesOf_ct l E q a1 a2 a3 a4 n mm nu pl ce ch ct hn k) (cwV 1 hts gX4_changeOf_X4_changesOf rfl rfl rfl (by decide +kernel) ⟨Nat.le_of_ble_eq_true rfl, Nat.le_of_ble_eq_true rfl⟩) (hP.sub (ws' := [(q, .inr (5, [.ref a1, .ref a2, .ref a3, .ref a4, .int ct])), (a1, .inl (E.2 0, n, .inl nu)), (a2, .inl (E.2 0, n, .inl pl)), (a3, .inl (E.2 0, n, .inl ce)), (a4, .inl (E.2 0, mm, .inl ch))]) [0, 1, 2, 3, 4] rfl) (va_recv hE.1 hP (ci := 5) (q0 := 0) rfl rfl) rfl hl.1 rfl (Nat.le_of_ble_eq_true rfl) dX4_changeOf_7 ⟨Nat.zero_le _, Nat.zero_le _⟩ ?_
    refine lv_icmp_lt (tgt := 15) hx hb dX4_changeOf_10 (by decide) (fun c_10 => ?_) (fun c_10 => ?_)
    · skip
      refine lv_aload_n hx hb dX4_changeOf_15 rfl (lv_at hl 0 rfl) ?_
      refine lv_iload_n hx hb dX4_changeOf_16 rfl (lv_at hl 1 rfl) ?_
      refine crVi (As := [.int k]) (rest := []) ⟨hx, hb, hml, hown, hts⟩ hE (cX4_changeStart_ct l E q a1 a2 a3 a4 n mm nu pl ce ch ct hn k) (cwV 1 hts gX4_changeOf_X4_changeStart rfl rfl rfl (by decide +kernel) ⟨Nat.le_of_ble_eq_true rfl, Nat.le_of_ble_eq_true rfl⟩) (hP.sub (ws' := [(q, .inr (5, [.ref a1, .ref a2, .ref a3, .ref a4, .int ct])), (a1, .inl (E.2 0, n, .inl nu)), (a2, .inl (E.2 0, n, .inl pl)), (a3, .inl (E.2 0, n, .inl ce)), (a4, .inl (E.2 0, mm, .inl ch))]) [0, 1, 2, 3, 4] rfl) (va_recv hE.1 hP (ci := 5) (q0 := 0) rfl rfl) rfl hl.1 rfl (Nat.le_of_ble_eq_true rfl) dX4_changeOf_17 ⟨Nat.zero_le _, Nat.zero_le _⟩ ?_
      refine lv_iload_n hx hb dX4_changeOf_20 rfl (lv_at hl 2 rfl) ?_
      refine lv_iadd hx hb dX4_changeOf_21 ?_
      refine lv_topi (fun x_1 ex_1 => ?_)
      refine lv_istore_n (lv' := [(3, .int x_1), (0, .ref q), (1, .int k), (2, .int j)]) hx hb dX4_changeOf_22 rfl hl (by decide) rfl (fun ls hl => ?_)
      refine lv_iload_n hx hb dX4_changeOf_23 rfl (lv_at hl 0 rfl) ?_
      refine lv_if_lt (tgt := 45) hx hb dX4_changeOf_24 (by decide) (fun c_24 => ?_) (fun c_24 => ?_)
      · skip
        refine lv_iconst (v := (-1)) hx hb dX4_changeOf_45 (by decide) ?_
        exact W.iret (v := (-1)) hx hb hr (fun t9 ht9 _ => ⟨(-1), rfl, by subst ex_1; rw [fChange]; simp only [c_1, c_10, c_24, if_true, if_false], ht9⟩) (fun q h => absurd h List.not_mem_nil) dX4_changeOf_46
      · skip
        refine lv_iload_n hx hb dX4_changeOf_27 rfl (lv_at hl 0 rfl) ?_
        refine lv_aload_n hx hb dX4_changeOf_28 rfl (lv_at hl 1 rfl) ?_
        refine va_get (D := E.1) (ci := 5) (v := .ref a4) (C := RX4) (T := TX4) (N := 5) hx hb hts hi_RX4 hown hE.1 hP 0 rfl rfl 3 (by decide) hf_21 (fun _ h9 => h9) rfl dX4_changeOf_29 ?_
        refine va_alen (v := nI mm) hx hb hE.1 hP 4 0 rfl rfl rfl dX4_changeOf_32 ?_
        refine lv_icmp_ge (tgt := 45) hx hb dX4_changeOf_33 (by decide) (fun c_33 => ?_) (fun c_33 => ?_)
        · skip
          refine lv_iconst (v := (-1)) hx hb dX4_changeOf_45 (by decide) ?_
          exact W.iret (v := (-1)) hx hb hr (fun t9 ht9 _ => ⟨(-1), rfl, by subst ex_1; rw [fChange]; simp only [c_1, c_10, c_24, c_33, if_true, if_false], ht9⟩) (fun q h => absurd h List.not_mem_nil) dX4_changeOf_46
        · skip
          refine lv_aload_n hx hb dX4_changeOf_36 rfl (lv_at hl 1 rfl) ?_
          refine va_get (D := E.1) (ci := 5) (v := .ref a4) (C := RX4) (T := TX4) (N := 5) hx hb hts hi_RX4 hown hE.1 hP 0 rfl rfl 3 (by decide) hf_21 (fun _ h9 => h9) rfl dX4_changeOf_37 ?_
          refine lv_iload_n hx hb dX4_changeOf_40 rfl (lv_at hl 0 rfl) ?_
          refine va_iald hx hb hE.1 hP 4 0 rfl rfl (show vp_in (x_1) mm from in_of hm c_24 c_33) dX4_changeOf_41 ?_
          refine lv_goto (tgt := 46) hx hb dX4_changeOf_42 (by decide) ?_
          exact W.iret (v := ch (x_1 : Int32).toNatClampNeg) hx hb hr (fun t9 ht9 _ => ⟨ch (x_1 : Int32).toNatClampNeg, rfl, by subst ex_1; rw [fChange]; simp only [c_1, c_10, c_24, c_33, if_true, if_false], ht9⟩) (fun q h => absurd h List.not_mem_nil) dX4_changeOf_46
    · skip
      refine lv_iconst (v := (-1)) hx hb dX4_changeOf_13 (by decide) ?_
      exact W.iret (v := (-1)) hx hb hr (fun t9 ht9 _ => ⟨(-1), rfl, by rw [fChange]; simp only [c_1, c_10, if_true, if_false], ht9⟩) (fun q h => absurd h List.not_mem_nil) dX4_changeOf_14
set_option maxHeartbeats 4000000 in
set_option maxRecDepth 100000 in
theorem cX4_hasChanged_ct (l : Launch) (E : GE) (q a1 a2 a3 a4 n mm : Nat) (nu pl ce ch : Nat → Int32) (ct : Int32) (hn : n < 2 ^ 31) (hm : mm < 2 ^ 31) (kk th : Int32)  : rdI l yX4_hasChanged wsX4_hasChanged ({ frames := 3, cells := 0, slots := 0, locals := 65 }) E [.ref q, .int kk, .int th] [(q, .inr (5, [.ref a1, .ref a2, .ref a3, .ref a4, .int ct])), (a1, .inl (E.2 0, n, .inl nu)), (a2, .inl (E.2 0, n, .inl pl)), (a3, .inl (E.2 0, n, .inl ce)), (a4, .inl (E.2 0, mm, .inl ch))] (b2i (fHasChanged ct n mm ce ch kk th)) := by
  refine Met.ofW (cc := cX4_hasChanged) (maxL := 5) (ret := (some .boolean)) (by decide) rfl ?_
  intro p e s m args below meth c s₁ B hml hv
  obtain ⟨rfl, hE, hP⟩ := hv
  have hx := B.exec
  have hb := B.bytes
  have hr := B.returns
  have hts := atoms_spec (ws := wsX4_hasChanged) B.pre
  have hown : s.vm.findClass RX4 = some m.cls := findClass_of_methodNamed B.named
  have hlocks := B.notSynchronized
  have hP : va_P E.1 vwCl [(q, .inr (5, [.ref a1, .ref a2, .ref a3, .ref a4, .int ct])), (a1, .inl (E.2 0, n, .inl nu)), (a2, .inl (E.2 0, n, .inl pl)), (a3, .inl (E.2 0, n, .inl ce)), (a4, .inl (E.2 0, mm, .inl ch))] s.heap := hP
  have hl := lv_entry ([.ref q, .int kk, .int th]) (n := 5) (Nat.le_of_ble_eq_true rfl)
  rw [lg_entry_eq]
  generalize (lg_sl ([.ref q, .int kk, .int th]) ++ List.replicate (5 - (lg_sl ([.ref q, .int kk, .int th])).length) Slot.unset).toArray = ls at hl ⊢
  have hl : lv_has ls 5 [(0, .ref q), (1, .int kk), (2, .int th)] := hl
  refine lv_aload_n hx hb dX4_hasChanged_0 rfl (lv_at hl 0 rfl) ?_
  refine lv_iload_n hx hb dX4_hasChanged_1 rfl (lv_at hl 1 rfl) ?_
  refine crVi (As := [.int kk]) (rest := []) ⟨hx, hb, hml, hown, hts⟩ hE (cX4_changesOf_ct l E q a1 a2 a3 a4 n mm nu pl ce ch ct hn kk) (cwV 1 hts gX4_hasChanged_X4_changesOf rfl rfl rfl (by decide +kernel) ⟨Nat.le_of_ble_eq_true rfl, Nat.le_of_ble_eq_true rfl⟩) (hP.sub (ws' := [(q, .inr (5, [.ref a1, .ref a2, .ref a3, .ref a4, .int ct])), (a1, .inl (E.2 0, n, .inl nu)), (a2, .inl (E.2 0, n, .inl pl)), (a3, .inl (E.2 0, n, .inl ce)), (a4, .inl (E.2 0, mm, .inl ch))]) [0, 1, 2, 3, 4] rfl) (va_recv hE.1 hP (ci := 5) (q0 := 0) rfl rfl) rfl hl.1 rfl (Nat.le_of_ble_eq_true rfl) dX4_hasChanged_2 ⟨Nat.zero_le _, Nat.zero_le _⟩ ?_
  refine lv_topi (fun x_1 ex_1 => ?_)
  refine lv_istore_n (lv' := [(3, .int x_1), (0, .ref q), (1, .int kk), (2, .int th)]) hx hb dX4_hasChanged_5 rfl hl (by decide) rfl (fun ls hl => ?_)
  refine lv_iconst (v := 0) hx hb dX4_hasChanged_6 (by decide) ?_
  refine lv_istore (lv' := [(4, .int 0), (3, .int x_1), (0, .ref q), (1, .int kk), (2, .int th)]) hx hb dX4_hasChanged_7 hl (by decide) rfl (fun ls hl => ?_)
  refine W_loopR (σ := Int32) (J := 9) (nL := 5) (fun n9 x => ∃ k9 j9, n9 = k9 + 1 ∧ j9 + k9 = (fChanges ct n ce kk).toNatClampNeg ∧ x = nI j9 ∧ fHasCh ct n mm ce ch kk th k9 j9 = fHasChanged ct n mm ce ch kk th) (fun x => [(4, .int x), (3, .int x_1), (0, .ref q), (1, .int kk), (2, .int th)]) (fun x h => by obtain ⟨k, j, h, _⟩ := h; exact absurd h (by omega)) (fun n_9 ih_9 x ls hI_9 hl => ?_) ((fChanges ct n ce kk).toNatClampNeg + 1) 0 (⟨_, 0, rfl, Nat.zero_add _, rfl, by rfl⟩) (lv_sub hl [0, 1, 2, 3, 4] rfl)
  obtain ⟨z_9, rfl⟩ : ∃ z, z = x := ⟨_, rfl⟩
  try dsimp only at hI_9
  have hl : lv_has ls 5 [(4, .int z_9), (3, .int x_1), (0, .ref q), (1, .int kk), (2, .int th)] := hl
  obtain ⟨k_9, j_9, hk_9, hj_9, rfl, hv_9⟩ := hI_9
  obtain rfl : n_9 = k_9 := Nat.succ.inj hk_9
  have hb_9 : j_9 < 2 ^ 31 := Nat.lt_of_le_of_lt (by omega) (clamp_lt (fChanges ct n ce kk))
  have hl : lv_has ls 5 [(4, .int (nI j_9)), (3, .int x_1), (0, .ref q), (1, .int kk), (2, .int th)] := hl
  refine lv_iload hx hb dX4_hasChanged_9 (lv_at hl 0 rfl) ?_
  refine lv_iload_n hx hb dX4_hasChanged_11 rfl (lv_at hl 1 rfl) ?_
  refine lv_icmp_ge (tgt := 36) hx hb dX4_hasChanged_12 (by decide) (fun c_12 => ?_) (fun c_12 => ?_)
  · skip
    refine lv_iconst (v := 0) hx hb dX4_hasChanged_36 (by decide) ?_
    exact W.zret (v := 0) hx hb hr (rfl) (fun t9 ht9 _ => ⟨0, rfl, by have h1 : ¬ j_9 < (fChanges ct n ce kk).toNatClampNeg := fun q => absurd (nI_clamp_lt hb_9 q) (by rw [← ex_1]; exact fun z => z c_12); have h2 : n_9 = 0 := (by omega); subst h2; rw [← hv_9]; rfl, ht9⟩) (fun q h => absurd h List.not_mem_nil) dX4_hasChanged_37
  · skip
    rw [ex_1] at c_12
    obtain ⟨f, rfl⟩ : ∃ f, n_9 = f + 1 := ⟨n_9 - 1, by have := clamp_gt hb_9 c_12; omega⟩
    refine lv_aload_n hx hb dX4_hasChanged_15 rfl (lv_at hl 2 rfl) ?_
    refine lv_iload_n hx hb dX4_hasChanged_16 rfl (lv_at hl 3 rfl) ?_
    refine lv_iload hx hb dX4_hasChanged_17 (lv_at hl 0 rfl) ?_
    refine crVi (As := [.int kk, .int (nI j_9)]) (rest := []) ⟨hx, hb, hml, hown, hts⟩ hE (cX4_changeOf_ct l E q a1 a2 a3 a4 n mm nu pl ce ch ct hn hm kk (nI j_9)) (cwV 2 hts gX4_hasChanged_X4_changeOf rfl rfl rfl (by decide +kernel) ⟨Nat.le_of_ble_eq_true rfl, Nat.le_of_ble_eq_true rfl⟩) (hP.sub (ws' := [(q, .inr (5, [.ref a1, .ref a2, .ref a3, .ref a4, .int ct])), (a1, .inl (E.2 0, n, .inl nu)), (a2, .inl (E.2 0, n, .inl pl)), (a3, .inl (E.2 0, n, .inl ce)), (a4, .inl (E.2 0, mm, .inl ch))]) [0, 1, 2, 3, 4] rfl) (va_recv hE.1 hP (ci := 5) (q0 := 0) rfl rfl) rfl hl.1 rfl (Nat.le_of_ble_eq_true rfl) dX4_hasChanged_19 ⟨Nat.zero_le _, Nat.zero_le _⟩ ?_
    refine lv_iconst (v := 1) hx hb dX4_hasChanged_22 (by decide) ?_
    refine lv_ishr hx hb dX4_hasChanged_23 ?_
    refine lv_iload_n hx hb dX4_hasChanged_24 rfl (lv_at hl 4 rfl) ?_
    refine lv_icmp_ne (tgt := 30) hx hb dX4_hasChanged_25 (by decide) (fun c_25 => ?_) (fun c_25 => ?_)
    · skip
      rw [fHasCh, if_neg c_25] at hv_9
      obtain ⟨x_2, ex_2⟩ : ∃ y : Int32, y = (nI j_9) + (1) := ⟨_, rfl⟩
      refine lv_iinc (v := x_2) (lv' := [(4, .int x_2), (3, .int x_1), (0, .ref q), (1, .int kk), (2, .int th)]) hx hb dX4_hasChanged_30 hl (k := 0) rfl (by rw [ex_2]; rfl) (by decide) rfl (fun ls hl => ?_)
      refine lv_goto (tgt := 9) hx hb dX4_hasChanged_33 (by decide) ?_
      exact ih_9 x_2 ls (⟨f, j_9 + 1, rfl, by omega, by rw [ex_2]; exact nI_1 _, hv_9⟩) (lv_sub hl [0, 1, 2, 3, 4] rfl)
    · skip
      refine lv_iconst (v := 1) hx hb dX4_hasChanged_28 (by decide) ?_
      exact W.zret (v := 1) hx hb hr (rfl) (fun t9 ht9 _ => ⟨1, rfl, by rw [← hv_9, fHasCh, if_pos (c_25)]; rfl, ht9⟩) (fun q h => absurd h List.not_mem_nil) dX4_hasChanged_29
set_option maxHeartbeats 4000000 in
set_option maxRecDepth 100000 in
theorem cX4_stepThatChanged_ct (l : Launch) (E : GE) (q a1 a2 a3 a4 n mm : Nat) (nu pl ce ch : Nat → Int32) (ct : Int32) (hn : n < 2 ^ 31) (hm : mm < 2 ^ 31) (th : Int32) (sh : Bool)  : rdI l yX4_stepThatChanged wsX4_stepThatChanged ({ frames := 4, cells := 0, slots := 0, locals := 89 }) E [.ref q, .int th, .int (b2i sh)] [(q, .inr (5, [.ref a1, .ref a2, .ref a3, .ref a4, .int ct])), (a1, .inl (E.2 0, n, .inl nu)), (a2, .inl (E.2 0, n, .inl pl)), (a3, .inl (E.2 0, n, .inl ce)), (a4, .inl (E.2 0, mm, .inl ch))] (fStepTh ct n mm nu ce ch th sh ct.toNatClampNeg 0) := by
  refine Met.ofW (cc := cX4_stepThatChanged) (maxL := 5) (ret := (some .int)) (by decide) rfl ?_
  intro p e s m args below meth c s₁ B hml hv
  obtain ⟨rfl, hE, hP⟩ := hv
  have hx := B.exec
  have hb := B.bytes
  have hr := B.returns
  have hts := atoms_spec (ws := wsX4_stepThatChanged) B.pre
  have hown : s.vm.findClass RX4 = some m.cls := findClass_of_methodNamed B.named
  have hlocks := B.notSynchronized
  have hP : va_P E.1 vwCl [(q, .inr (5, [.ref a1, .ref a2, .ref a3, .ref a4, .int ct])), (a1, .inl (E.2 0, n, .inl nu)), (a2, .inl (E.2 0, n, .inl pl)), (a3, .inl (E.2 0, n, .inl ce)), (a4, .inl (E.2 0, mm, .inl ch))] s.heap := hP
  have hl := lv_entry ([.ref q, .int th, .int (b2i sh)]) (n := 5) (Nat.le_of_ble_eq_true rfl)
  rw [lg_entry_eq]
  generalize (lg_sl ([.ref q, .int th, .int (b2i sh)]) ++ List.replicate (5 - (lg_sl ([.ref q, .int th, .int (b2i sh)])).length) Slot.unset).toArray = ls at hl ⊢
  have hl : lv_has ls 5 [(0, .ref q), (1, .int th), (2, .int (b2i sh))] := hl
  have hf_24 := hts (.fieldLink RX4 24 "LoopRegions$StepLog" "count" "I") (by decide +kernel)
  have hi_RX4 : ∀ w ∈ wsX40, w ∈ wsX4_stepThatChanged := by decide +kernel
  refine lv_iconst (v := 0) hx hb dX4_stepThatChanged_0 (by decide) ?_
  refine lv_istore_n (lv' := [(3, .int 0), (0, .ref q), (1, .int th), (2, .int (b2i sh))]) hx hb dX4_stepThatChanged_1 rfl hl (by decide) rfl (fun ls hl => ?_)
  refine W_loopR (σ := Int32) (J := 2) (nL := 5) (fun n9 x => ∃ k9 j9, n9 = k9 + 1 ∧ j9 + k9 = (ct).toNatClampNeg ∧ x = nI j9 ∧ fStepTh ct n mm nu ce ch th sh k9 j9 = fStepTh ct n mm nu ce ch th sh ct.toNatClampNeg 0) (fun x => [(3, .int x), (0, .ref q), (1, .int th), (2, .int (b2i sh))]) (fun x h => by obtain ⟨k, j, h, _⟩ := h; exact absurd h (by omega)) (fun n_2 ih_2 x ls hI_2 hl => ?_) ((ct).toNatClampNeg + 1) 0 (⟨_, 0, rfl, Nat.zero_add _, rfl, by rfl⟩) (lv_sub hl [0, 1, 2, 3] rfl)
  obtain ⟨z_2, rfl⟩ : ∃ z, z = x := ⟨_, rfl⟩
  try dsimp only at hI_2
  have hl : lv_has ls 5 [(3, .int z_2), (0, .ref q), (1, .int th), (2, .int (b2i sh))] := hl
  obtain ⟨k_2, j_2, hk_2, hj_2, rfl, hv_2⟩ := hI_2
  obtain rfl : n_2 = k_2 := Nat.succ.inj hk_2
  have hb_2 : j_2 < 2 ^ 31 := Nat.lt_of_le_of_lt (by omega) (clamp_lt (ct))
  have hl : lv_has ls 5 [(3, .int (nI j_2)), (0, .ref q), (1, .int th), (2, .int (b2i sh))] := hl
  refine lv_iload_n hx hb dX4_stepThatChanged_2 rfl (lv_at hl 0 rfl) ?_
  refine lv_aload_n hx hb dX4_stepThatChanged_3 rfl (lv_at hl 1 rfl) ?_
  refine va_get (D := E.1) (ci := 5) (v := .int ct) (C := RX4) (T := TX4) (N := 5) hx hb hts hi_RX4 hown hE.1 hP 0 rfl rfl 4 (by decide) hf_24 (fun _ h9 => h9) rfl dX4_stepThatChanged_4 ?_
  refine lv_icmp_ge (tgt := 50) hx hb dX4_stepThatChanged_7 (by decide) (fun c_7 => ?_) (fun c_7 => ?_)
  · skip
    refine lv_iconst (v := (-1)) hx hb dX4_stepThatChanged_50 (by decide) ?_
    exact W.iret (v := (-1)) hx hb hr (fun t9 ht9 _ => ⟨(-1), rfl, by have h1 : ¬ j_2 < ct.toNatClampNeg := fun q => absurd (nI_clamp_lt hb_2 q) (fun z => z c_7); have h2 : n_2 = 0 := (by omega); subst h2; rw [← hv_2]; rfl, ht9⟩) (fun q h => absurd h List.not_mem_nil) dX4_stepThatChanged_51
  · skip
    obtain ⟨f, rfl⟩ : ∃ f, n_2 = f + 1 := ⟨n_2 - 1, by have := clamp_gt hb_2 c_7; omega⟩
    refine lv_aload_n hx hb dX4_stepThatChanged_10 rfl (lv_at hl 1 rfl) ?_
    refine lv_iload_n hx hb dX4_stepThatChanged_11 rfl (lv_at hl 0 rfl) ?_
    refine crVi (As := [.int (nI j_2)]) (rest := []) ⟨hx, hb, hml, hown, hts⟩ hE (cX4_numberOf_ct l E q a1 a2 a3 a4 n mm nu pl ce ch ct hn (nI j_2)) (cwV 1 hts gX4_stepThatChanged_X4_numberOf rfl rfl rfl (by decide +kernel) ⟨Nat.le_of_ble_eq_true rfl, Nat.le_of_ble_eq_true rfl⟩) (hP.sub (ws' := [(q, .inr (5, [.ref a1, .ref a2, .ref a3, .ref a4, .int ct])), (a1, .inl (E.2 0, n, .inl nu)), (a2, .inl (E.2 0, n, .inl pl)), (a3, .inl (E.2 0, n, .inl ce)), (a4, .inl (E.2 0, mm, .inl ch))]) [0, 1, 2, 3, 4] rfl) (va_recv hE.1 hP (ci := 5) (q0 := 0) rfl rfl) rfl hl.1 rfl (Nat.le_of_ble_eq_true rfl) dX4_stepThatChanged_12 ⟨Nat.zero_le _, Nat.zero_le _⟩ ?_
    refine lv_bipush (v := 10) hx hb dX4_stepThatChanged_15 (by decide) ?_
    refine W_joinI (J := 25) (rest := []) (fun z9 => z9 = b2i (decide (¬ fNumberOf ct n nu (nI j_2) < 10))) (fun v_1 ev_1 => ?_) (fun K_17 => ?_)
    · skip
      refine lv_istore (lv' := [(4, .int v_1), (3, .int (nI j_2)), (0, .ref q), (1, .int th), (2, .int (b2i sh))]) hx hb dX4_stepThatChanged_25 hl (by decide) rfl (fun ls hl => ?_)
      refine lv_iload hx hb dX4_stepThatChanged_27 (lv_at hl 0 rfl) ?_
      refine lv_iload_n hx hb dX4_stepThatChanged_29 rfl (lv_at hl 4 rfl) ?_
      refine lv_icmp_ne (tgt := 44) hx hb dX4_stepThatChanged_30 (by decide) (fun c_30 => ?_) (fun c_30 => ?_)
      · skip
        have hne : ¬ (decide (¬ fNumberOf ct n nu (nI j_2) < 10) = sh ∧ fHasChanged ct n mm ce ch (nI j_2) th = true) := fun q => c_30 (by rw [ev_1, q.1])
        rw [fStepTh, if_neg hne] at hv_2
        obtain ⟨x_2, ex_2⟩ : ∃ y : Int32, y = (nI j_2) + (1) := ⟨_, rfl⟩
        refine lv_iinc (v := x_2) (lv' := [(3, .int x_2), (4, .int v_1), (0, .ref q), (1, .int th), (2, .int (b2i sh))]) hx hb dX4_stepThatChanged_44 hl (k := 1) rfl (by rw [ex_2]; rfl) (by decide) rfl (fun ls hl => ?_)
        refine lv_goto (tgt := 2) hx hb dX4_stepThatChanged_47 (by decide) ?_
        exact ih_2 x_2 ls (⟨f, j_2 + 1, rfl, by omega, by rw [ex_2]; exact nI_1 _, hv_2⟩) (lv_sub hl [0, 2, 3, 4] rfl)
      · skip
        refine lv_aload_n hx hb dX4_stepThatChanged_33 rfl (lv_at hl 2 rfl) ?_
        refine lv_iload_n hx hb dX4_stepThatChanged_34 rfl (lv_at hl 1 rfl) ?_
        refine lv_iload_n hx hb dX4_stepThatChanged_35 rfl (lv_at hl 3 rfl) ?_
        refine crVi (As := [.int (nI j_2), .int th]) (rest := []) ⟨hx, hb, hml, hown, hts⟩ hE (cX4_hasChanged_ct l E q a1 a2 a3 a4 n mm nu pl ce ch ct hn hm (nI j_2) th) (cwV 2 hts gX4_stepThatChanged_X4_hasChanged rfl rfl rfl (by decide +kernel) ⟨Nat.le_of_ble_eq_true rfl, Nat.le_of_ble_eq_true rfl⟩) (hP.sub (ws' := [(q, .inr (5, [.ref a1, .ref a2, .ref a3, .ref a4, .int ct])), (a1, .inl (E.2 0, n, .inl nu)), (a2, .inl (E.2 0, n, .inl pl)), (a3, .inl (E.2 0, n, .inl ce)), (a4, .inl (E.2 0, mm, .inl ch))]) [0, 1, 2, 3, 4] rfl) (va_recv hE.1 hP (ci := 5) (q0 := 0) rfl rfl) rfl hl.1 rfl (Nat.le_of_ble_eq_true rfl) dX4_stepThatChanged_36 ⟨Nat.zero_le _, Nat.zero_le _⟩ ?_
        refine lv_if_eq (tgt := 44) hx hb dX4_stepThatChanged_39 (by decide) (fun c_39 => ?_) (fun c_39 => ?_)
        · skip
          have hne : ¬ (decide (¬ fNumberOf ct n nu (nI j_2) < 10) = sh ∧ fHasChanged ct n mm ce ch (nI j_2) th = true) := fun q => by rw [b2i_eq0] at c_39; rw [c_39] at q; exact absurd q.2 (by decide)
          rw [fStepTh, if_neg hne] at hv_2
          obtain ⟨x_3, ex_3⟩ : ∃ y : Int32, y = (nI j_2) + (1) := ⟨_, rfl⟩
          refine lv_iinc (v := x_3) (lv' := [(3, .int x_3), (4, .int v_1), (0, .ref q), (1, .int th), (2, .int (b2i sh))]) hx hb dX4_stepThatChanged_44 hl (k := 1) rfl (by rw [ex_3]; rfl) (by decide) rfl (fun ls hl => ?_)
          refine lv_goto (tgt := 2) hx hb dX4_stepThatChanged_47 (by decide) ?_
          exact ih_2 x_3 ls (⟨f, j_2 + 1, rfl, by omega, by rw [ex_3]; exact nI_1 _, hv_2⟩) (lv_sub hl [0, 2, 3, 4] rfl)
        · skip
          refine lv_iload_n hx hb dX4_stepThatChanged_42 rfl (lv_at hl 1 rfl) ?_
          exact W.iret (v := nI j_2) hx hb hr (fun t9 ht9 _ => ⟨nI j_2, rfl, by rw [← hv_2, fStepTh, if_pos ⟨b2i_inj (by rw [← ev_1]; exact c_30), by rw [b2i_eq0] at c_39; simpa using c_39⟩], ht9⟩) (fun q h => absurd h List.not_mem_nil) dX4_stepThatChanged_43
    · skip
      refine lv_icmp_lt (tgt := 24) hx hb dX4_stepThatChanged_17 (by decide) (fun c_17 => ?_) (fun c_17 => ?_)
      · skip
        refine lv_iconst (v := 0) hx hb dX4_stepThatChanged_24 (by decide) ?_
        exact K_17 _ (by simp [b2i, c_17])
      · skip
        refine lv_iconst (v := 1) hx hb dX4_stepThatChanged_20 (by decide) ?_
        refine lv_goto (tgt := 25) hx hb dX4_stepThatChanged_21 (by decide) ?_
        exact K_17 _ (by simp [b2i, c_17])
