/-! WRITERS of Edges: laid by wip/s_edges2.py -/
def fAddR (r : Int64) (a : Int32) : Int64 := if fBelow a then r else r ||| fOnly (fLess a)
def fAddB (b : Int64) (a : Int32) : Int64 := if fBelow a then b ||| fOnly (fLess a) else b
def fRemR (r : Int64) (a : Int32) : Int64 := if fBelow a then r else r &&& (fOnly (fLess a) ^^^ (-1))
def fRemB (b : Int64) (a : Int32) : Int64 := if fBelow a then b &&& (fOnly (fLess a) ^^^ (-1)) else b
set_option maxHeartbeats 4000000 in
set_option maxRecDepth 100000 in
theorem cX0_copy_ct (l : Launch) (E : GE) (sz : Nat) (q : Nat) (w : Int32) (r b : Int64) (q2 : Nat) (w2 : Int32) (r2 b2 : Int64)  : wrM l yX0_copy wsX0_copy ({ frames := 0, cells := 0, slots := 0, locals := 0 }) E sz [.ref q, .ref q2] [(q, .inr (1, [.int w, .long r, .long b])), (q2, .inr (1, [.int w2, .long r2, .long b2]))] none (fun cs' => cs' = [(q, .inr (1, [.int w, .long r2, .long b2])), (q2, .inr (1, [.int w2, .long r2, .long b2]))]) 0 0 := by
  refine Met.ofW (cc := cX0_copy) (maxL := 2) (ret := none) (by decide) rfl ?_
  intro p e s m args below meth c s₁ B hml hv
  obtain ⟨rfl, hsz, hE, hP, hD0⟩ := hv
  have hx := B.exec
  have hb := B.bytes
  have hr := B.returns
  have hts := atoms_spec (ws := wsX0_copy) B.pre
  have hown : s.vm.findClass RX0 = some m.cls := findClass_of_methodNamed B.named
  have hlocks := B.notSynchronized
  subst hsz
  have hD := hD0.self (sz := s.heap.size)
  generalize hAe : va_A [(q, .inr (1, [.int w, .long r, .long b])), (q2, .inr (1, [.int w2, .long r2, .long b2]))] s.heap.size = A at hD ⊢
  have hA : ∀ q : Nat, s.heap.size ≤ q → A q := fun q h => by rw [← hAe]; exact Or.inr h
  have hS : va_S A s.heap s.heap [] := va_S.rf
  have hP : va_P E.1 vwCl [(q, .inr (1, [.int w, .long r, .long b])), (q2, .inr (1, [.int w2, .long r2, .long b2]))] s.heap := hP
  have hl := lv_entry ([.ref q, .ref q2]) (n := 2) (Nat.le_of_ble_eq_true rfl)
  rw [lg_entry_eq]
  generalize (lg_sl ([.ref q, .ref q2]) ++ List.replicate (2 - (lg_sl ([.ref q, .ref q2])).length) Slot.unset).toArray = ls at hl ⊢
  have hl : lv_has ls 2 [(0, .ref q), (1, .ref q2)] := hl
  have hf_15 := hts (.fieldLink RX0 15 "LoopRegions$Edges" "right" "J") (by decide +kernel)
  have hf_19 := hts (.fieldLink RX0 19 "LoopRegions$Edges" "below" "J") (by decide +kernel)
  have hi_RX0 : ∀ w ∈ wsX00, w ∈ wsX0_copy := by decide +kernel
  refine lv_aload_n hx hb dX0_copy_0 rfl (lv_at hl 0 rfl) ?_
  refine lv_aload_n hx hb dX0_copy_1 rfl (lv_at hl 1 rfl) ?_
  refine va_get (D := E.1) (ci := 1) (v := .long r2) (C := RX0) (T := TX0) (N := 3) hx hb hts hi_RX0 hown hE.1 hP 1 rfl rfl 1 (by decide) hf_15 (fun _ h9 => h9) rfl dX0_copy_2 ?_
  refine va_put (D := E.1) (ci := 1) (v := .long r2) (ty := .long) (C := RX0) (T := TX0) (N := 3) hx hb hts hi_RX0 tyX0 tyX0_ok nmX0 hown hE.1 hP hD hS 0 rfl rfl 1 (by decide) hf_15 (fun _ h9 => h9) rfl (by decide +kernel) (rfl) (rfl) (Nat.le_of_ble_eq_true rfl) dX0_copy_5 (fun H locs hP hD hS => ?_)
  have hP : va_P E.1 vwCl [(q, .inr (1, [.int w, .long r2, .long b])), (q2, .inr (1, [.int w2, .long r2, .long b2]))] H := hP
  have hD : va_D A [(q, .inr (1, [.int w, .long r2, .long b])), (q2, .inr (1, [.int w2, .long r2, .long b2]))] := hD
  refine lv_aload_n hx hb dX0_copy_8 rfl (lv_at hl 0 rfl) ?_
  refine lv_aload_n hx hb dX0_copy_9 rfl (lv_at hl 1 rfl) ?_
  refine va_get (D := E.1) (ci := 1) (v := .long b2) (C := RX0) (T := TX0) (N := 3) hx hb hts hi_RX0 hown hE.1 hP 1 rfl rfl 2 (by decide) hf_19 (fun _ h9 => h9) rfl dX0_copy_10 ?_
  refine va_put (D := E.1) (ci := 1) (v := .long b2) (ty := .long) (C := RX0) (T := TX0) (N := 3) hx hb hts hi_RX0 tyX0 tyX0_ok nmX0 hown hE.1 hP hD hS 0 rfl rfl 2 (by decide) hf_19 (fun _ h9 => h9) rfl (by decide +kernel) (rfl) (rfl) (Nat.le_of_ble_eq_true rfl) dX0_copy_13 (fun H locs hP hD hS => ?_)
  have hP : va_P E.1 vwCl [(q, .inr (1, [.int w, .long r2, .long b2])), (q2, .inr (1, [.int w2, .long r2, .long b2]))] H := hP
  have hD : va_D A [(q, .inr (1, [.int w, .long r2, .long b2])), (q2, .inr (1, [.int w2, .long r2, .long b2]))] := hD
  exact W.vret hx hb hr (fun t9 ht9 hW => ⟨⟨rfl, [(q, .inr (1, [.int w, .long r2, .long b2])), (q2, .inr (1, [.int w2, .long r2, .long b2]))], by subst_vars; rfl, by rw [ht9]; exact hP, hD⟩, hS.F ht9⟩) hS.2.2 dX0_copy_16
set_option maxHeartbeats 4000000 in
set_option maxRecDepth 100000 in
theorem cX0_copyWithout_ct (l : Launch) (E : GE) (sz : Nat) (q : Nat) (w : Int32) (r b : Int64) (q2 : Nat) (w2 : Int32) (r2 b2 : Int64) (q3 : Nat) (w3 : Int32) (r3 b3 : Int64)  : wrM l yX0_copyWithout wsX0_copyWithout ({ frames := 0, cells := 0, slots := 0, locals := 0 }) E sz [.ref q, .ref q2, .ref q3] [(q, .inr (1, [.int w, .long r, .long b])), (q2, .inr (1, [.int w2, .long r2, .long b2])), (q3, .inr (1, [.int w3, .long r3, .long b3]))] none (fun cs' => cs' = [(q, .inr (1, [.int w, .long (r2 &&& (r3 ^^^ (-1))), .long (b2 &&& (b3 ^^^ (-1)))])), (q2, .inr (1, [.int w2, .long r2, .long b2])), (q3, .inr (1, [.int w3, .long r3, .long b3]))]) 0 0 := by
  refine Met.ofW (cc := cX0_copyWithout) (maxL := 3) (ret := none) (by decide) rfl ?_
  intro p e s m args below meth c s₁ B hml hv
  obtain ⟨rfl, hsz, hE, hP, hD0⟩ := hv
  have hx := B.exec
  have hb := B.bytes
  have hr := B.returns
  have hts := atoms_spec (ws := wsX0_copyWithout) B.pre
  have hown : s.vm.findClass RX0 = some m.cls := findClass_of_methodNamed B.named
  have hlocks := B.notSynchronized
  subst hsz
  have hD := hD0.self (sz := s.heap.size)
  generalize hAe : va_A [(q, .inr (1, [.int w, .long r, .long b])), (q2, .inr (1, [.int w2, .long r2, .long b2])), (q3, .inr (1, [.int w3, .long r3, .long b3]))] s.heap.size = A at hD ⊢
  have hA : ∀ q : Nat, s.heap.size ≤ q → A q := fun q h => by rw [← hAe]; exact Or.inr h
  have hS : va_S A s.heap s.heap [] := va_S.rf
  have hP : va_P E.1 vwCl [(q, .inr (1, [.int w, .long r, .long b])), (q2, .inr (1, [.int w2, .long r2, .long b2])), (q3, .inr (1, [.int w3, .long r3, .long b3]))] s.heap := hP
  have hl := lv_entry ([.ref q, .ref q2, .ref q3]) (n := 3) (Nat.le_of_ble_eq_true rfl)
  rw [lg_entry_eq]
  generalize (lg_sl ([.ref q, .ref q2, .ref q3]) ++ List.replicate (3 - (lg_sl ([.ref q, .ref q2, .ref q3])).length) Slot.unset).toArray = ls at hl ⊢
  have hl : lv_has ls 3 [(0, .ref q), (1, .ref q2), (2, .ref q3)] := hl
  have hf_15 := hts (.fieldLink RX0 15 "LoopRegions$Edges" "right" "J") (by decide +kernel)
  have hf_19 := hts (.fieldLink RX0 19 "LoopRegions$Edges" "below" "J") (by decide +kernel)
  have hi_RX0 : ∀ w ∈ wsX00, w ∈ wsX0_copyWithout := by decide +kernel
  refine lv_aload_n hx hb dX0_copyWithout_0 rfl (lv_at hl 0 rfl) ?_
  refine lv_aload_n hx hb dX0_copyWithout_1 rfl (lv_at hl 1 rfl) ?_
  refine va_get (D := E.1) (ci := 1) (v := .long r2) (C := RX0) (T := TX0) (N := 3) hx hb hts hi_RX0 hown hE.1 hP 1 rfl rfl 1 (by decide) hf_15 (fun _ h9 => h9) rfl dX0_copyWithout_2 ?_
  refine lv_aload_n hx hb dX0_copyWithout_5 rfl (lv_at hl 2 rfl) ?_
  refine va_get (D := E.1) (ci := 1) (v := .long r3) (C := RX0) (T := TX0) (N := 3) hx hb hts hi_RX0 hown hE.1 hP 2 rfl rfl 1 (by decide) hf_15 (fun _ h9 => h9) rfl dX0_copyWithout_6 ?_
  refine lv_ldc2 (v := (-1)) hx hb hown (hts (.constantLong RX0 22 (-1)) (by decide +kernel)) dX0_copyWithout_9 ?_
  refine lv_lxor hx hb dX0_copyWithout_12 ?_
  refine lv_land hx hb dX0_copyWithout_13 ?_
  refine lv_topl (fun x_1 ex_1 => ?_)
  refine va_put (D := E.1) (ci := 1) (v := .long x_1) (ty := .long) (C := RX0) (T := TX0) (N := 3) hx hb hts hi_RX0 tyX0 tyX0_ok nmX0 hown hE.1 hP hD hS 0 rfl rfl 1 (by decide) hf_15 (fun _ h9 => h9) rfl (by decide +kernel) (rfl) (rfl) (Nat.le_of_ble_eq_true rfl) dX0_copyWithout_14 (fun H locs hP hD hS => ?_)
  have hP : va_P E.1 vwCl [(q, .inr (1, [.int w, .long x_1, .long b])), (q2, .inr (1, [.int w2, .long r2, .long b2])), (q3, .inr (1, [.int w3, .long r3, .long b3]))] H := hP
  have hD : va_D A [(q, .inr (1, [.int w, .long x_1, .long b])), (q2, .inr (1, [.int w2, .long r2, .long b2])), (q3, .inr (1, [.int w3, .long r3, .long b3]))] := hD
  refine lv_aload_n hx hb dX0_copyWithout_17 rfl (lv_at hl 0 rfl) ?_
  refine lv_aload_n hx hb dX0_copyWithout_18 rfl (lv_at hl 1 rfl) ?_
  refine va_get (D := E.1) (ci := 1) (v := .long b2) (C := RX0) (T := TX0) (N := 3) hx hb hts hi_RX0 hown hE.1 hP 1 rfl rfl 2 (by decide) hf_19 (fun _ h9 => h9) rfl dX0_copyWithout_19 ?_
  refine lv_aload_n hx hb dX0_copyWithout_22 rfl (lv_at hl 2 rfl) ?_
  refine va_get (D := E.1) (ci := 1) (v := .long b3) (C := RX0) (T := TX0) (N := 3) hx hb hts hi_RX0 hown hE.1 hP 2 rfl rfl 2 (by decide) hf_19 (fun _ h9 => h9) rfl dX0_copyWithout_23 ?_
  refine lv_ldc2 (v := (-1)) hx hb hown (hts (.constantLong RX0 22 (-1)) (by decide +kernel)) dX0_copyWithout_26 ?_
  refine lv_lxor hx hb dX0_copyWithout_29 ?_
  refine lv_land hx hb dX0_copyWithout_30 ?_
  refine lv_topl (fun x_2 ex_2 => ?_)
  refine va_put (D := E.1) (ci := 1) (v := .long x_2) (ty := .long) (C := RX0) (T := TX0) (N := 3) hx hb hts hi_RX0 tyX0 tyX0_ok nmX0 hown hE.1 hP hD hS 0 rfl rfl 2 (by decide) hf_19 (fun _ h9 => h9) rfl (by decide +kernel) (rfl) (rfl) (Nat.le_of_ble_eq_true rfl) dX0_copyWithout_31 (fun H locs hP hD hS => ?_)
  have hP : va_P E.1 vwCl [(q, .inr (1, [.int w, .long x_1, .long x_2])), (q2, .inr (1, [.int w2, .long r2, .long b2])), (q3, .inr (1, [.int w3, .long r3, .long b3]))] H := hP
  have hD : va_D A [(q, .inr (1, [.int w, .long x_1, .long x_2])), (q2, .inr (1, [.int w2, .long r2, .long b2])), (q3, .inr (1, [.int w3, .long r3, .long b3]))] := hD
  exact W.vret hx hb hr (fun t9 ht9 hW => ⟨⟨rfl, [(q, .inr (1, [.int w, .long x_1, .long x_2])), (q2, .inr (1, [.int w2, .long r2, .long b2])), (q3, .inr (1, [.int w3, .long r3, .long b3]))], by subst_vars; rfl, by rw [ht9]; exact hP, hD⟩, hS.F ht9⟩) hS.2.2 dX0_copyWithout_34
set_option maxHeartbeats 4000000 in
set_option maxRecDepth 100000 in
theorem cX0_add_ct (l : Launch) (E : GE) (sz : Nat) (q : Nat) (w : Int32) (r b : Int64) (a : Int32)  : wrM l yX0_add wsX0_add ({ frames := 1, cells := 0, slots := 0, locals := 20 }) E sz [.ref q, .int a] [(q, .inr (1, [.int w, .long r, .long b]))] none (fun cs' => cs' = [(q, .inr (1, [.int w, .long (fAddR r a), .long (fAddB b a)]))]) 0 0 := by
  refine Met.ofW (cc := cX0_add) (maxL := 2) (ret := none) (by decide) rfl ?_
  intro p e s m args below meth c s₁ B hml hv
  obtain ⟨rfl, hsz, hE, hP, hD0⟩ := hv
  have hx := B.exec
  have hb := B.bytes
  have hr := B.returns
  have hts := atoms_spec (ws := wsX0_add) B.pre
  have hown : s.vm.findClass RX0 = some m.cls := findClass_of_methodNamed B.named
  have hlocks := B.notSynchronized
  subst hsz
  have hD := hD0.self (sz := s.heap.size)
  generalize hAe : va_A [(q, .inr (1, [.int w, .long r, .long b]))] s.heap.size = A at hD ⊢
  have hA : ∀ q : Nat, s.heap.size ≤ q → A q := fun q h => by rw [← hAe]; exact Or.inr h
  have hS : va_S A s.heap s.heap [] := va_S.rf
  have hP : va_P E.1 vwCl [(q, .inr (1, [.int w, .long r, .long b]))] s.heap := hP
  have hl := lv_entry ([.ref q, .int a]) (n := 2) (Nat.le_of_ble_eq_true rfl)
  rw [lg_entry_eq]
  generalize (lg_sl ([.ref q, .int a]) ++ List.replicate (2 - (lg_sl ([.ref q, .int a])).length) Slot.unset).toArray = ls at hl ⊢
  have hl : lv_has ls 2 [(0, .ref q), (1, .int a)] := hl
  have hf_15 := hts (.fieldLink RX0 15 "LoopRegions$Edges" "right" "J") (by decide +kernel)
  have hf_19 := hts (.fieldLink RX0 19 "LoopRegions$Edges" "below" "J") (by decide +kernel)
  have hi_RX0 : ∀ w ∈ wsX00, w ∈ wsX0_add := by decide +kernel
  refine lv_iload_n hx hb dX0_add_0 rfl (lv_at hl 1 rfl) ?_
  refine crSi (As := [.int a]) (rest := []) ⟨hx, hb, hml, hown, hts⟩ hE (cX0_isBelow_ct l E a) (va_cwS 1 hts gX0_add_X0_isBelow rfl rfl rfl (by decide +kernel) ⟨Nat.le_of_ble_eq_true rfl, Nat.le_of_ble_eq_true rfl⟩) (fun k q h => by simp at h) rfl hl.1 rfl (Nat.le_of_ble_eq_true rfl) dX0_add_1 ⟨Nat.zero_le _, Nat.zero_le _⟩ ?_
  refine lv_if_eq (tgt := 26) hx hb dX0_add_4 (by decide) (fun c_4 => ?_) (fun c_4 => ?_)
  · skip
    refine lv_aload_n hx hb dX0_add_26 rfl (lv_at hl 0 rfl) ?_
    refine lv_dup hx hb dX0_add_27 rfl ?_
    refine va_get (D := E.1) (ci := 1) (v := .long r) (C := RX0) (T := TX0) (N := 3) hx hb hts hi_RX0 hown hE.1 hP 0 rfl rfl 1 (by decide) hf_15 (fun _ h9 => h9) rfl dX0_add_28 ?_
    refine lv_iload_n hx hb dX0_add_31 rfl (lv_at hl 1 rfl) ?_
    refine crSi (As := [.int a]) (rest := [.long r, .ref q]) ⟨hx, hb, hml, hown, hts⟩ hE (cX1_lesserEnd_ct l E a) (va_cwS 1 hts gX0_add_X1_lesserEnd rfl rfl rfl (by decide +kernel) ⟨Nat.le_of_ble_eq_true rfl, Nat.le_of_ble_eq_true rfl⟩) (fun k q h => by simp at h) rfl hl.1 rfl (Nat.le_of_ble_eq_true rfl) dX0_add_32 ⟨Nat.zero_le _, Nat.zero_le _⟩ ?_
    refine crNl (As := [.int (fLess a)]) (rest := [.long r, .ref q]) ⟨hx, hb, hml, hown, hts⟩ hE (cX5_only_ct l E (fLess a)) ⟨va_cnB 1 hts gX0_add_X5_only_n34 rfl rfl rfl (hE.2 _ (List.mem_of_getElem? (i := 1) rfl)) (hts (.initialized RX5) (by decide +kernel)) (by decide +kernel) ⟨Nat.le_of_ble_eq_true rfl, Nat.le_of_ble_eq_true rfl⟩, hts (.static yX5_only) (by decide +kernel), trivial⟩ (fun k q h => by simp at h) rfl hl.1 rfl (Nat.le_of_ble_eq_true rfl) dX0_add_35 ⟨Nat.zero_le _, Nat.zero_le _⟩ ?_
    refine lv_lor hx hb dX0_add_38 ?_
    refine lv_topl (fun x_1 ex_1 => ?_)
    refine va_put (D := E.1) (ci := 1) (v := .long x_1) (ty := .long) (C := RX0) (T := TX0) (N := 3) hx hb hts hi_RX0 tyX0 tyX0_ok nmX0 hown hE.1 hP hD hS 0 rfl rfl 1 (by decide) hf_15 (fun _ h9 => h9) rfl (by decide +kernel) (rfl) (rfl) (Nat.le_of_ble_eq_true rfl) dX0_add_39 (fun H locs hP hD hS => ?_)
    have hP : va_P E.1 vwCl [(q, .inr (1, [.int w, .long x_1, .long b]))] H := hP
    have hD : va_D A [(q, .inr (1, [.int w, .long x_1, .long b]))] := hD
    exact W.vret hx hb hr (fun t9 ht9 hW => ⟨⟨rfl, [(q, .inr (1, [.int w, .long x_1, .long b]))], by simp only [b2i_eq0] at c_4; subst_vars; simp [fAddR, fAddB, fRemR, fRemB, c_4], by rw [ht9]; exact hP, hD⟩, hS.F ht9⟩) hS.2.2 dX0_add_42
  · skip
    refine lv_aload_n hx hb dX0_add_7 rfl (lv_at hl 0 rfl) ?_
    refine lv_dup hx hb dX0_add_8 rfl ?_
    refine va_get (D := E.1) (ci := 1) (v := .long b) (C := RX0) (T := TX0) (N := 3) hx hb hts hi_RX0 hown hE.1 hP 0 rfl rfl 2 (by decide) hf_19 (fun _ h9 => h9) rfl dX0_add_9 ?_
    refine lv_iload_n hx hb dX0_add_12 rfl (lv_at hl 1 rfl) ?_
    refine crSi (As := [.int a]) (rest := [.long b, .ref q]) ⟨hx, hb, hml, hown, hts⟩ hE (cX1_lesserEnd_ct l E a) (va_cwS 1 hts gX0_add_X1_lesserEnd rfl rfl rfl (by decide +kernel) ⟨Nat.le_of_ble_eq_true rfl, Nat.le_of_ble_eq_true rfl⟩) (fun k q h => by simp at h) rfl hl.1 rfl (Nat.le_of_ble_eq_true rfl) dX0_add_13 ⟨Nat.zero_le _, Nat.zero_le _⟩ ?_
    refine crNl (As := [.int (fLess a)]) (rest := [.long b, .ref q]) ⟨hx, hb, hml, hown, hts⟩ hE (cX5_only_ct l E (fLess a)) ⟨va_cnB 1 hts gX0_add_X5_only_n34 rfl rfl rfl (hE.2 _ (List.mem_of_getElem? (i := 1) rfl)) (hts (.initialized RX5) (by decide +kernel)) (by decide +kernel) ⟨Nat.le_of_ble_eq_true rfl, Nat.le_of_ble_eq_true rfl⟩, hts (.static yX5_only) (by decide +kernel), trivial⟩ (fun k q h => by simp at h) rfl hl.1 rfl (Nat.le_of_ble_eq_true rfl) dX0_add_16 ⟨Nat.zero_le _, Nat.zero_le _⟩ ?_
    refine lv_lor hx hb dX0_add_19 ?_
    refine lv_topl (fun x_2 ex_2 => ?_)
    refine va_put (D := E.1) (ci := 1) (v := .long x_2) (ty := .long) (C := RX0) (T := TX0) (N := 3) hx hb hts hi_RX0 tyX0 tyX0_ok nmX0 hown hE.1 hP hD hS 0 rfl rfl 2 (by decide) hf_19 (fun _ h9 => h9) rfl (by decide +kernel) (rfl) (rfl) (Nat.le_of_ble_eq_true rfl) dX0_add_20 (fun H locs hP hD hS => ?_)
    have hP : va_P E.1 vwCl [(q, .inr (1, [.int w, .long r, .long x_2]))] H := hP
    have hD : va_D A [(q, .inr (1, [.int w, .long r, .long x_2]))] := hD
    refine lv_goto (tgt := 42) hx hb dX0_add_23 (by decide) ?_
    exact W.vret hx hb hr (fun t9 ht9 hW => ⟨⟨rfl, [(q, .inr (1, [.int w, .long r, .long x_2]))], by simp only [b2i_eq0] at c_4; subst_vars; simp [fAddR, fAddB, fRemR, fRemB, c_4], by rw [ht9]; exact hP, hD⟩, hS.F ht9⟩) hS.2.2 dX0_add_42
set_option maxHeartbeats 4000000 in
set_option maxRecDepth 100000 in
theorem cX0_remove_ct (l : Launch) (E : GE) (sz : Nat) (q : Nat) (w : Int32) (r b : Int64) (a : Int32)  : wrM l yX0_remove wsX0_remove ({ frames := 1, cells := 0, slots := 0, locals := 20 }) E sz [.ref q, .int a] [(q, .inr (1, [.int w, .long r, .long b]))] none (fun cs' => cs' = [(q, .inr (1, [.int w, .long (fRemR r a), .long (fRemB b a)]))]) 0 0 := by
  refine Met.ofW (cc := cX0_remove) (maxL := 2) (ret := none) (by decide) rfl ?_
  intro p e s m args below meth c s₁ B hml hv
  obtain ⟨rfl, hsz, hE, hP, hD0⟩ := hv
  have hx := B.exec
  have hb := B.bytes
  have hr := B.returns
  have hts := atoms_spec (ws := wsX0_remove) B.pre
  have hown : s.vm.findClass RX0 = some m.cls := findClass_of_methodNamed B.named
  have hlocks := B.notSynchronized
  subst hsz
  have hD := hD0.self (sz := s.heap.size)
  generalize hAe : va_A [(q, .inr (1, [.int w, .long r, .long b]))] s.heap.size = A at hD ⊢
  have hA : ∀ q : Nat, s.heap.size ≤ q → A q := fun q h => by rw [← hAe]; exact Or.inr h
  have hS : va_S A s.heap s.heap [] := va_S.rf
  have hP : va_P E.1 vwCl [(q, .inr (1, [.int w, .long r, .long b]))] s.heap := hP
  have hl := lv_entry ([.ref q, .int a]) (n := 2) (Nat.le_of_ble_eq_true rfl)
  rw [lg_entry_eq]
  generalize (lg_sl ([.ref q, .int a]) ++ List.replicate (2 - (lg_sl ([.ref q, .int a])).length) Slot.unset).toArray = ls at hl ⊢
  have hl : lv_has ls 2 [(0, .ref q), (1, .int a)] := hl
  have hf_15 := hts (.fieldLink RX0 15 "LoopRegions$Edges" "right" "J") (by decide +kernel)
  have hf_19 := hts (.fieldLink RX0 19 "LoopRegions$Edges" "below" "J") (by decide +kernel)
  have hi_RX0 : ∀ w ∈ wsX00, w ∈ wsX0_remove := by decide +kernel
  refine lv_iload_n hx hb dX0_remove_0 rfl (lv_at hl 1 rfl) ?_
  refine crSi (As := [.int a]) (rest := []) ⟨hx, hb, hml, hown, hts⟩ hE (cX0_isBelow_ct l E a) (va_cwS 1 hts gX0_remove_X0_isBelow rfl rfl rfl (by decide +kernel) ⟨Nat.le_of_ble_eq_true rfl, Nat.le_of_ble_eq_true rfl⟩) (fun k q h => by simp at h) rfl hl.1 rfl (Nat.le_of_ble_eq_true rfl) dX0_remove_1 ⟨Nat.zero_le _, Nat.zero_le _⟩ ?_
  refine lv_if_eq (tgt := 30) hx hb dX0_remove_4 (by decide) (fun c_4 => ?_) (fun c_4 => ?_)
  · skip
    refine lv_aload_n hx hb dX0_remove_30 rfl (lv_at hl 0 rfl) ?_
    refine lv_dup hx hb dX0_remove_31 rfl ?_
    refine va_get (D := E.1) (ci := 1) (v := .long r) (C := RX0) (T := TX0) (N := 3) hx hb hts hi_RX0 hown hE.1 hP 0 rfl rfl 1 (by decide) hf_15 (fun _ h9 => h9) rfl dX0_remove_32 ?_
    refine lv_iload_n hx hb dX0_remove_35 rfl (lv_at hl 1 rfl) ?_
    refine crSi (As := [.int a]) (rest := [.long r, .ref q]) ⟨hx, hb, hml, hown, hts⟩ hE (cX1_lesserEnd_ct l E a) (va_cwS 1 hts gX0_remove_X1_lesserEnd rfl rfl rfl (by decide +kernel) ⟨Nat.le_of_ble_eq_true rfl, Nat.le_of_ble_eq_true rfl⟩) (fun k q h => by simp at h) rfl hl.1 rfl (Nat.le_of_ble_eq_true rfl) dX0_remove_36 ⟨Nat.zero_le _, Nat.zero_le _⟩ ?_
    refine crNl (As := [.int (fLess a)]) (rest := [.long r, .ref q]) ⟨hx, hb, hml, hown, hts⟩ hE (cX5_only_ct l E (fLess a)) ⟨va_cnB 1 hts gX0_remove_X5_only_n34 rfl rfl rfl (hE.2 _ (List.mem_of_getElem? (i := 1) rfl)) (hts (.initialized RX5) (by decide +kernel)) (by decide +kernel) ⟨Nat.le_of_ble_eq_true rfl, Nat.le_of_ble_eq_true rfl⟩, hts (.static yX5_only) (by decide +kernel), trivial⟩ (fun k q h => by simp at h) rfl hl.1 rfl (Nat.le_of_ble_eq_true rfl) dX0_remove_39 ⟨Nat.zero_le _, Nat.zero_le _⟩ ?_
    refine lv_ldc2 (v := (-1)) hx hb hown (hts (.constantLong RX0 22 (-1)) (by decide +kernel)) dX0_remove_42 ?_
    refine lv_lxor hx hb dX0_remove_45 ?_
    refine lv_land hx hb dX0_remove_46 ?_
    refine lv_topl (fun x_1 ex_1 => ?_)
    refine va_put (D := E.1) (ci := 1) (v := .long x_1) (ty := .long) (C := RX0) (T := TX0) (N := 3) hx hb hts hi_RX0 tyX0 tyX0_ok nmX0 hown hE.1 hP hD hS 0 rfl rfl 1 (by decide) hf_15 (fun _ h9 => h9) rfl (by decide +kernel) (rfl) (rfl) (Nat.le_of_ble_eq_true rfl) dX0_remove_47 (fun H locs hP hD hS => ?_)
    have hP : va_P E.1 vwCl [(q, .inr (1, [.int w, .long x_1, .long b]))] H := hP
    have hD : va_D A [(q, .inr (1, [.int w, .long x_1, .long b]))] := hD
    exact W.vret hx hb hr (fun t9 ht9 hW => ⟨⟨rfl, [(q, .inr (1, [.int w, .long x_1, .long b]))], by simp only [b2i_eq0] at c_4; subst_vars; simp [fAddR, fAddB, fRemR, fRemB, c_4], by rw [ht9]; exact hP, hD⟩, hS.F ht9⟩) hS.2.2 dX0_remove_50
  · skip
    refine lv_aload_n hx hb dX0_remove_7 rfl (lv_at hl 0 rfl) ?_
    refine lv_dup hx hb dX0_remove_8 rfl ?_
    refine va_get (D := E.1) (ci := 1) (v := .long b) (C := RX0) (T := TX0) (N := 3) hx hb hts hi_RX0 hown hE.1 hP 0 rfl rfl 2 (by decide) hf_19 (fun _ h9 => h9) rfl dX0_remove_9 ?_
    refine lv_iload_n hx hb dX0_remove_12 rfl (lv_at hl 1 rfl) ?_
    refine crSi (As := [.int a]) (rest := [.long b, .ref q]) ⟨hx, hb, hml, hown, hts⟩ hE (cX1_lesserEnd_ct l E a) (va_cwS 1 hts gX0_remove_X1_lesserEnd rfl rfl rfl (by decide +kernel) ⟨Nat.le_of_ble_eq_true rfl, Nat.le_of_ble_eq_true rfl⟩) (fun k q h => by simp at h) rfl hl.1 rfl (Nat.le_of_ble_eq_true rfl) dX0_remove_13 ⟨Nat.zero_le _, Nat.zero_le _⟩ ?_
    refine crNl (As := [.int (fLess a)]) (rest := [.long b, .ref q]) ⟨hx, hb, hml, hown, hts⟩ hE (cX5_only_ct l E (fLess a)) ⟨va_cnB 1 hts gX0_remove_X5_only_n34 rfl rfl rfl (hE.2 _ (List.mem_of_getElem? (i := 1) rfl)) (hts (.initialized RX5) (by decide +kernel)) (by decide +kernel) ⟨Nat.le_of_ble_eq_true rfl, Nat.le_of_ble_eq_true rfl⟩, hts (.static yX5_only) (by decide +kernel), trivial⟩ (fun k q h => by simp at h) rfl hl.1 rfl (Nat.le_of_ble_eq_true rfl) dX0_remove_16 ⟨Nat.zero_le _, Nat.zero_le _⟩ ?_
    refine lv_ldc2 (v := (-1)) hx hb hown (hts (.constantLong RX0 22 (-1)) (by decide +kernel)) dX0_remove_19 ?_
    refine lv_lxor hx hb dX0_remove_22 ?_
    refine lv_land hx hb dX0_remove_23 ?_
    refine lv_topl (fun x_2 ex_2 => ?_)
    refine va_put (D := E.1) (ci := 1) (v := .long x_2) (ty := .long) (C := RX0) (T := TX0) (N := 3) hx hb hts hi_RX0 tyX0 tyX0_ok nmX0 hown hE.1 hP hD hS 0 rfl rfl 2 (by decide) hf_19 (fun _ h9 => h9) rfl (by decide +kernel) (rfl) (rfl) (Nat.le_of_ble_eq_true rfl) dX0_remove_24 (fun H locs hP hD hS => ?_)
    have hP : va_P E.1 vwCl [(q, .inr (1, [.int w, .long r, .long x_2]))] H := hP
    have hD : va_D A [(q, .inr (1, [.int w, .long r, .long x_2]))] := hD
    refine lv_goto (tgt := 50) hx hb dX0_remove_27 (by decide) ?_
    exact W.vret hx hb hr (fun t9 ht9 hW => ⟨⟨rfl, [(q, .inr (1, [.int w, .long r, .long x_2]))], by simp only [b2i_eq0] at c_4; subst_vars; simp [fAddR, fAddB, fRemR, fRemB, c_4], by rw [ht9]; exact hP, hD⟩, hS.F ht9⟩) hS.2.2 dX0_remove_50
set_option maxHeartbeats 4000000 in
set_option maxRecDepth 100000 in
theorem cX0_init_ct (l : Launch) (E : GE) (sz : Nat) (q : Nat) (w0 w : Int32) (r b : Int64)  : wrM l yX0_init wsX0_init ({ frames := 1, cells := 0, slots := 0, locals := 20 }) E sz [.ref q, .int w] [(q, .inr (1, [.int w0, .long r, .long b]))] none (fun cs' => cs' = [(q, .inr (1, [.int w, .long r, .long b]))]) 0 0 := by
  refine Met.ofW (cc := cX0_init) (maxL := 2) (ret := none) (by decide) rfl ?_
  intro p e s m args below meth c s₁ B hml hv
  obtain ⟨rfl, hsz, hE, hP, hD0⟩ := hv
  have hx := B.exec
  have hb := B.bytes
  have hr := B.returns
  have hts := atoms_spec (ws := wsX0_init) B.pre
  have hown : s.vm.findClass RX0 = some m.cls := findClass_of_methodNamed B.named
  have hlocks := B.notSynchronized
  have hin : meth.name = "<init>" := (name_of_methodNamed B.named B.method).1
  subst hsz
  have hD := hD0.self (sz := s.heap.size)
  generalize hAe : va_A [(q, .inr (1, [.int w0, .long r, .long b]))] s.heap.size = A at hD ⊢
  have hA : ∀ q : Nat, s.heap.size ≤ q → A q := fun q h => by rw [← hAe]; exact Or.inr h
  have hS : va_S A s.heap s.heap [] := va_S.rf
  have hP : va_P E.1 vwCl [(q, .inr (1, [.int w0, .long r, .long b]))] s.heap := hP
  have hl := lv_entry ([.ref q, .int w]) (n := 2) (Nat.le_of_ble_eq_true rfl)
  rw [lg_entry_eq]
  generalize (lg_sl ([.ref q, .int w]) ++ List.replicate (2 - (lg_sl ([.ref q, .int w])).length) Slot.unset).toArray = ls at hl ⊢
  have hl : lv_has ls 2 [(0, .ref q), (1, .int w)] := hl
  have hf_9 := hts (.fieldLink RX0 9 "LoopRegions$Edges" "width" "I") (by decide +kernel)
  have hi_RX0 : ∀ w ∈ wsX00, w ∈ wsX0_init := by decide +kernel
  refine lv_aload_n hx hb dX0_init_0 rfl (lv_at hl 0 rfl) ?_
  refine W.objInit hx hb hown (hts (.methodLink RX0 3 objectInit) (by decide +kernel)) (hts (.instanceMethod objectInit) (by decide +kernel)) (hts (.code objectInit ⟨#[0xb1]⟩ 1 none) (by decide +kernel)) rfl (by rw [hml]; exact hl.1) rfl dX0_init_1 (Nat.le_of_ble_eq_true rfl) (Nat.le_of_ble_eq_true rfl) ?_
  refine W.eq (g2 := F0 m 4 ls []) rfl ?_
  refine lv_aload_n hx hb dX0_init_4 rfl (lv_at hl 0 rfl) ?_
  refine lv_iload_n hx hb dX0_init_5 rfl (lv_at hl 1 rfl) ?_
  refine va_putF (D := E.1) (ci := 1) (v := .int w) (ty := .int) (C := RX0) (T := TX0) (N := 3) hx hb hts hi_RX0 tyX0 tyX0_ok nmX0 hown hE.1 hP hD hS 0 rfl rfl 0 (by decide) hf_9 (fun _ h9 => h9) rfl hin rfl (by decide +kernel) (rfl) (rfl) (Nat.le_of_ble_eq_true rfl) dX0_init_6 (fun H locs hP hD hS => ?_)
  have hP : va_P E.1 vwCl [(q, .inr (1, [.int w, .long r, .long b]))] H := hP
  have hD : va_D A [(q, .inr (1, [.int w, .long r, .long b]))] := hD
  exact W.vret hx hb hr (fun t9 ht9 hW => ⟨⟨rfl, [(q, .inr (1, [.int w, .long r, .long b]))], rfl, by rw [ht9]; exact hP, hD⟩, hS.F ht9⟩) hS.2.2 dX0_init_9
