/-! READERS of LoopRegions (its statics), Long.bitCount, Edges: laid by wip/s_edges.py -/
set_option maxHeartbeats 4000000 in
set_option maxRecDepth 100000 in
theorem cX5_only_ct (l : Launch) (E : GE) (a : Int32)  : rdL l yX5_only wsX5_only ({ frames := 0, cells := 0, slots := 0, locals := 0 }) E [.int a] [] (fOnly a) := by
  refine Met.ofW (cc := cX5_only) (maxL := 1) (ret := (some .long)) (by decide) rfl ?_
  intro p e s m args below meth c s₁ B hml hv
  obtain ⟨rfl, hE, hP⟩ := hv
  have hx := B.exec
  have hb := B.bytes
  have hr := B.returns
  have hts := atoms_spec (ws := wsX5_only) B.pre
  have hown : s.vm.findClass RX5 = some m.cls := findClass_of_methodNamed B.named
  have hlocks := B.notSynchronized
  have hP : va_P E.1 vwCl [] s.heap := hP
  have hl := lv_entry ([.int a]) (n := 1) (Nat.le_of_ble_eq_true rfl)
  rw [lg_entry_eq]
  generalize (lg_sl ([.int a]) ++ List.replicate (1 - (lg_sl ([.int a])).length) Slot.unset).toArray = ls at hl ⊢
  have hl : lv_has ls 1 [(0, .int a)] := hl
  refine lv_lconst (v := 1) hx hb dX5_only_0 (by decide) ?_
  refine lv_iload_n hx hb dX5_only_1 rfl (lv_at hl 0 rfl) ?_
  refine lv_lshl hx hb dX5_only_2 rfl ?_
  exact W.lret (v := 1 <<< ((a : Int32).toInt64 &&& 63)) hx hb hr (fun t9 ht9 _ => ⟨1 <<< ((a : Int32).toInt64 &&& 63), rfl, rfl, ht9⟩) (fun q h => absurd h List.not_mem_nil) dX5_only_3
set_option maxHeartbeats 4000000 in
set_option maxRecDepth 100000 in
theorem cX5_holds_ct (l : Launch) (E : GE) (x : Int64) (a : Int32)  : rdI l yX5_holds wsX5_holds ({ frames := 1, cells := 0, slots := 0, locals := 20 }) E [.long x, .int a] [] (b2i (fHolds x a)) := by
  refine Met.ofW (cc := cX5_holds) (maxL := 3) (ret := (some .boolean)) (by decide) rfl ?_
  intro p e s m args below meth c s₁ B hml hv
  obtain ⟨rfl, hE, hP⟩ := hv
  have hx := B.exec
  have hb := B.bytes
  have hr := B.returns
  have hts := atoms_spec (ws := wsX5_holds) B.pre
  have hown : s.vm.findClass RX5 = some m.cls := findClass_of_methodNamed B.named
  have hlocks := B.notSynchronized
  have hP : va_P E.1 vwCl [] s.heap := hP
  have hl := lv_entry ([.long x, .int a]) (n := 3) (Nat.le_of_ble_eq_true rfl)
  rw [lg_entry_eq]
  generalize (lg_sl ([.long x, .int a]) ++ List.replicate (3 - (lg_sl ([.long x, .int a])).length) Slot.unset).toArray = ls at hl ⊢
  have hl : lv_has ls 3 [(0, .long x), (2, .int a)] := hl
  refine lv_lload_n hx hb dX5_holds_0 rfl (lv_at hl 0 rfl) ?_
  refine lv_iload_n hx hb dX5_holds_1 rfl (lv_at hl 1 rfl) ?_
  refine crSl (As := [.int a]) (rest := [.long x]) ⟨hx, hb, hml, hown, hts⟩ hE (cX5_only_ct l E a) (va_cwS 1 hts gX5_holds_X5_only rfl rfl rfl (by decide +kernel) ⟨Nat.le_of_ble_eq_true rfl, Nat.le_of_ble_eq_true rfl⟩) (fun k q h => by simp at h) rfl hl.1 rfl (Nat.le_of_ble_eq_true rfl) dX5_holds_2 ⟨Nat.zero_le _, Nat.zero_le _⟩ ?_
  refine lv_land hx hb dX5_holds_5 ?_
  refine lv_lconst (v := 0) hx hb dX5_holds_6 (by decide) ?_
  refine W.lcmp hx hb dX5_holds_7 ?_
  refine lv_if_eq (tgt := 15) hx hb dX5_holds_8 (by decide) (fun c_8 => ?_) (fun c_8 => ?_)
  · skip
    refine lv_iconst (v := 0) hx hb dX5_holds_15 (by decide) ?_
    exact W.zret (v := 0) hx hb hr (rfl) (fun t9 ht9 _ => ⟨0, rfl, by simp only [cmp0] at c_8; simp [b2i, fHolds, c_8], ht9⟩) (fun q h => absurd h List.not_mem_nil) dX5_holds_16
  · skip
    refine lv_iconst (v := 1) hx hb dX5_holds_11 (by decide) ?_
    refine lv_goto (tgt := 16) hx hb dX5_holds_12 (by decide) ?_
    exact W.zret (v := 1) hx hb hr (rfl) (fun t9 ht9 _ => ⟨1, rfl, by simp only [cmp0] at c_8; simp [b2i, fHolds, c_8], ht9⟩) (fun q h => absurd h List.not_mem_nil) dX5_holds_16
set_option maxHeartbeats 4000000 in
set_option maxRecDepth 100000 in
theorem cJ13_bitCount_95d88_ct (l : Launch) (E : GE) (x0 : Int64)  : rdI l yJ13_bitCount_95d88 wsJ13_bitCount_95d88 ({ frames := 0, cells := 0, slots := 0, locals := 0 }) E [.long x0] [] (fBc x0) := by
  refine Met.ofW (cc := cJ13_bitCount_95d88) (maxL := 2) (ret := (some .int)) (by decide) rfl ?_
  intro p e s m args below meth c s₁ B hml hv
  obtain ⟨rfl, hE, hP⟩ := hv
  have hx := B.exec
  have hb := B.bytes
  have hr := B.returns
  have hts := atoms_spec (ws := wsJ13_bitCount_95d88) B.pre
  have hown : s.vm.findClass RJ13 = some m.cls := findClass_of_methodNamed B.named
  have hlocks := B.notSynchronized
  have hP : va_P E.1 vwCl [] s.heap := hP
  have hl := lv_entry ([.long x0]) (n := 2) (Nat.le_of_ble_eq_true rfl)
  rw [lg_entry_eq]
  generalize (lg_sl ([.long x0]) ++ List.replicate (2 - (lg_sl ([.long x0])).length) Slot.unset).toArray = ls at hl ⊢
  have hl : lv_has ls 2 [(0, .long x0)] := hl
  refine lv_lload_n hx hb dJ13_bitCount_95d88_0 rfl (lv_at hl 0 rfl) ?_
  refine lv_lload_n hx hb dJ13_bitCount_95d88_1 rfl (lv_at hl 0 rfl) ?_
  refine lv_iconst (v := 1) hx hb dJ13_bitCount_95d88_2 (by decide) ?_
  refine lv_lushr hx hb dJ13_bitCount_95d88_3 rfl ?_
  refine lv_ldc2 (v := 6148914691236517205) hx hb hown (hts (.constantLong RJ13 314 (6148914691236517205)) (by decide +kernel)) dJ13_bitCount_95d88_4 ?_
  refine lv_land hx hb dJ13_bitCount_95d88_7 ?_
  refine lv_lsub hx hb dJ13_bitCount_95d88_8 ?_
  refine lv_topl (fun x_1 ex_1 => ?_)
  refine lv_lstore_n (lv' := [(0, .long x_1)]) hx hb dJ13_bitCount_95d88_9 rfl hl (by decide) rfl (fun ls hl => ?_)
  refine lv_lload_n hx hb dJ13_bitCount_95d88_10 rfl (lv_at hl 0 rfl) ?_
  refine lv_ldc2 (v := 3689348814741910323) hx hb hown (hts (.constantLong RJ13 316 (3689348814741910323)) (by decide +kernel)) dJ13_bitCount_95d88_11 ?_
  refine lv_land hx hb dJ13_bitCount_95d88_14 ?_
  refine lv_lload_n hx hb dJ13_bitCount_95d88_15 rfl (lv_at hl 0 rfl) ?_
  refine lv_iconst (v := 2) hx hb dJ13_bitCount_95d88_16 (by decide) ?_
  refine lv_lushr hx hb dJ13_bitCount_95d88_17 rfl ?_
  refine lv_ldc2 (v := 3689348814741910323) hx hb hown (hts (.constantLong RJ13 316 (3689348814741910323)) (by decide +kernel)) dJ13_bitCount_95d88_18 ?_
  refine lv_land hx hb dJ13_bitCount_95d88_21 ?_
  refine lv_ladd hx hb dJ13_bitCount_95d88_22 ?_
  refine lv_topl (fun x_2 ex_2 => ?_)
  refine lv_lstore_n (lv' := [(0, .long x_2)]) hx hb dJ13_bitCount_95d88_23 rfl hl (by decide) rfl (fun ls hl => ?_)
  refine lv_lload_n hx hb dJ13_bitCount_95d88_24 rfl (lv_at hl 0 rfl) ?_
  refine lv_lload_n hx hb dJ13_bitCount_95d88_25 rfl (lv_at hl 0 rfl) ?_
  refine lv_iconst (v := 4) hx hb dJ13_bitCount_95d88_26 (by decide) ?_
  refine lv_lushr hx hb dJ13_bitCount_95d88_27 rfl ?_
  refine lv_ladd hx hb dJ13_bitCount_95d88_28 ?_
  refine lv_ldc2 (v := 1085102592571150095) hx hb hown (hts (.constantLong RJ13 318 (1085102592571150095)) (by decide +kernel)) dJ13_bitCount_95d88_29 ?_
  refine lv_land hx hb dJ13_bitCount_95d88_32 ?_
  refine lv_topl (fun x_3 ex_3 => ?_)
  refine lv_lstore_n (lv' := [(0, .long x_3)]) hx hb dJ13_bitCount_95d88_33 rfl hl (by decide) rfl (fun ls hl => ?_)
  refine lv_lload_n hx hb dJ13_bitCount_95d88_34 rfl (lv_at hl 0 rfl) ?_
  refine lv_lload_n hx hb dJ13_bitCount_95d88_35 rfl (lv_at hl 0 rfl) ?_
  refine lv_bipush (v := 8) hx hb dJ13_bitCount_95d88_36 (by decide) ?_
  refine lv_lushr hx hb dJ13_bitCount_95d88_38 rfl ?_
  refine lv_ladd hx hb dJ13_bitCount_95d88_39 ?_
  refine lv_topl (fun x_4 ex_4 => ?_)
  refine lv_lstore_n (lv' := [(0, .long x_4)]) hx hb dJ13_bitCount_95d88_40 rfl hl (by decide) rfl (fun ls hl => ?_)
  refine lv_lload_n hx hb dJ13_bitCount_95d88_41 rfl (lv_at hl 0 rfl) ?_
  refine lv_lload_n hx hb dJ13_bitCount_95d88_42 rfl (lv_at hl 0 rfl) ?_
  refine lv_bipush (v := 16) hx hb dJ13_bitCount_95d88_43 (by decide) ?_
  refine lv_lushr hx hb dJ13_bitCount_95d88_45 rfl ?_
  refine lv_ladd hx hb dJ13_bitCount_95d88_46 ?_
  refine lv_topl (fun x_5 ex_5 => ?_)
  refine lv_lstore_n (lv' := [(0, .long x_5)]) hx hb dJ13_bitCount_95d88_47 rfl hl (by decide) rfl (fun ls hl => ?_)
  refine lv_lload_n hx hb dJ13_bitCount_95d88_48 rfl (lv_at hl 0 rfl) ?_
  refine lv_lload_n hx hb dJ13_bitCount_95d88_49 rfl (lv_at hl 0 rfl) ?_
  refine lv_bipush (v := 32) hx hb dJ13_bitCount_95d88_50 (by decide) ?_
  refine lv_lushr hx hb dJ13_bitCount_95d88_52 rfl ?_
  refine lv_ladd hx hb dJ13_bitCount_95d88_53 ?_
  refine lv_topl (fun x_6 ex_6 => ?_)
  refine lv_lstore_n (lv' := [(0, .long x_6)]) hx hb dJ13_bitCount_95d88_54 rfl hl (by decide) rfl (fun ls hl => ?_)
  refine lv_lload_n hx hb dJ13_bitCount_95d88_55 rfl (lv_at hl 0 rfl) ?_
  refine lv_l2i hx hb dJ13_bitCount_95d88_56 rfl ?_
  refine lv_bipush (v := 127) hx hb dJ13_bitCount_95d88_57 (by decide) ?_
  refine lv_iand hx hb dJ13_bitCount_95d88_59 ?_
  exact W.iret (v := ((x_6 : Int64).toInt32) &&& 127) hx hb hr (fun t9 ht9 _ => ⟨((x_6 : Int64).toInt32) &&& 127, rfl, by subst_vars; rfl, ht9⟩) (fun q h => absurd h List.not_mem_nil) dJ13_bitCount_95d88_60
set_option maxHeartbeats 4000000 in
set_option maxRecDepth 100000 in
theorem cX5_least_ct (l : Launch) (E : GE) (x : Int64)  : rdI l yX5_least wsX5_least ({ frames := 1, cells := 0, slots := 0, locals := 21 }) E [.long x] [] (fLeast x) := by
  refine Met.ofW (cc := cX5_least) (maxL := 2) (ret := (some .int)) (by decide) rfl ?_
  intro p e s m args below meth c s₁ B hml hv
  obtain ⟨rfl, hE, hP⟩ := hv
  have hx := B.exec
  have hb := B.bytes
  have hr := B.returns
  have hts := atoms_spec (ws := wsX5_least) B.pre
  have hown : s.vm.findClass RX5 = some m.cls := findClass_of_methodNamed B.named
  have hlocks := B.notSynchronized
  have hP : va_P E.1 vwCl [] s.heap := hP
  have hl := lv_entry ([.long x]) (n := 2) (Nat.le_of_ble_eq_true rfl)
  rw [lg_entry_eq]
  generalize (lg_sl ([.long x]) ++ List.replicate (2 - (lg_sl ([.long x])).length) Slot.unset).toArray = ls at hl ⊢
  have hl : lv_has ls 2 [(0, .long x)] := hl
  refine lv_lload_n hx hb dX5_least_0 rfl (lv_at hl 0 rfl) ?_
  refine lv_lload_n hx hb dX5_least_1 rfl (lv_at hl 0 rfl) ?_
  refine lv_lneg hx hb dX5_least_2 ?_
  refine lv_land hx hb dX5_least_3 ?_
  refine lv_lconst (v := 1) hx hb dX5_least_4 (by decide) ?_
  refine lv_lsub hx hb dX5_least_5 ?_
  refine crSi (As := [.long ((x &&& (-x)) - 1)]) (rest := []) ⟨hx, hb, hml, hown, hts⟩ hE (cJ13_bitCount_95d88_ct l E ((x &&& (-x)) - 1)) (va_cwS 1 hts gX5_least_J13_bitCount_95d88 rfl rfl rfl (by decide +kernel) ⟨Nat.le_of_ble_eq_true rfl, Nat.le_of_ble_eq_true rfl⟩) (fun k q h => by simp at h) rfl hl.1 rfl (Nat.le_of_ble_eq_true rfl) dX5_least_6 ⟨Nat.zero_le _, Nat.zero_le _⟩ ?_
  exact W.iret (v := fBc ((x &&& (-x)) - 1)) hx hb hr (fun t9 ht9 _ => ⟨fBc ((x &&& (-x)) - 1), rfl, rfl, ht9⟩) (fun q h => absurd h List.not_mem_nil) dX5_least_9
set_option maxHeartbeats 4000000 in
set_option maxRecDepth 100000 in
theorem cX0_isBelow_ct (l : Launch) (E : GE) (a : Int32)  : rdI l yX0_isBelow wsX0_isBelow ({ frames := 0, cells := 0, slots := 0, locals := 0 }) E [.int a] [] (b2i (fBelow a)) := by
  refine Met.ofW (cc := cX0_isBelow) (maxL := 1) (ret := (some .boolean)) (by decide) rfl ?_
  intro p e s m args below meth c s₁ B hml hv
  obtain ⟨rfl, hE, hP⟩ := hv
  have hx := B.exec
  have hb := B.bytes
  have hr := B.returns
  have hts := atoms_spec (ws := wsX0_isBelow) B.pre
  have hown : s.vm.findClass RX0 = some m.cls := findClass_of_methodNamed B.named
  have hlocks := B.notSynchronized
  have hP : va_P E.1 vwCl [] s.heap := hP
  have hl := lv_entry ([.int a]) (n := 1) (Nat.le_of_ble_eq_true rfl)
  rw [lg_entry_eq]
  generalize (lg_sl ([.int a]) ++ List.replicate (1 - (lg_sl ([.int a])).length) Slot.unset).toArray = ls at hl ⊢
  have hl : lv_has ls 1 [(0, .int a)] := hl
  refine lv_iload_n hx hb dX0_isBelow_0 rfl (lv_at hl 0 rfl) ?_
  refine lv_iconst (v := 1) hx hb dX0_isBelow_1 (by decide) ?_
  refine lv_iand hx hb dX0_isBelow_2 ?_
  refine lv_if_eq (tgt := 10) hx hb dX0_isBelow_3 (by decide) (fun c_3 => ?_) (fun c_3 => ?_)
  · skip
    refine lv_iconst (v := 0) hx hb dX0_isBelow_10 (by decide) ?_
    exact W.zret (v := 0) hx hb hr (rfl) (fun t9 ht9 _ => ⟨0, rfl, by simp [b2i, fBelow, c_3], ht9⟩) (fun q h => absurd h List.not_mem_nil) dX0_isBelow_11
  · skip
    refine lv_iconst (v := 1) hx hb dX0_isBelow_6 (by decide) ?_
    refine lv_goto (tgt := 11) hx hb dX0_isBelow_7 (by decide) ?_
    exact W.zret (v := 1) hx hb hr (rfl) (fun t9 ht9 _ => ⟨1, rfl, by simp [b2i, fBelow, c_3], ht9⟩) (fun q h => absurd h List.not_mem_nil) dX0_isBelow_11
set_option maxHeartbeats 4000000 in
set_option maxRecDepth 100000 in
theorem cX1_lesserEnd_ct (l : Launch) (E : GE) (a : Int32)  : rdI l yX1_lesserEnd wsX1_lesserEnd ({ frames := 0, cells := 0, slots := 0, locals := 0 }) E [.int a] [] (fLess a) := by
  refine Met.ofW (cc := cX1_lesserEnd) (maxL := 1) (ret := (some .int)) (by decide) rfl ?_
  intro p e s m args below meth c s₁ B hml hv
  obtain ⟨rfl, hE, hP⟩ := hv
  have hx := B.exec
  have hb := B.bytes
  have hr := B.returns
  have hts := atoms_spec (ws := wsX1_lesserEnd) B.pre
  have hown : s.vm.findClass RX1 = some m.cls := findClass_of_methodNamed B.named
  have hlocks := B.notSynchronized
  have hP : va_P E.1 vwCl [] s.heap := hP
  have hl := lv_entry ([.int a]) (n := 1) (Nat.le_of_ble_eq_true rfl)
  rw [lg_entry_eq]
  generalize (lg_sl ([.int a]) ++ List.replicate (1 - (lg_sl ([.int a])).length) Slot.unset).toArray = ls at hl ⊢
  have hl : lv_has ls 1 [(0, .int a)] := hl
  refine lv_iload_n hx hb dX1_lesserEnd_0 rfl (lv_at hl 0 rfl) ?_
  refine lv_iconst (v := 1) hx hb dX1_lesserEnd_1 (by decide) ?_
  refine lv_ishr hx hb dX1_lesserEnd_2 ?_
  exact W.iret (v := a >>> (1 &&& 31)) hx hb hr (fun t9 ht9 _ => ⟨a >>> (1 &&& 31), rfl, rfl, ht9⟩) (fun q h => absurd h List.not_mem_nil) dX1_lesserEnd_3
set_option maxHeartbeats 4000000 in
set_option maxRecDepth 100000 in
theorem cX0_has_ct (l : Launch) (E : GE) (q : Nat) (w : Int32) (r b : Int64) (a : Int32)  : rdI l yX0_has wsX0_has ({ frames := 2, cells := 0, slots := 0, locals := 42 }) E [.ref q, .int a] [(q, .inr (1, [.int w, .long r, .long b]))] (b2i (fHas r b a)) := by
  refine Met.ofW (cc := cX0_has) (maxL := 2) (ret := (some .boolean)) (by decide) rfl ?_
  intro p e s m args below meth c s₁ B hml hv
  obtain ⟨rfl, hE, hP⟩ := hv
  have hx := B.exec
  have hb := B.bytes
  have hr := B.returns
  have hts := atoms_spec (ws := wsX0_has) B.pre
  have hown : s.vm.findClass RX0 = some m.cls := findClass_of_methodNamed B.named
  have hlocks := B.notSynchronized
  have hP : va_P E.1 vwCl [(q, .inr (1, [.int w, .long r, .long b]))] s.heap := hP
  have hl := lv_entry ([.ref q, .int a]) (n := 2) (Nat.le_of_ble_eq_true rfl)
  rw [lg_entry_eq]
  generalize (lg_sl ([.ref q, .int a]) ++ List.replicate (2 - (lg_sl ([.ref q, .int a])).length) Slot.unset).toArray = ls at hl ⊢
  have hl : lv_has ls 2 [(0, .ref q), (1, .int a)] := hl
  have hf_15 := hts (.fieldLink RX0 15 "LoopRegions$Edges" "right" "J") (by decide +kernel)
  have hf_19 := hts (.fieldLink RX0 19 "LoopRegions$Edges" "below" "J") (by decide +kernel)
  have hi_RX0 : ∀ w ∈ wsX00, w ∈ wsX0_has := by decide +kernel
  refine lv_iload_n hx hb dX0_has_0 rfl (lv_at hl 1 rfl) ?_
  refine crSi (As := [.int a]) (rest := []) ⟨hx, hb, hml, hown, hts⟩ hE (cX0_isBelow_ct l E a) (va_cwS 1 hts gX0_has_X0_isBelow rfl rfl rfl (by decide +kernel) ⟨Nat.le_of_ble_eq_true rfl, Nat.le_of_ble_eq_true rfl⟩) (fun k q h => by simp at h) rfl hl.1 rfl (Nat.le_of_ble_eq_true rfl) dX0_has_1 ⟨Nat.zero_le _, Nat.zero_le _⟩ ?_
  refine W_joinL (J := 18) (rest := []) (fun z9 => z9 = if fBelow a then b else r) (fun v_1 ev_1 => ?_) (fun K_4 => ?_)
  · skip
    refine lv_iload_n hx hb dX0_has_18 rfl (lv_at hl 1 rfl) ?_
    refine crSi (As := [.int a]) (rest := [.long v_1]) ⟨hx, hb, hml, hown, hts⟩ hE (cX1_lesserEnd_ct l E a) (va_cwS 1 hts gX0_has_X1_lesserEnd rfl rfl rfl (by decide +kernel) ⟨Nat.le_of_ble_eq_true rfl, Nat.le_of_ble_eq_true rfl⟩) (fun k q h => by simp at h) rfl hl.1 rfl (Nat.le_of_ble_eq_true rfl) dX0_has_19 ⟨Nat.zero_le _, Nat.zero_le _⟩ ?_
    refine crNl (As := [.int (fLess a)]) (rest := [.long v_1]) ⟨hx, hb, hml, hown, hts⟩ hE (cX5_only_ct l E (fLess a)) ⟨va_cnB 1 hts gX0_has_X5_only_n34 rfl rfl rfl (hE.2 _ (List.mem_of_getElem? (i := 1) rfl)) (hts (.initialized RX5) (by decide +kernel)) (by decide +kernel) ⟨Nat.le_of_ble_eq_true rfl, Nat.le_of_ble_eq_true rfl⟩, hts (.static yX5_only) (by decide +kernel), trivial⟩ (fun k q h => by simp at h) rfl hl.1 rfl (Nat.le_of_ble_eq_true rfl) dX0_has_22 ⟨Nat.zero_le _, Nat.zero_le _⟩ ?_
    refine lv_land hx hb dX0_has_25 ?_
    refine lv_lconst (v := 0) hx hb dX0_has_26 (by decide) ?_
    refine W.lcmp hx hb dX0_has_27 ?_
    refine lv_if_eq (tgt := 35) hx hb dX0_has_28 (by decide) (fun c_28 => ?_) (fun c_28 => ?_)
    · skip
      refine lv_iconst (v := 0) hx hb dX0_has_35 (by decide) ?_
      exact W.zret (v := 0) hx hb hr (rfl) (fun t9 ht9 _ => ⟨0, rfl, by rw [show fHas r b a = fHolds v_1 (fLess a) from by subst ev_1; rfl]; simp only [cmp0] at c_28; simp [b2i, fHolds, c_28], ht9⟩) (fun q h => absurd h List.not_mem_nil) dX0_has_36
    · skip
      refine lv_iconst (v := 1) hx hb dX0_has_31 (by decide) ?_
      refine lv_goto (tgt := 36) hx hb dX0_has_32 (by decide) ?_
      exact W.zret (v := 1) hx hb hr (rfl) (fun t9 ht9 _ => ⟨1, rfl, by rw [show fHas r b a = fHolds v_1 (fLess a) from by subst ev_1; rfl]; simp only [cmp0] at c_28; simp [b2i, fHolds, c_28], ht9⟩) (fun q h => absurd h List.not_mem_nil) dX0_has_36
  · skip
    refine lv_if_eq (tgt := 14) hx hb dX0_has_4 (by decide) (fun c_4 => ?_) (fun c_4 => ?_)
    · skip
      refine lv_aload_n hx hb dX0_has_14 rfl (lv_at hl 0 rfl) ?_
      refine va_get (D := E.1) (ci := 1) (v := .long r) (C := RX0) (T := TX0) (N := 3) hx hb hts hi_RX0 hown hE.1 hP 0 rfl rfl 1 (by decide) hf_15 (fun _ h9 => h9) rfl dX0_has_15 ?_
      exact K_4 _ (by simp only [b2i_eq0] at c_4; simp [c_4])
    · skip
      refine lv_aload_n hx hb dX0_has_7 rfl (lv_at hl 0 rfl) ?_
      refine va_get (D := E.1) (ci := 1) (v := .long b) (C := RX0) (T := TX0) (N := 3) hx hb hts hi_RX0 hown hE.1 hP 0 rfl rfl 2 (by decide) hf_19 (fun _ h9 => h9) rfl dX0_has_8 ?_
      refine lv_goto (tgt := 18) hx hb dX0_has_11 (by decide) ?_
      exact K_4 _ (by simp only [b2i_eq0] at c_4; simp [c_4])
set_option maxHeartbeats 4000000 in
set_option maxRecDepth 100000 in
theorem cX0_left_ct (l : Launch) (E : GE) (q : Nat) (w : Int32) (r b : Int64)  : rdL l yX0_left wsX0_left ({ frames := 0, cells := 0, slots := 0, locals := 0 }) E [.ref q] [(q, .inr (1, [.int w, .long r, .long b]))] (fLeft r) := by
  refine Met.ofW (cc := cX0_left) (maxL := 1) (ret := (some .long)) (by decide) rfl ?_
  intro p e s m args below meth c s₁ B hml hv
  obtain ⟨rfl, hE, hP⟩ := hv
  have hx := B.exec
  have hb := B.bytes
  have hr := B.returns
  have hts := atoms_spec (ws := wsX0_left) B.pre
  have hown : s.vm.findClass RX0 = some m.cls := findClass_of_methodNamed B.named
  have hlocks := B.notSynchronized
  have hP : va_P E.1 vwCl [(q, .inr (1, [.int w, .long r, .long b]))] s.heap := hP
  have hl := lv_entry ([.ref q]) (n := 1) (Nat.le_of_ble_eq_true rfl)
  rw [lg_entry_eq]
  generalize (lg_sl ([.ref q]) ++ List.replicate (1 - (lg_sl ([.ref q])).length) Slot.unset).toArray = ls at hl ⊢
  have hl : lv_has ls 1 [(0, .ref q)] := hl
  have hf_15 := hts (.fieldLink RX0 15 "LoopRegions$Edges" "right" "J") (by decide +kernel)
  have hi_RX0 : ∀ w ∈ wsX00, w ∈ wsX0_left := by decide +kernel
  refine lv_aload_n hx hb dX0_left_0 rfl (lv_at hl 0 rfl) ?_
  refine va_get (D := E.1) (ci := 1) (v := .long r) (C := RX0) (T := TX0) (N := 3) hx hb hts hi_RX0 hown hE.1 hP 0 rfl rfl 1 (by decide) hf_15 (fun _ h9 => h9) rfl dX0_left_1 ?_
  refine lv_iconst (v := 1) hx hb dX0_left_4 (by decide) ?_
  refine lv_lshl hx hb dX0_left_5 rfl ?_
  exact W.lret (v := r <<< ((1 : Int32).toInt64 &&& 63)) hx hb hr (fun t9 ht9 _ => ⟨r <<< ((1 : Int32).toInt64 &&& 63), rfl, rfl, ht9⟩) (fun q h => absurd h List.not_mem_nil) dX0_left_6
set_option maxHeartbeats 4000000 in
set_option maxRecDepth 100000 in
theorem cX0_above_ct (l : Launch) (E : GE) (q : Nat) (w : Int32) (r b : Int64)  : rdL l yX0_above wsX0_above ({ frames := 0, cells := 0, slots := 0, locals := 0 }) E [.ref q] [(q, .inr (1, [.int w, .long r, .long b]))] (fAbove w b) := by
  refine Met.ofW (cc := cX0_above) (maxL := 1) (ret := (some .long)) (by decide) rfl ?_
  intro p e s m args below meth c s₁ B hml hv
  obtain ⟨rfl, hE, hP⟩ := hv
  have hx := B.exec
  have hb := B.bytes
  have hr := B.returns
  have hts := atoms_spec (ws := wsX0_above) B.pre
  have hown : s.vm.findClass RX0 = some m.cls := findClass_of_methodNamed B.named
  have hlocks := B.notSynchronized
  have hP : va_P E.1 vwCl [(q, .inr (1, [.int w, .long r, .long b]))] s.heap := hP
  have hl := lv_entry ([.ref q]) (n := 1) (Nat.le_of_ble_eq_true rfl)
  rw [lg_entry_eq]
  generalize (lg_sl ([.ref q]) ++ List.replicate (1 - (lg_sl ([.ref q])).length) Slot.unset).toArray = ls at hl ⊢
  have hl : lv_has ls 1 [(0, .ref q)] := hl
  have hf_19 := hts (.fieldLink RX0 19 "LoopRegions$Edges" "below" "J") (by decide +kernel)
  have hf_9 := hts (.fieldLink RX0 9 "LoopRegions$Edges" "width" "I") (by decide +kernel)
  have hi_RX0 : ∀ w ∈ wsX00, w ∈ wsX0_above := by decide +kernel
  refine lv_aload_n hx hb dX0_above_0 rfl (lv_at hl 0 rfl) ?_
  refine va_get (D := E.1) (ci := 1) (v := .long b) (C := RX0) (T := TX0) (N := 3) hx hb hts hi_RX0 hown hE.1 hP 0 rfl rfl 2 (by decide) hf_19 (fun _ h9 => h9) rfl dX0_above_1 ?_
  refine lv_aload_n hx hb dX0_above_4 rfl (lv_at hl 0 rfl) ?_
  refine va_get (D := E.1) (ci := 1) (v := .int w) (C := RX0) (T := TX0) (N := 3) hx hb hts hi_RX0 hown hE.1 hP 0 rfl rfl 0 (by decide) hf_9 (fun _ h9 => h9) rfl dX0_above_5 ?_
  refine lv_lshl hx hb dX0_above_8 rfl ?_
  exact W.lret (v := b <<< ((w : Int32).toInt64 &&& 63)) hx hb hr (fun t9 ht9 _ => ⟨b <<< ((w : Int32).toInt64 &&& 63), rfl, rfl, ht9⟩) (fun q h => absurd h List.not_mem_nil) dX0_above_9
set_option maxHeartbeats 4000000 in
set_option maxRecDepth 100000 in
theorem cX0_countAt_ct (l : Launch) (E : GE) (q : Nat) (w : Int32) (r b : Int64) (a : Int32)  : rdI l yX0_countAt wsX0_countAt ({ frames := 1, cells := 0, slots := 0, locals := 21 }) E [.ref q, .int a] [(q, .inr (1, [.int w, .long r, .long b]))] (fCount w r b a) := by
  refine Met.ofW (cc := cX0_countAt) (maxL := 4) (ret := (some .int)) (by decide) rfl ?_
  intro p e s m args below meth c s₁ B hml hv
  obtain ⟨rfl, hE, hP⟩ := hv
  have hx := B.exec
  have hb := B.bytes
  have hr := B.returns
  have hts := atoms_spec (ws := wsX0_countAt) B.pre
  have hown : s.vm.findClass RX0 = some m.cls := findClass_of_methodNamed B.named
  have hlocks := B.notSynchronized
  have hP : va_P E.1 vwCl [(q, .inr (1, [.int w, .long r, .long b]))] s.heap := hP
  have hl := lv_entry ([.ref q, .int a]) (n := 4) (Nat.le_of_ble_eq_true rfl)
  rw [lg_entry_eq]
  generalize (lg_sl ([.ref q, .int a]) ++ List.replicate (4 - (lg_sl ([.ref q, .int a])).length) Slot.unset).toArray = ls at hl ⊢
  have hl : lv_has ls 4 [(0, .ref q), (1, .int a)] := hl
  have hf_15 := hts (.fieldLink RX0 15 "LoopRegions$Edges" "right" "J") (by decide +kernel)
  have hf_19 := hts (.fieldLink RX0 19 "LoopRegions$Edges" "below" "J") (by decide +kernel)
  have hi_RX0 : ∀ w ∈ wsX00, w ∈ wsX0_countAt := by decide +kernel
  refine lv_iload_n hx hb dX0_countAt_0 rfl (lv_at hl 1 rfl) ?_
  refine crNl (As := [.int a]) (rest := []) ⟨hx, hb, hml, hown, hts⟩ hE (cX5_only_ct l E a) ⟨va_cnB 1 hts gX0_countAt_X5_only_n34 rfl rfl rfl (hE.2 _ (List.mem_of_getElem? (i := 1) rfl)) (hts (.initialized RX5) (by decide +kernel)) (by decide +kernel) ⟨Nat.le_of_ble_eq_true rfl, Nat.le_of_ble_eq_true rfl⟩, hts (.static yX5_only) (by decide +kernel), trivial⟩ (fun k q h => by simp at h) rfl hl.1 rfl (Nat.le_of_ble_eq_true rfl) dX0_countAt_1 ⟨Nat.zero_le _, Nat.zero_le _⟩ ?_
  refine lv_topl (fun x_1 ex_1 => ?_)
  refine lv_lstore_n (lv' := [(2, .long x_1), (0, .ref q), (1, .int a)]) hx hb dX0_countAt_4 rfl hl (by decide) rfl (fun ls hl => ?_)
  refine lv_aload_n hx hb dX0_countAt_5 rfl (lv_at hl 1 rfl) ?_
  refine va_get (D := E.1) (ci := 1) (v := .long r) (C := RX0) (T := TX0) (N := 3) hx hb hts hi_RX0 hown hE.1 hP 0 rfl rfl 1 (by decide) hf_15 (fun _ h9 => h9) rfl dX0_countAt_6 ?_
  refine lv_lload_n hx hb dX0_countAt_9 rfl (lv_at hl 0 rfl) ?_
  refine lv_land hx hb dX0_countAt_10 ?_
  refine crSi (As := [.long (r &&& x_1)]) (rest := []) ⟨hx, hb, hml, hown, hts⟩ hE (cJ13_bitCount_95d88_ct l E (r &&& x_1)) (va_cwS 1 hts gX0_countAt_J13_bitCount_95d88 rfl rfl rfl (by decide +kernel) ⟨Nat.le_of_ble_eq_true rfl, Nat.le_of_ble_eq_true rfl⟩) (fun k q h => by simp at h) rfl hl.1 rfl (Nat.le_of_ble_eq_true rfl) dX0_countAt_11 ⟨Nat.zero_le _, Nat.zero_le _⟩ ?_
  refine lv_aload_n hx hb dX0_countAt_14 rfl (lv_at hl 1 rfl) ?_
  refine crVl (As := []) (rest := [.int (fBc (r &&& x_1))]) ⟨hx, hb, hml, hown, hts⟩ hE (cX0_left_ct l E q w r b) (cwV 0 hts gX0_countAt_X0_left rfl rfl rfl (by decide +kernel) ⟨Nat.le_of_ble_eq_true rfl, Nat.le_of_ble_eq_true rfl⟩) (hP.sub (ws' := [(q, .inr (1, [.int w, .long r, .long b]))]) [0] rfl) (va_recv hE.1 hP (ci := 1) (q0 := 0) rfl rfl) rfl hl.1 rfl (Nat.le_of_ble_eq_true rfl) dX0_countAt_15 ⟨Nat.zero_le _, Nat.zero_le _⟩ ?_
  refine lv_lload_n hx hb dX0_countAt_18 rfl (lv_at hl 0 rfl) ?_
  refine lv_land hx hb dX0_countAt_19 ?_
  refine crSi (As := [.long ((fLeft r) &&& x_1)]) (rest := [.int (fBc (r &&& x_1))]) ⟨hx, hb, hml, hown, hts⟩ hE (cJ13_bitCount_95d88_ct l E ((fLeft r) &&& x_1)) (va_cwS 1 hts gX0_countAt_J13_bitCount_95d88 rfl rfl rfl (by decide +kernel) ⟨Nat.le_of_ble_eq_true rfl, Nat.le_of_ble_eq_true rfl⟩) (fun k q h => by simp at h) rfl hl.1 rfl (Nat.le_of_ble_eq_true rfl) dX0_countAt_20 ⟨Nat.zero_le _, Nat.zero_le _⟩ ?_
  refine lv_iadd hx hb dX0_countAt_23 ?_
  refine lv_aload_n hx hb dX0_countAt_24 rfl (lv_at hl 1 rfl) ?_
  refine va_get (D := E.1) (ci := 1) (v := .long b) (C := RX0) (T := TX0) (N := 3) hx hb hts hi_RX0 hown hE.1 hP 0 rfl rfl 2 (by decide) hf_19 (fun _ h9 => h9) rfl dX0_countAt_25 ?_
  refine lv_lload_n hx hb dX0_countAt_28 rfl (lv_at hl 0 rfl) ?_
  refine lv_land hx hb dX0_countAt_29 ?_
  refine crSi (As := [.long (b &&& x_1)]) (rest := [.int ((fBc (r &&& x_1)) + (fBc ((fLeft r) &&& x_1)))]) ⟨hx, hb, hml, hown, hts⟩ hE (cJ13_bitCount_95d88_ct l E (b &&& x_1)) (va_cwS 1 hts gX0_countAt_J13_bitCount_95d88 rfl rfl rfl (by decide +kernel) ⟨Nat.le_of_ble_eq_true rfl, Nat.le_of_ble_eq_true rfl⟩) (fun k q h => by simp at h) rfl hl.1 rfl (Nat.le_of_ble_eq_true rfl) dX0_countAt_30 ⟨Nat.zero_le _, Nat.zero_le _⟩ ?_
  refine lv_iadd hx hb dX0_countAt_33 ?_
  refine lv_aload_n hx hb dX0_countAt_34 rfl (lv_at hl 1 rfl) ?_
  refine crVl (As := []) (rest := [.int (((fBc (r &&& x_1)) + (fBc ((fLeft r) &&& x_1))) + (fBc (b &&& x_1)))]) ⟨hx, hb, hml, hown, hts⟩ hE (cX0_above_ct l E q w r b) (cwV 0 hts gX0_countAt_X0_above rfl rfl rfl (by decide +kernel) ⟨Nat.le_of_ble_eq_true rfl, Nat.le_of_ble_eq_true rfl⟩) (hP.sub (ws' := [(q, .inr (1, [.int w, .long r, .long b]))]) [0] rfl) (va_recv hE.1 hP (ci := 1) (q0 := 0) rfl rfl) rfl hl.1 rfl (Nat.le_of_ble_eq_true rfl) dX0_countAt_35 ⟨Nat.zero_le _, Nat.zero_le _⟩ ?_
  refine lv_lload_n hx hb dX0_countAt_38 rfl (lv_at hl 0 rfl) ?_
  refine lv_land hx hb dX0_countAt_39 ?_
  refine crSi (As := [.long ((fAbove w b) &&& x_1)]) (rest := [.int (((fBc (r &&& x_1)) + (fBc ((fLeft r) &&& x_1))) + (fBc (b &&& x_1)))]) ⟨hx, hb, hml, hown, hts⟩ hE (cJ13_bitCount_95d88_ct l E ((fAbove w b) &&& x_1)) (va_cwS 1 hts gX0_countAt_J13_bitCount_95d88 rfl rfl rfl (by decide +kernel) ⟨Nat.le_of_ble_eq_true rfl, Nat.le_of_ble_eq_true rfl⟩) (fun k q h => by simp at h) rfl hl.1 rfl (Nat.le_of_ble_eq_true rfl) dX0_countAt_40 ⟨Nat.zero_le _, Nat.zero_le _⟩ ?_
  refine lv_iadd hx hb dX0_countAt_43 ?_
  exact W.iret (v := (((fBc (r &&& x_1)) + (fBc ((fLeft r) &&& x_1))) + (fBc (b &&& x_1))) + (fBc ((fAbove w b) &&& x_1))) hx hb hr (fun t9 ht9 _ => ⟨(((fBc (r &&& x_1)) + (fBc ((fLeft r) &&& x_1))) + (fBc (b &&& x_1))) + (fBc ((fAbove w b) &&& x_1)), rfl, by subst_vars; rfl, ht9⟩) (fun q h => absurd h List.not_mem_nil) dX0_countAt_44
set_option maxHeartbeats 4000000 in
set_option maxRecDepth 100000 in
theorem cX0_cellsWithOne_ct (l : Launch) (E : GE) (q : Nat) (w : Int32) (r b : Int64)  : rdL l yX0_cellsWithOne wsX0_cellsWithOne ({ frames := 1, cells := 0, slots := 0, locals := 20 }) E [.ref q] [(q, .inr (1, [.int w, .long r, .long b]))] (fOne w r b) := by
  refine Met.ofW (cc := cX0_cellsWithOne) (maxL := 1) (ret := (some .long)) (by decide) rfl ?_
  intro p e s m args below meth c s₁ B hml hv
  obtain ⟨rfl, hE, hP⟩ := hv
  have hx := B.exec
  have hb := B.bytes
  have hr := B.returns
  have hts := atoms_spec (ws := wsX0_cellsWithOne) B.pre
  have hown : s.vm.findClass RX0 = some m.cls := findClass_of_methodNamed B.named
  have hlocks := B.notSynchronized
  have hP : va_P E.1 vwCl [(q, .inr (1, [.int w, .long r, .long b]))] s.heap := hP
  have hl := lv_entry ([.ref q]) (n := 1) (Nat.le_of_ble_eq_true rfl)
  rw [lg_entry_eq]
  generalize (lg_sl ([.ref q]) ++ List.replicate (1 - (lg_sl ([.ref q])).length) Slot.unset).toArray = ls at hl ⊢
  have hl : lv_has ls 1 [(0, .ref q)] := hl
  have hf_15 := hts (.fieldLink RX0 15 "LoopRegions$Edges" "right" "J") (by decide +kernel)
  have hf_19 := hts (.fieldLink RX0 19 "LoopRegions$Edges" "below" "J") (by decide +kernel)
  have hi_RX0 : ∀ w ∈ wsX00, w ∈ wsX0_cellsWithOne := by decide +kernel
  refine lv_aload_n hx hb dX0_cellsWithOne_0 rfl (lv_at hl 0 rfl) ?_
  refine va_get (D := E.1) (ci := 1) (v := .long r) (C := RX0) (T := TX0) (N := 3) hx hb hts hi_RX0 hown hE.1 hP 0 rfl rfl 1 (by decide) hf_15 (fun _ h9 => h9) rfl dX0_cellsWithOne_1 ?_
  refine lv_aload_n hx hb dX0_cellsWithOne_4 rfl (lv_at hl 0 rfl) ?_
  refine crVl (As := []) (rest := [.long r]) ⟨hx, hb, hml, hown, hts⟩ hE (cX0_left_ct l E q w r b) (cwV 0 hts gX0_cellsWithOne_X0_left rfl rfl rfl (by decide +kernel) ⟨Nat.le_of_ble_eq_true rfl, Nat.le_of_ble_eq_true rfl⟩) (hP.sub (ws' := [(q, .inr (1, [.int w, .long r, .long b]))]) [0] rfl) (va_recv hE.1 hP (ci := 1) (q0 := 0) rfl rfl) rfl hl.1 rfl (Nat.le_of_ble_eq_true rfl) dX0_cellsWithOne_5 ⟨Nat.zero_le _, Nat.zero_le _⟩ ?_
  refine lv_lor hx hb dX0_cellsWithOne_8 ?_
  refine lv_aload_n hx hb dX0_cellsWithOne_9 rfl (lv_at hl 0 rfl) ?_
  refine va_get (D := E.1) (ci := 1) (v := .long b) (C := RX0) (T := TX0) (N := 3) hx hb hts hi_RX0 hown hE.1 hP 0 rfl rfl 2 (by decide) hf_19 (fun _ h9 => h9) rfl dX0_cellsWithOne_10 ?_
  refine lv_lor hx hb dX0_cellsWithOne_13 ?_
  refine lv_aload_n hx hb dX0_cellsWithOne_14 rfl (lv_at hl 0 rfl) ?_
  refine crVl (As := []) (rest := [.long ((r ||| (fLeft r)) ||| b)]) ⟨hx, hb, hml, hown, hts⟩ hE (cX0_above_ct l E q w r b) (cwV 0 hts gX0_cellsWithOne_X0_above rfl rfl rfl (by decide +kernel) ⟨Nat.le_of_ble_eq_true rfl, Nat.le_of_ble_eq_true rfl⟩) (hP.sub (ws' := [(q, .inr (1, [.int w, .long r, .long b]))]) [0] rfl) (va_recv hE.1 hP (ci := 1) (q0 := 0) rfl rfl) rfl hl.1 rfl (Nat.le_of_ble_eq_true rfl) dX0_cellsWithOne_15 ⟨Nat.zero_le _, Nat.zero_le _⟩ ?_
  refine lv_lor hx hb dX0_cellsWithOne_18 ?_
  exact W.lret (v := ((r ||| (fLeft r)) ||| b) ||| (fAbove w b)) hx hb hr (fun t9 ht9 _ => ⟨((r ||| (fLeft r)) ||| b) ||| (fAbove w b), rfl, rfl, ht9⟩) (fun q h => absurd h List.not_mem_nil) dX0_cellsWithOne_19
set_option maxHeartbeats 4000000 in
set_option maxRecDepth 100000 in
theorem cX0_cellsWithTwo_ct (l : Launch) (E : GE) (q : Nat) (w : Int32) (r b : Int64)  : rdL l yX0_cellsWithTwo wsX0_cellsWithTwo ({ frames := 1, cells := 0, slots := 0, locals := 20 }) E [.ref q] [(q, .inr (1, [.int w, .long r, .long b]))] (fTwo w r b) := by
  refine Met.ofW (cc := cX0_cellsWithTwo) (maxL := 1) (ret := (some .long)) (by decide) rfl ?_
  intro p e s m args below meth c s₁ B hml hv
  obtain ⟨rfl, hE, hP⟩ := hv
  have hx := B.exec
  have hb := B.bytes
  have hr := B.returns
  have hts := atoms_spec (ws := wsX0_cellsWithTwo) B.pre
  have hown : s.vm.findClass RX0 = some m.cls := findClass_of_methodNamed B.named
  have hlocks := B.notSynchronized
  have hP : va_P E.1 vwCl [(q, .inr (1, [.int w, .long r, .long b]))] s.heap := hP
  have hl := lv_entry ([.ref q]) (n := 1) (Nat.le_of_ble_eq_true rfl)
  rw [lg_entry_eq]
  generalize (lg_sl ([.ref q]) ++ List.replicate (1 - (lg_sl ([.ref q])).length) Slot.unset).toArray = ls at hl ⊢
  have hl : lv_has ls 1 [(0, .ref q)] := hl
  have hf_15 := hts (.fieldLink RX0 15 "LoopRegions$Edges" "right" "J") (by decide +kernel)
  have hf_19 := hts (.fieldLink RX0 19 "LoopRegions$Edges" "below" "J") (by decide +kernel)
  have hi_RX0 : ∀ w ∈ wsX00, w ∈ wsX0_cellsWithTwo := by decide +kernel
  refine lv_aload_n hx hb dX0_cellsWithTwo_0 rfl (lv_at hl 0 rfl) ?_
  refine va_get (D := E.1) (ci := 1) (v := .long r) (C := RX0) (T := TX0) (N := 3) hx hb hts hi_RX0 hown hE.1 hP 0 rfl rfl 1 (by decide) hf_15 (fun _ h9 => h9) rfl dX0_cellsWithTwo_1 ?_
  refine lv_aload_n hx hb dX0_cellsWithTwo_4 rfl (lv_at hl 0 rfl) ?_
  refine crVl (As := []) (rest := [.long r]) ⟨hx, hb, hml, hown, hts⟩ hE (cX0_left_ct l E q w r b) (cwV 0 hts gX0_cellsWithTwo_X0_left rfl rfl rfl (by decide +kernel) ⟨Nat.le_of_ble_eq_true rfl, Nat.le_of_ble_eq_true rfl⟩) (hP.sub (ws' := [(q, .inr (1, [.int w, .long r, .long b]))]) [0] rfl) (va_recv hE.1 hP (ci := 1) (q0 := 0) rfl rfl) rfl hl.1 rfl (Nat.le_of_ble_eq_true rfl) dX0_cellsWithTwo_5 ⟨Nat.zero_le _, Nat.zero_le _⟩ ?_
  refine lv_land hx hb dX0_cellsWithTwo_8 ?_
  refine lv_aload_n hx hb dX0_cellsWithTwo_9 rfl (lv_at hl 0 rfl) ?_
  refine va_get (D := E.1) (ci := 1) (v := .long b) (C := RX0) (T := TX0) (N := 3) hx hb hts hi_RX0 hown hE.1 hP 0 rfl rfl 2 (by decide) hf_19 (fun _ h9 => h9) rfl dX0_cellsWithTwo_10 ?_
  refine lv_aload_n hx hb dX0_cellsWithTwo_13 rfl (lv_at hl 0 rfl) ?_
  refine crVl (As := []) (rest := [.long b, .long (r &&& (fLeft r))]) ⟨hx, hb, hml, hown, hts⟩ hE (cX0_above_ct l E q w r b) (cwV 0 hts gX0_cellsWithTwo_X0_above rfl rfl rfl (by decide +kernel) ⟨Nat.le_of_ble_eq_true rfl, Nat.le_of_ble_eq_true rfl⟩) (hP.sub (ws' := [(q, .inr (1, [.int w, .long r, .long b]))]) [0] rfl) (va_recv hE.1 hP (ci := 1) (q0 := 0) rfl rfl) rfl hl.1 rfl (Nat.le_of_ble_eq_true rfl) dX0_cellsWithTwo_14 ⟨Nat.zero_le _, Nat.zero_le _⟩ ?_
  refine lv_land hx hb dX0_cellsWithTwo_17 ?_
  refine lv_lor hx hb dX0_cellsWithTwo_18 ?_
  refine lv_aload_n hx hb dX0_cellsWithTwo_19 rfl (lv_at hl 0 rfl) ?_
  refine va_get (D := E.1) (ci := 1) (v := .long r) (C := RX0) (T := TX0) (N := 3) hx hb hts hi_RX0 hown hE.1 hP 0 rfl rfl 1 (by decide) hf_15 (fun _ h9 => h9) rfl dX0_cellsWithTwo_20 ?_
  refine lv_aload_n hx hb dX0_cellsWithTwo_23 rfl (lv_at hl 0 rfl) ?_
  refine crVl (As := []) (rest := [.long r, .long ((r &&& (fLeft r)) ||| (b &&& (fAbove w b)))]) ⟨hx, hb, hml, hown, hts⟩ hE (cX0_left_ct l E q w r b) (cwV 0 hts gX0_cellsWithTwo_X0_left rfl rfl rfl (by decide +kernel) ⟨Nat.le_of_ble_eq_true rfl, Nat.le_of_ble_eq_true rfl⟩) (hP.sub (ws' := [(q, .inr (1, [.int w, .long r, .long b]))]) [0] rfl) (va_recv hE.1 hP (ci := 1) (q0 := 0) rfl rfl) rfl hl.1 rfl (Nat.le_of_ble_eq_true rfl) dX0_cellsWithTwo_24 ⟨Nat.zero_le _, Nat.zero_le _⟩ ?_
  refine lv_lor hx hb dX0_cellsWithTwo_27 ?_
  refine lv_aload_n hx hb dX0_cellsWithTwo_28 rfl (lv_at hl 0 rfl) ?_
  refine va_get (D := E.1) (ci := 1) (v := .long b) (C := RX0) (T := TX0) (N := 3) hx hb hts hi_RX0 hown hE.1 hP 0 rfl rfl 2 (by decide) hf_19 (fun _ h9 => h9) rfl dX0_cellsWithTwo_29 ?_
  refine lv_aload_n hx hb dX0_cellsWithTwo_32 rfl (lv_at hl 0 rfl) ?_
  refine crVl (As := []) (rest := [.long b, .long (r ||| (fLeft r)), .long ((r &&& (fLeft r)) ||| (b &&& (fAbove w b)))]) ⟨hx, hb, hml, hown, hts⟩ hE (cX0_above_ct l E q w r b) (cwV 0 hts gX0_cellsWithTwo_X0_above rfl rfl rfl (by decide +kernel) ⟨Nat.le_of_ble_eq_true rfl, Nat.le_of_ble_eq_true rfl⟩) (hP.sub (ws' := [(q, .inr (1, [.int w, .long r, .long b]))]) [0] rfl) (va_recv hE.1 hP (ci := 1) (q0 := 0) rfl rfl) rfl hl.1 rfl (Nat.le_of_ble_eq_true rfl) dX0_cellsWithTwo_33 ⟨Nat.zero_le _, Nat.zero_le _⟩ ?_
  refine lv_lor hx hb dX0_cellsWithTwo_36 ?_
  refine lv_land hx hb dX0_cellsWithTwo_37 ?_
  refine lv_lor hx hb dX0_cellsWithTwo_38 ?_
  exact W.lret (v := ((r &&& (fLeft r)) ||| (b &&& (fAbove w b))) ||| ((r ||| (fLeft r)) &&& (b ||| (fAbove w b)))) hx hb hr (fun t9 ht9 _ => ⟨((r &&& (fLeft r)) ||| (b &&& (fAbove w b))) ||| ((r ||| (fLeft r)) &&& (b ||| (fAbove w b))), rfl, rfl, ht9⟩) (fun q h => absurd h List.not_mem_nil) dX0_cellsWithTwo_39
set_option maxHeartbeats 4000000 in
set_option maxRecDepth 100000 in
theorem cX0_cellsWithThree_ct (l : Launch) (E : GE) (q : Nat) (w : Int32) (r b : Int64)  : rdL l yX0_cellsWithThree wsX0_cellsWithThree ({ frames := 1, cells := 0, slots := 0, locals := 20 }) E [.ref q] [(q, .inr (1, [.int w, .long r, .long b]))] (fThree w r b) := by
  refine Met.ofW (cc := cX0_cellsWithThree) (maxL := 1) (ret := (some .long)) (by decide) rfl ?_
  intro p e s m args below meth c s₁ B hml hv
  obtain ⟨rfl, hE, hP⟩ := hv
  have hx := B.exec
  have hb := B.bytes
  have hr := B.returns
  have hts := atoms_spec (ws := wsX0_cellsWithThree) B.pre
  have hown : s.vm.findClass RX0 = some m.cls := findClass_of_methodNamed B.named
  have hlocks := B.notSynchronized
  have hP : va_P E.1 vwCl [(q, .inr (1, [.int w, .long r, .long b]))] s.heap := hP
  have hl := lv_entry ([.ref q]) (n := 1) (Nat.le_of_ble_eq_true rfl)
  rw [lg_entry_eq]
  generalize (lg_sl ([.ref q]) ++ List.replicate (1 - (lg_sl ([.ref q])).length) Slot.unset).toArray = ls at hl ⊢
  have hl : lv_has ls 1 [(0, .ref q)] := hl
  have hf_15 := hts (.fieldLink RX0 15 "LoopRegions$Edges" "right" "J") (by decide +kernel)
  have hf_19 := hts (.fieldLink RX0 19 "LoopRegions$Edges" "below" "J") (by decide +kernel)
  have hi_RX0 : ∀ w ∈ wsX00, w ∈ wsX0_cellsWithThree := by decide +kernel
  refine lv_aload_n hx hb dX0_cellsWithThree_0 rfl (lv_at hl 0 rfl) ?_
  refine va_get (D := E.1) (ci := 1) (v := .long r) (C := RX0) (T := TX0) (N := 3) hx hb hts hi_RX0 hown hE.1 hP 0 rfl rfl 1 (by decide) hf_15 (fun _ h9 => h9) rfl dX0_cellsWithThree_1 ?_
  refine lv_aload_n hx hb dX0_cellsWithThree_4 rfl (lv_at hl 0 rfl) ?_
  refine crVl (As := []) (rest := [.long r]) ⟨hx, hb, hml, hown, hts⟩ hE (cX0_left_ct l E q w r b) (cwV 0 hts gX0_cellsWithThree_X0_left rfl rfl rfl (by decide +kernel) ⟨Nat.le_of_ble_eq_true rfl, Nat.le_of_ble_eq_true rfl⟩) (hP.sub (ws' := [(q, .inr (1, [.int w, .long r, .long b]))]) [0] rfl) (va_recv hE.1 hP (ci := 1) (q0 := 0) rfl rfl) rfl hl.1 rfl (Nat.le_of_ble_eq_true rfl) dX0_cellsWithThree_5 ⟨Nat.zero_le _, Nat.zero_le _⟩ ?_
  refine lv_land hx hb dX0_cellsWithThree_8 ?_
  refine lv_aload_n hx hb dX0_cellsWithThree_9 rfl (lv_at hl 0 rfl) ?_
  refine va_get (D := E.1) (ci := 1) (v := .long b) (C := RX0) (T := TX0) (N := 3) hx hb hts hi_RX0 hown hE.1 hP 0 rfl rfl 2 (by decide) hf_19 (fun _ h9 => h9) rfl dX0_cellsWithThree_10 ?_
  refine lv_aload_n hx hb dX0_cellsWithThree_13 rfl (lv_at hl 0 rfl) ?_
  refine crVl (As := []) (rest := [.long b, .long (r &&& (fLeft r))]) ⟨hx, hb, hml, hown, hts⟩ hE (cX0_above_ct l E q w r b) (cwV 0 hts gX0_cellsWithThree_X0_above rfl rfl rfl (by decide +kernel) ⟨Nat.le_of_ble_eq_true rfl, Nat.le_of_ble_eq_true rfl⟩) (hP.sub (ws' := [(q, .inr (1, [.int w, .long r, .long b]))]) [0] rfl) (va_recv hE.1 hP (ci := 1) (q0 := 0) rfl rfl) rfl hl.1 rfl (Nat.le_of_ble_eq_true rfl) dX0_cellsWithThree_14 ⟨Nat.zero_le _, Nat.zero_le _⟩ ?_
  refine lv_lor hx hb dX0_cellsWithThree_17 ?_
  refine lv_land hx hb dX0_cellsWithThree_18 ?_
  refine lv_aload_n hx hb dX0_cellsWithThree_19 rfl (lv_at hl 0 rfl) ?_
  refine va_get (D := E.1) (ci := 1) (v := .long b) (C := RX0) (T := TX0) (N := 3) hx hb hts hi_RX0 hown hE.1 hP 0 rfl rfl 2 (by decide) hf_19 (fun _ h9 => h9) rfl dX0_cellsWithThree_20 ?_
  refine lv_aload_n hx hb dX0_cellsWithThree_23 rfl (lv_at hl 0 rfl) ?_
  refine crVl (As := []) (rest := [.long b, .long ((r &&& (fLeft r)) &&& (b ||| (fAbove w b)))]) ⟨hx, hb, hml, hown, hts⟩ hE (cX0_above_ct l E q w r b) (cwV 0 hts gX0_cellsWithThree_X0_above rfl rfl rfl (by decide +kernel) ⟨Nat.le_of_ble_eq_true rfl, Nat.le_of_ble_eq_true rfl⟩) (hP.sub (ws' := [(q, .inr (1, [.int w, .long r, .long b]))]) [0] rfl) (va_recv hE.1 hP (ci := 1) (q0 := 0) rfl rfl) rfl hl.1 rfl (Nat.le_of_ble_eq_true rfl) dX0_cellsWithThree_24 ⟨Nat.zero_le _, Nat.zero_le _⟩ ?_
  refine lv_land hx hb dX0_cellsWithThree_27 ?_
  refine lv_aload_n hx hb dX0_cellsWithThree_28 rfl (lv_at hl 0 rfl) ?_
  refine va_get (D := E.1) (ci := 1) (v := .long r) (C := RX0) (T := TX0) (N := 3) hx hb hts hi_RX0 hown hE.1 hP 0 rfl rfl 1 (by decide) hf_15 (fun _ h9 => h9) rfl dX0_cellsWithThree_29 ?_
  refine lv_aload_n hx hb dX0_cellsWithThree_32 rfl (lv_at hl 0 rfl) ?_
  refine crVl (As := []) (rest := [.long r, .long (b &&& (fAbove w b)), .long ((r &&& (fLeft r)) &&& (b ||| (fAbove w b)))]) ⟨hx, hb, hml, hown, hts⟩ hE (cX0_left_ct l E q w r b) (cwV 0 hts gX0_cellsWithThree_X0_left rfl rfl rfl (by decide +kernel) ⟨Nat.le_of_ble_eq_true rfl, Nat.le_of_ble_eq_true rfl⟩) (hP.sub (ws' := [(q, .inr (1, [.int w, .long r, .long b]))]) [0] rfl) (va_recv hE.1 hP (ci := 1) (q0 := 0) rfl rfl) rfl hl.1 rfl (Nat.le_of_ble_eq_true rfl) dX0_cellsWithThree_33 ⟨Nat.zero_le _, Nat.zero_le _⟩ ?_
  refine lv_lor hx hb dX0_cellsWithThree_36 ?_
  refine lv_land hx hb dX0_cellsWithThree_37 ?_
  refine lv_lor hx hb dX0_cellsWithThree_38 ?_
  exact W.lret (v := ((r &&& (fLeft r)) &&& (b ||| (fAbove w b))) ||| ((b &&& (fAbove w b)) &&& (r ||| (fLeft r)))) hx hb hr (fun t9 ht9 _ => ⟨((r &&& (fLeft r)) &&& (b ||| (fAbove w b))) ||| ((b &&& (fAbove w b)) &&& (r ||| (fLeft r))), rfl, rfl, ht9⟩) (fun q h => absurd h List.not_mem_nil) dX0_cellsWithThree_39
set_option maxHeartbeats 4000000 in
set_option maxRecDepth 100000 in
theorem cX0_spread_ct (l : Launch) (E : GE) (q : Nat) (w : Int32) (r b : Int64) (x : Int64)  : rdL l yX0_spread wsX0_spread ({ frames := 0, cells := 0, slots := 0, locals := 0 }) E [.ref q, .long x] [(q, .inr (1, [.int w, .long r, .long b]))] (fSpread w r b x) := by
  refine Met.ofW (cc := cX0_spread) (maxL := 3) (ret := (some .long)) (by decide) rfl ?_
  intro p e s m args below meth c s₁ B hml hv
  obtain ⟨rfl, hE, hP⟩ := hv
  have hx := B.exec
  have hb := B.bytes
  have hr := B.returns
  have hts := atoms_spec (ws := wsX0_spread) B.pre
  have hown : s.vm.findClass RX0 = some m.cls := findClass_of_methodNamed B.named
  have hlocks := B.notSynchronized
  have hP : va_P E.1 vwCl [(q, .inr (1, [.int w, .long r, .long b]))] s.heap := hP
  have hl := lv_entry ([.ref q, .long x]) (n := 3) (Nat.le_of_ble_eq_true rfl)
  rw [lg_entry_eq]
  generalize (lg_sl ([.ref q, .long x]) ++ List.replicate (3 - (lg_sl ([.ref q, .long x])).length) Slot.unset).toArray = ls at hl ⊢
  have hl : lv_has ls 3 [(0, .ref q), (1, .long x)] := hl
  have hf_15 := hts (.fieldLink RX0 15 "LoopRegions$Edges" "right" "J") (by decide +kernel)
  have hf_19 := hts (.fieldLink RX0 19 "LoopRegions$Edges" "below" "J") (by decide +kernel)
  have hf_9 := hts (.fieldLink RX0 9 "LoopRegions$Edges" "width" "I") (by decide +kernel)
  have hi_RX0 : ∀ w ∈ wsX00, w ∈ wsX0_spread := by decide +kernel
  refine lv_lload_n hx hb dX0_spread_0 rfl (lv_at hl 1 rfl) ?_
  refine lv_lload_n hx hb dX0_spread_1 rfl (lv_at hl 1 rfl) ?_
  refine lv_aload_n hx hb dX0_spread_2 rfl (lv_at hl 0 rfl) ?_
  refine va_get (D := E.1) (ci := 1) (v := .long r) (C := RX0) (T := TX0) (N := 3) hx hb hts hi_RX0 hown hE.1 hP 0 rfl rfl 1 (by decide) hf_15 (fun _ h9 => h9) rfl dX0_spread_3 ?_
  refine lv_land hx hb dX0_spread_6 ?_
  refine lv_iconst (v := 1) hx hb dX0_spread_7 (by decide) ?_
  refine lv_lshl hx hb dX0_spread_8 rfl ?_
  refine lv_lor hx hb dX0_spread_9 ?_
  refine lv_lload_n hx hb dX0_spread_10 rfl (lv_at hl 1 rfl) ?_
  refine lv_iconst (v := 1) hx hb dX0_spread_11 (by decide) ?_
  refine lv_lushr hx hb dX0_spread_12 rfl ?_
  refine lv_aload_n hx hb dX0_spread_13 rfl (lv_at hl 0 rfl) ?_
  refine va_get (D := E.1) (ci := 1) (v := .long r) (C := RX0) (T := TX0) (N := 3) hx hb hts hi_RX0 hown hE.1 hP 0 rfl rfl 1 (by decide) hf_15 (fun _ h9 => h9) rfl dX0_spread_14 ?_
  refine lv_land hx hb dX0_spread_17 ?_
  refine lv_lor hx hb dX0_spread_18 ?_
  refine lv_lload_n hx hb dX0_spread_19 rfl (lv_at hl 1 rfl) ?_
  refine lv_aload_n hx hb dX0_spread_20 rfl (lv_at hl 0 rfl) ?_
  refine va_get (D := E.1) (ci := 1) (v := .long b) (C := RX0) (T := TX0) (N := 3) hx hb hts hi_RX0 hown hE.1 hP 0 rfl rfl 2 (by decide) hf_19 (fun _ h9 => h9) rfl dX0_spread_21 ?_
  refine lv_land hx hb dX0_spread_24 ?_
  refine lv_aload_n hx hb dX0_spread_25 rfl (lv_at hl 0 rfl) ?_
  refine va_get (D := E.1) (ci := 1) (v := .int w) (C := RX0) (T := TX0) (N := 3) hx hb hts hi_RX0 hown hE.1 hP 0 rfl rfl 0 (by decide) hf_9 (fun _ h9 => h9) rfl dX0_spread_26 ?_
  refine lv_lshl hx hb dX0_spread_29 rfl ?_
  refine lv_lor hx hb dX0_spread_30 ?_
  refine lv_lload_n hx hb dX0_spread_31 rfl (lv_at hl 1 rfl) ?_
  refine lv_aload_n hx hb dX0_spread_32 rfl (lv_at hl 0 rfl) ?_
  refine va_get (D := E.1) (ci := 1) (v := .int w) (C := RX0) (T := TX0) (N := 3) hx hb hts hi_RX0 hown hE.1 hP 0 rfl rfl 0 (by decide) hf_9 (fun _ h9 => h9) rfl dX0_spread_33 ?_
  refine lv_lushr hx hb dX0_spread_36 rfl ?_
  refine lv_aload_n hx hb dX0_spread_37 rfl (lv_at hl 0 rfl) ?_
  refine va_get (D := E.1) (ci := 1) (v := .long b) (C := RX0) (T := TX0) (N := 3) hx hb hts hi_RX0 hown hE.1 hP 0 rfl rfl 2 (by decide) hf_19 (fun _ h9 => h9) rfl dX0_spread_38 ?_
  refine lv_land hx hb dX0_spread_41 ?_
  refine lv_lor hx hb dX0_spread_42 ?_
  exact W.lret (v := (((x ||| ((x &&& r) <<< ((1 : Int32).toInt64 &&& 63))) ||| (((x.toUInt64 >>> ((1 : Int32).toInt64.toUInt64 &&& Int64.toUInt64 63)).toInt64) &&& r)) ||| ((x &&& b) <<< ((w : Int32).toInt64 &&& 63))) ||| (((x.toUInt64 >>> ((w : Int32).toInt64.toUInt64 &&& Int64.toUInt64 63)).toInt64) &&& b)) hx hb hr (fun t9 ht9 _ => ⟨(((x ||| ((x &&& r) <<< ((1 : Int32).toInt64 &&& 63))) ||| (((x.toUInt64 >>> ((1 : Int32).toInt64.toUInt64 &&& Int64.toUInt64 63)).toInt64) &&& r)) ||| ((x &&& b) <<< ((w : Int32).toInt64 &&& 63))) ||| (((x.toUInt64 >>> ((w : Int32).toInt64.toUInt64 &&& Int64.toUInt64 63)).toInt64) &&& b), rfl, rfl, ht9⟩) (fun q h => absurd h List.not_mem_nil) dX0_spread_43
set_option maxHeartbeats 4000000 in
set_option maxRecDepth 100000 in
theorem cX0_reach_ct (l : Launch) (E : GE) (q : Nat) (w : Int32) (r b : Int64) (x0 : Int64)  : rdL l yX0_reach wsX0_reach ({ frames := 1, cells := 0, slots := 0, locals := 22 }) E [.ref q, .long x0] [(q, .inr (1, [.int w, .long r, .long b]))] (fReach w r b 64 x0) := by
  refine Met.ofW (cc := cX0_reach) (maxL := 8) (ret := (some .long)) (by decide) rfl ?_
  intro p e s m args below meth c s₁ B hml hv
  obtain ⟨rfl, hE, hP⟩ := hv
  have hx := B.exec
  have hb := B.bytes
  have hr := B.returns
  have hts := atoms_spec (ws := wsX0_reach) B.pre
  have hown : s.vm.findClass RX0 = some m.cls := findClass_of_methodNamed B.named
  have hlocks := B.notSynchronized
  have hP : va_P E.1 vwCl [(q, .inr (1, [.int w, .long r, .long b]))] s.heap := hP
  have hl := lv_entry ([.ref q, .long x0]) (n := 8) (Nat.le_of_ble_eq_true rfl)
  rw [lg_entry_eq]
  generalize (lg_sl ([.ref q, .long x0]) ++ List.replicate (8 - (lg_sl ([.ref q, .long x0])).length) Slot.unset).toArray = ls at hl ⊢
  have hl : lv_has ls 8 [(0, .ref q), (1, .long x0)] := hl
  refine lv_lload_n hx hb dX0_reach_0 rfl (lv_at hl 1 rfl) ?_
  refine lv_lstore_n (lv' := [(3, .long x0), (0, .ref q), (1, .long x0)]) hx hb dX0_reach_1 rfl hl (by decide) rfl (fun ls hl => ?_)
  refine lv_iconst (v := 0) hx hb dX0_reach_2 (by decide) ?_
  refine lv_istore (lv' := [(5, .int 0), (3, .long x0), (0, .ref q), (1, .long x0)]) hx hb dX0_reach_3 hl (by decide) rfl (fun ls hl => ?_)
  refine W_loopR (σ := Int32 × Int64) (J := 5) (nL := 8) (fun n9 x => ∃ k9, n9 = k9 + 1 ∧ k9 ≤ 64 ∧ x.1 = nI (64 - k9) ∧ fReach w r b k9 x.2 = fReach w r b 64 x0) (fun x => [(5, .int x.1), (3, .long x.2), (0, .ref q), (1, .long x0)]) (fun x h => by obtain ⟨k, h, _⟩ := h; exact absurd h (by omega)) (fun n_5 ih_5 x ls hI_5 hl => ?_) (65) (0, x0) (⟨64, rfl, Nat.le_refl _, rfl, by subst_vars; rfl⟩) (lv_sub hl [0, 1, 2, 3] rfl)
  obtain ⟨i, z⟩ := x
  try dsimp only at hI_5
  have hl : lv_has ls 8 [(5, .int i), (3, .long z), (0, .ref q), (1, .long x0)] := hl
  obtain ⟨k, hk_5, hN_5, hi_5, hv_5⟩ := hI_5
  obtain rfl : n_5 = k := Nat.succ.inj hk_5
  refine lv_iload hx hb dX0_reach_5 (lv_at hl 0 rfl) ?_
  refine lv_bipush (v := 64) hx hb dX0_reach_7 (by decide) ?_
  refine lv_icmp_ge (tgt := 37) hx hb dX0_reach_9 (by decide) (fun c_9 => ?_) (fun c_9 => ?_)
  · skip
    refine lv_lload_n hx hb dX0_reach_37 rfl (lv_at hl 1 rfl) ?_
    exact W.lret (v := z) hx hb hr (fun t9 ht9 _ => ⟨z, rfl, by obtain rfl : n_5 = 0 := lp_exit hN_5 (by decide) (by rw [← hi_5]; exact c_9); exact hv_5, ht9⟩) (fun q h => absurd h List.not_mem_nil) dX0_reach_38
  · skip
    obtain ⟨j, rfl⟩ := lp_go (k := n_5) (N := 64) (by decide) (by rw [← hi_5]; exact c_9)
    refine lv_aload_n hx hb dX0_reach_12 rfl (lv_at hl 2 rfl) ?_
    refine lv_lload_n hx hb dX0_reach_13 rfl (lv_at hl 1 rfl) ?_
    refine crVl (As := [.long z]) (rest := []) ⟨hx, hb, hml, hown, hts⟩ hE (cX0_spread_ct l E q w r b z) (cwV 1 hts gX0_reach_X0_spread rfl rfl rfl (by decide +kernel) ⟨Nat.le_of_ble_eq_true rfl, Nat.le_of_ble_eq_true rfl⟩) (hP.sub (ws' := [(q, .inr (1, [.int w, .long r, .long b]))]) [0] rfl) (va_recv hE.1 hP (ci := 1) (q0 := 0) rfl rfl) rfl hl.1 rfl (Nat.le_of_ble_eq_true rfl) dX0_reach_14 ⟨Nat.zero_le _, Nat.zero_le _⟩ ?_
    refine lv_topl (fun x_1 ex_1 => ?_)
    refine lv_lstore (lv' := [(6, .long x_1), (5, .int i), (3, .long z), (0, .ref q), (1, .long x0)]) hx hb dX0_reach_17 hl (by decide) rfl (fun ls hl => ?_)
    refine lv_lload hx hb dX0_reach_19 (lv_at hl 0 rfl) ?_
    refine lv_lload_n hx hb dX0_reach_21 rfl (lv_at hl 2 rfl) ?_
    refine W.lcmp hx hb dX0_reach_22 ?_
    refine lv_if_ne (tgt := 28) hx hb dX0_reach_23 (by decide) (fun c_23 => ?_) (fun c_23 => ?_)
    · skip
      have hc : ¬ fSpread w r b z = z := by rw [cmp0, ex_1] at c_23; exact c_23
      rw [fReach, if_neg hc] at hv_5
      refine lv_lload hx hb dX0_reach_28 (lv_at hl 0 rfl) ?_
      refine lv_lstore_n (lv' := [(3, .long x_1), (6, .long x_1), (5, .int i), (0, .ref q), (1, .long x0)]) hx hb dX0_reach_30 rfl hl (by decide) rfl (fun ls hl => ?_)
      obtain ⟨x_2, ex_2⟩ : ∃ y : Int32, y = i + (1) := ⟨_, rfl⟩
      refine lv_iinc (v := x_2) (lv' := [(5, .int x_2), (3, .long x_1), (6, .long x_1), (0, .ref q), (1, .long x0)]) hx hb dX0_reach_31 hl (k := 2) rfl (by rw [ex_2]; rfl) (by decide) rfl (fun ls hl => ?_)
      refine lv_goto (tgt := 5) hx hb dX0_reach_34 (by decide) ?_
      exact ih_5 (x_2, x_1) ls (⟨j, rfl, by omega, by rw [ex_2, hi_5]; exact lp_step (by omega), by rw [ex_1]; exact hv_5⟩) (lv_sub hl [0, 1, 3, 4] rfl)
    · skip
      have hc : fSpread w r b z = z := by rw [cmp0, ex_1] at c_23; exact c_23
      refine lv_lload_n hx hb dX0_reach_26 rfl (lv_at hl 2 rfl) ?_
      exact W.lret (v := z) hx hb hr (fun t9 ht9 _ => ⟨z, rfl, by rw [← hv_5, fReach, if_pos hc], ht9⟩) (fun q h => absurd h List.not_mem_nil) dX0_reach_27
set_option maxHeartbeats 4000000 in
set_option maxRecDepth 100000 in
theorem cX0_joins_ct (l : Launch) (E : GE) (q : Nat) (w : Int32) (r b : Int64) (f t : Int32)  : rdI l yX0_joins wsX0_joins ({ frames := 2, cells := 0, slots := 0, locals := 42 }) E [.ref q, .int f, .int t] [(q, .inr (1, [.int w, .long r, .long b]))] (b2i (fJoins w r b t 64 (fOnly f))) := by
  refine Met.ofW (cc := cX0_joins) (maxL := 8) (ret := (some .boolean)) (by decide) rfl ?_
  intro p e s m args below meth c s₁ B hml hv
  obtain ⟨rfl, hE, hP⟩ := hv
  have hx := B.exec
  have hb := B.bytes
  have hr := B.returns
  have hts := atoms_spec (ws := wsX0_joins) B.pre
  have hown : s.vm.findClass RX0 = some m.cls := findClass_of_methodNamed B.named
  have hlocks := B.notSynchronized
  have hP : va_P E.1 vwCl [(q, .inr (1, [.int w, .long r, .long b]))] s.heap := hP
  have hl := lv_entry ([.ref q, .int f, .int t]) (n := 8) (Nat.le_of_ble_eq_true rfl)
  rw [lg_entry_eq]
  generalize (lg_sl ([.ref q, .int f, .int t]) ++ List.replicate (8 - (lg_sl ([.ref q, .int f, .int t])).length) Slot.unset).toArray = ls at hl ⊢
  have hl : lv_has ls 8 [(0, .ref q), (1, .int f), (2, .int t)] := hl
  refine lv_iload_n hx hb dX0_joins_0 rfl (lv_at hl 1 rfl) ?_
  refine crNl (As := [.int f]) (rest := []) ⟨hx, hb, hml, hown, hts⟩ hE (cX5_only_ct l E f) ⟨va_cnB 1 hts gX0_joins_X5_only_n34 rfl rfl rfl (hE.2 _ (List.mem_of_getElem? (i := 1) rfl)) (hts (.initialized RX5) (by decide +kernel)) (by decide +kernel) ⟨Nat.le_of_ble_eq_true rfl, Nat.le_of_ble_eq_true rfl⟩, hts (.static yX5_only) (by decide +kernel), trivial⟩ (fun k q h => by simp at h) rfl hl.1 rfl (Nat.le_of_ble_eq_true rfl) dX0_joins_1 ⟨Nat.zero_le _, Nat.zero_le _⟩ ?_
  refine lv_topl (fun x_1 ex_1 => ?_)
  refine lv_lstore_n (lv' := [(3, .long x_1), (0, .ref q), (1, .int f), (2, .int t)]) hx hb dX0_joins_4 rfl hl (by decide) rfl (fun ls hl => ?_)
  refine lv_iconst (v := 0) hx hb dX0_joins_5 (by decide) ?_
  refine lv_istore (lv' := [(5, .int 0), (3, .long x_1), (0, .ref q), (1, .int f), (2, .int t)]) hx hb dX0_joins_6 hl (by decide) rfl (fun ls hl => ?_)
  refine W_loopR (σ := Int32 × Int64) (J := 8) (nL := 8) (fun n9 x => ∃ k9, n9 = k9 + 1 ∧ k9 ≤ 64 ∧ x.1 = nI (64 - k9) ∧ fJoins w r b t k9 x.2 = fJoins w r b t 64 (fOnly f)) (fun x => [(5, .int x.1), (3, .long x.2), (0, .ref q), (1, .int f), (2, .int t)]) (fun x h => by obtain ⟨k, h, _⟩ := h; exact absurd h (by omega)) (fun n_8 ih_8 x ls hI_8 hl => ?_) (65) (0, x_1) (⟨64, rfl, Nat.le_refl _, rfl, by subst_vars; rfl⟩) (lv_sub hl [0, 1, 2, 3, 4] rfl)
  obtain ⟨i, z⟩ := x
  try dsimp only at hI_8
  have hl : lv_has ls 8 [(5, .int i), (3, .long z), (0, .ref q), (1, .int f), (2, .int t)] := hl
  obtain ⟨k, hk_8, hN_8, hi_8, hv_8⟩ := hI_8
  obtain rfl : n_8 = k := Nat.succ.inj hk_8
  refine lv_iload hx hb dX0_joins_8 (lv_at hl 0 rfl) ?_
  refine lv_bipush (v := 64) hx hb dX0_joins_10 (by decide) ?_
  refine lv_icmp_ge (tgt := 48) hx hb dX0_joins_12 (by decide) (fun c_12 => ?_) (fun c_12 => ?_)
  · skip
    refine lv_lload_n hx hb dX0_joins_48 rfl (lv_at hl 1 rfl) ?_
    refine lv_iload_n hx hb dX0_joins_49 rfl (lv_at hl 4 rfl) ?_
    refine crNi (As := [.long z, .int t]) (rest := []) ⟨hx, hb, hml, hown, hts⟩ hE (cX5_holds_ct l E z t) ⟨va_cnB 2 hts gX0_joins_X5_holds_n55 rfl rfl rfl (hE.2 _ (List.mem_of_getElem? (i := 0) rfl)) (hts (.initialized RX5) (by decide +kernel)) (by decide +kernel) ⟨Nat.le_of_ble_eq_true rfl, Nat.le_of_ble_eq_true rfl⟩, hts (.static yX5_holds) (by decide +kernel), trivial⟩ (fun k q h => by simp at h) rfl hl.1 rfl (Nat.le_of_ble_eq_true rfl) dX0_joins_50 ⟨Nat.zero_le _, Nat.zero_le _⟩ ?_
    exact W.zret (v := b2i (fHolds z t)) hx hb hr (by first | exact b2i_nar _ | (subst_vars; exact b2i_nar _)) (fun t9 ht9 _ => ⟨b2i (fHolds z t), rfl, by obtain rfl : n_8 = 0 := lp_exit hN_8 (by decide) (by rw [← hi_8]; exact c_12); rw [← hv_8, fJoins], ht9⟩) (fun q h => absurd h List.not_mem_nil) dX0_joins_53
  · skip
    obtain ⟨j, rfl⟩ := lp_go (k := n_8) (N := 64) (by decide) (by rw [← hi_8]; exact c_12)
    refine lv_lload_n hx hb dX0_joins_15 rfl (lv_at hl 1 rfl) ?_
    refine lv_iload_n hx hb dX0_joins_16 rfl (lv_at hl 4 rfl) ?_
    refine crNi (As := [.long z, .int t]) (rest := []) ⟨hx, hb, hml, hown, hts⟩ hE (cX5_holds_ct l E z t) ⟨va_cnB 2 hts gX0_joins_X5_holds_n55 rfl rfl rfl (hE.2 _ (List.mem_of_getElem? (i := 0) rfl)) (hts (.initialized RX5) (by decide +kernel)) (by decide +kernel) ⟨Nat.le_of_ble_eq_true rfl, Nat.le_of_ble_eq_true rfl⟩, hts (.static yX5_holds) (by decide +kernel), trivial⟩ (fun k q h => by simp at h) rfl hl.1 rfl (Nat.le_of_ble_eq_true rfl) dX0_joins_17 ⟨Nat.zero_le _, Nat.zero_le _⟩ ?_
    refine lv_if_ne (tgt := 48) hx hb dX0_joins_20 (by decide) (fun c_20 => ?_) (fun c_20 => ?_)
    · skip
      have hh : fHolds z t = true := by rw [b2i_eq0] at c_20; simpa using c_20
      refine lv_lload_n hx hb dX0_joins_48 rfl (lv_at hl 1 rfl) ?_
      refine lv_iload_n hx hb dX0_joins_49 rfl (lv_at hl 4 rfl) ?_
      refine crNi (As := [.long z, .int t]) (rest := []) ⟨hx, hb, hml, hown, hts⟩ hE (cX5_holds_ct l E z t) ⟨va_cnB 2 hts gX0_joins_X5_holds_n55 rfl rfl rfl (hE.2 _ (List.mem_of_getElem? (i := 0) rfl)) (hts (.initialized RX5) (by decide +kernel)) (by decide +kernel) ⟨Nat.le_of_ble_eq_true rfl, Nat.le_of_ble_eq_true rfl⟩, hts (.static yX5_holds) (by decide +kernel), trivial⟩ (fun k q h => by simp at h) rfl hl.1 rfl (Nat.le_of_ble_eq_true rfl) dX0_joins_50 ⟨Nat.zero_le _, Nat.zero_le _⟩ ?_
      exact W.zret (v := b2i (fHolds z t)) hx hb hr (by first | exact b2i_nar _ | (subst_vars; exact b2i_nar _)) (fun t9 ht9 _ => ⟨b2i (fHolds z t), rfl, by rw [← hv_8, fJoins, if_pos hh, hh], ht9⟩) (fun q h => absurd h List.not_mem_nil) dX0_joins_53
    · skip
      have hh : ¬ fHolds z t = true := by rw [b2i_eq0] at c_20; simpa using c_20
      refine lv_aload_n hx hb dX0_joins_23 rfl (lv_at hl 2 rfl) ?_
      refine lv_lload_n hx hb dX0_joins_24 rfl (lv_at hl 1 rfl) ?_
      refine crVl (As := [.long z]) (rest := []) ⟨hx, hb, hml, hown, hts⟩ hE (cX0_spread_ct l E q w r b z) (cwV 1 hts gX0_joins_X0_spread rfl rfl rfl (by decide +kernel) ⟨Nat.le_of_ble_eq_true rfl, Nat.le_of_ble_eq_true rfl⟩) (hP.sub (ws' := [(q, .inr (1, [.int w, .long r, .long b]))]) [0] rfl) (va_recv hE.1 hP (ci := 1) (q0 := 0) rfl rfl) rfl hl.1 rfl (Nat.le_of_ble_eq_true rfl) dX0_joins_25 ⟨Nat.zero_le _, Nat.zero_le _⟩ ?_
      refine lv_topl (fun x_2 ex_2 => ?_)
      refine lv_lstore (lv' := [(6, .long x_2), (5, .int i), (3, .long z), (0, .ref q), (1, .int f), (2, .int t)]) hx hb dX0_joins_28 hl (by decide) rfl (fun ls hl => ?_)
      refine lv_lload hx hb dX0_joins_30 (lv_at hl 0 rfl) ?_
      refine lv_lload_n hx hb dX0_joins_32 rfl (lv_at hl 2 rfl) ?_
      refine W.lcmp hx hb dX0_joins_33 ?_
      refine lv_if_ne (tgt := 39) hx hb dX0_joins_34 (by decide) (fun c_34 => ?_) (fun c_34 => ?_)
      · skip
        have hc : ¬ fSpread w r b z = z := by rw [cmp0, ex_2] at c_34; exact c_34
        rw [fJoins, if_neg hh, if_neg hc] at hv_8
        refine lv_lload hx hb dX0_joins_39 (lv_at hl 0 rfl) ?_
        refine lv_lstore_n (lv' := [(3, .long x_2), (6, .long x_2), (5, .int i), (0, .ref q), (1, .int f), (2, .int t)]) hx hb dX0_joins_41 rfl hl (by decide) rfl (fun ls hl => ?_)
        obtain ⟨x_3, ex_3⟩ : ∃ y : Int32, y = i + (1) := ⟨_, rfl⟩
        refine lv_iinc (v := x_3) (lv' := [(5, .int x_3), (3, .long x_2), (6, .long x_2), (0, .ref q), (1, .int f), (2, .int t)]) hx hb dX0_joins_42 hl (k := 2) rfl (by rw [ex_3]; rfl) (by decide) rfl (fun ls hl => ?_)
        refine lv_goto (tgt := 8) hx hb dX0_joins_45 (by decide) ?_
        exact ih_8 (x_3, x_2) ls (⟨j, rfl, by omega, by rw [ex_3, hi_8]; exact lp_step (by omega), by rw [ex_2]; exact hv_8⟩) (lv_sub hl [0, 1, 3, 4, 5] rfl)
      · skip
        have hc : fSpread w r b z = z := by rw [cmp0, ex_2] at c_34; exact c_34
        refine lv_iconst (v := 0) hx hb dX0_joins_37 (by decide) ?_
        exact W.zret (v := 0) hx hb hr (rfl) (fun t9 ht9 _ => ⟨0, rfl, by rw [← hv_8, fJoins, if_neg hh, if_pos hc]; rfl, ht9⟩) (fun q h => absurd h List.not_mem_nil) dX0_joins_38
