/-! Grid and State: laid by wip/s_state.py -/
set_option maxHeartbeats 4000000 in
set_option maxRecDepth 100000 in
theorem cX1_hasCell_ct (l : Launch) (E : GE) (g : Nat) (w h cc ec en : Int32) (ce : Int64) (ga : Nat) (aw : Int32) (ar ab : Int64) (a : Int32)  : rdI l yX1_hasCell wsX1_hasCell ({ frames := 0, cells := 0, slots := 0, locals := 0 }) E [.ref g, .int a] [(g, .inr (2, [.int w, .int h, .int cc, .int ec, .int en, .long ce, .ref ga])), (ga, .inr (1, [.int aw, .long ar, .long ab]))] (b2i (fHasCell cc a)) := by
  refine Met.ofW (cc := cX1_hasCell) (maxL := 2) (ret := (some .boolean)) (by decide) rfl ?_
  intro p e s m args below meth c s₁ B hml hv
  obtain ⟨rfl, hE, hP⟩ := hv
  have hx := B.exec
  have hb := B.bytes
  have hr := B.returns
  have hts := atoms_spec (ws := wsX1_hasCell) B.pre
  have hown : s.vm.findClass RX1 = some m.cls := findClass_of_methodNamed B.named
  have hlocks := B.notSynchronized
  have hP : va_P E.1 vwCl [(g, .inr (2, [.int w, .int h, .int cc, .int ec, .int en, .long ce, .ref ga])), (ga, .inr (1, [.int aw, .long ar, .long ab]))] s.heap := hP
  have hl := lv_entry ([.ref g, .int a]) (n := 2) (Nat.le_of_ble_eq_true rfl)
  rw [lg_entry_eq]
  generalize (lg_sl ([.ref g, .int a]) ++ List.replicate (2 - (lg_sl ([.ref g, .int a])).length) Slot.unset).toArray = ls at hl ⊢
  have hl : lv_has ls 2 [(0, .ref g), (1, .int a)] := hl
  have hf_18 := hts (.fieldLink RX1 18 "LoopRegions$Grid" "cellCount" "I") (by decide +kernel)
  have hi_RX1 : ∀ w ∈ wsX10, w ∈ wsX1_hasCell := by decide +kernel
  refine lv_iload_n hx hb dX1_hasCell_0 rfl (lv_at hl 1 rfl) ?_
  refine lv_if_lt (tgt := 16) hx hb dX1_hasCell_1 (by decide) (fun c_1 => ?_) (fun c_1 => ?_)
  · skip
    refine lv_iconst (v := 0) hx hb dX1_hasCell_16 (by decide) ?_
    exact W.zret (v := 0) hx hb hr (rfl) (fun t9 ht9 _ => ⟨0, rfl, by simp [b2i, fHasCell, c_1], ht9⟩) (fun q h => absurd h List.not_mem_nil) dX1_hasCell_17
  · skip
    refine lv_iload_n hx hb dX1_hasCell_4 rfl (lv_at hl 1 rfl) ?_
    refine lv_aload_n hx hb dX1_hasCell_5 rfl (lv_at hl 0 rfl) ?_
    refine va_get (D := E.1) (ci := 2) (v := .int cc) (C := RX1) (T := TX1) (N := 7) hx hb hts hi_RX1 hown hE.1 hP 0 rfl rfl 2 (by decide) hf_18 (fun _ h9 => h9) rfl dX1_hasCell_6 ?_
    refine lv_icmp_ge (tgt := 16) hx hb dX1_hasCell_9 (by decide) (fun c_9 => ?_) (fun c_9 => ?_)
    · skip
      refine lv_iconst (v := 0) hx hb dX1_hasCell_16 (by decide) ?_
      exact W.zret (v := 0) hx hb hr (rfl) (fun t9 ht9 _ => ⟨0, rfl, by simp [b2i, fHasCell, c_1, c_9], ht9⟩) (fun q h => absurd h List.not_mem_nil) dX1_hasCell_17
    · skip
      refine lv_iconst (v := 1) hx hb dX1_hasCell_12 (by decide) ?_
      refine lv_goto (tgt := 17) hx hb dX1_hasCell_13 (by decide) ?_
      exact W.zret (v := 1) hx hb hr (rfl) (fun t9 ht9 _ => ⟨1, rfl, by simp [b2i, fHasCell, c_1, c_9], ht9⟩) (fun q h => absurd h List.not_mem_nil) dX1_hasCell_17
set_option maxHeartbeats 4000000 in
set_option maxRecDepth 100000 in
theorem cX1_hasEdge_ct (l : Launch) (E : GE) (g : Nat) (w h cc ec en : Int32) (ce : Int64) (ga : Nat) (aw : Int32) (ar ab : Int64) (a : Int32)  : rdI l yX1_hasEdge wsX1_hasEdge ({ frames := 3, cells := 0, slots := 0, locals := 63 }) E [.ref g, .int a] [(g, .inr (2, [.int w, .int h, .int cc, .int ec, .int en, .long ce, .ref ga])), (ga, .inr (1, [.int aw, .long ar, .long ab]))] (b2i (fHasEdge en ar ab a)) := by
  refine Met.ofW (cc := cX1_hasEdge) (maxL := 2) (ret := (some .boolean)) (by decide) rfl ?_
  intro p e s m args below meth c s₁ B hml hv
  obtain ⟨rfl, hE, hP⟩ := hv
  have hx := B.exec
  have hb := B.bytes
  have hr := B.returns
  have hts := atoms_spec (ws := wsX1_hasEdge) B.pre
  have hown : s.vm.findClass RX1 = some m.cls := findClass_of_methodNamed B.named
  have hlocks := B.notSynchronized
  have hP : va_P E.1 vwCl [(g, .inr (2, [.int w, .int h, .int cc, .int ec, .int en, .long ce, .ref ga])), (ga, .inr (1, [.int aw, .long ar, .long ab]))] s.heap := hP
  have hl := lv_entry ([.ref g, .int a]) (n := 2) (Nat.le_of_ble_eq_true rfl)
  rw [lg_entry_eq]
  generalize (lg_sl ([.ref g, .int a]) ++ List.replicate (2 - (lg_sl ([.ref g, .int a])).length) Slot.unset).toArray = ls at hl ⊢
  have hl : lv_has ls 2 [(0, .ref g), (1, .int a)] := hl
  have hf_24 := hts (.fieldLink RX1 24 "LoopRegions$Grid" "edgeNumbers" "I") (by decide +kernel)
  have hf_32 := hts (.fieldLink RX1 32 "LoopRegions$Grid" "all" "LLoopRegions$Edges;") (by decide +kernel)
  have hi_RX1 : ∀ w ∈ wsX10, w ∈ wsX1_hasEdge := by decide +kernel
  refine lv_iload_n hx hb dX1_hasEdge_0 rfl (lv_at hl 1 rfl) ?_
  refine lv_if_lt (tgt := 27) hx hb dX1_hasEdge_1 (by decide) (fun c_1 => ?_) (fun c_1 => ?_)
  · skip
    refine lv_iconst (v := 0) hx hb dX1_hasEdge_27 (by decide) ?_
    exact W.zret (v := 0) hx hb hr (rfl) (fun t9 ht9 _ => ⟨0, rfl, by simp [b2i, fHasEdge, c_1], ht9⟩) (fun q h => absurd h List.not_mem_nil) dX1_hasEdge_28
  · skip
    refine lv_iload_n hx hb dX1_hasEdge_4 rfl (lv_at hl 1 rfl) ?_
    refine lv_aload_n hx hb dX1_hasEdge_5 rfl (lv_at hl 0 rfl) ?_
    refine va_get (D := E.1) (ci := 2) (v := .int en) (C := RX1) (T := TX1) (N := 7) hx hb hts hi_RX1 hown hE.1 hP 0 rfl rfl 4 (by decide) hf_24 (fun _ h9 => h9) rfl dX1_hasEdge_6 ?_
    refine lv_icmp_ge (tgt := 27) hx hb dX1_hasEdge_9 (by decide) (fun c_9 => ?_) (fun c_9 => ?_)
    · skip
      refine lv_iconst (v := 0) hx hb dX1_hasEdge_27 (by decide) ?_
      exact W.zret (v := 0) hx hb hr (rfl) (fun t9 ht9 _ => ⟨0, rfl, by simp [b2i, fHasEdge, c_1, c_9], ht9⟩) (fun q h => absurd h List.not_mem_nil) dX1_hasEdge_28
    · skip
      refine lv_aload_n hx hb dX1_hasEdge_12 rfl (lv_at hl 0 rfl) ?_
      refine va_get (D := E.1) (ci := 2) (v := .ref ga) (C := RX1) (T := TX1) (N := 7) hx hb hts hi_RX1 hown hE.1 hP 0 rfl rfl 6 (by decide) hf_32 (fun _ h9 => h9) rfl dX1_hasEdge_13 ?_
      refine lv_iload_n hx hb dX1_hasEdge_16 rfl (lv_at hl 1 rfl) ?_
      refine crVi (As := [.int a]) (rest := []) ⟨hx, hb, hml, hown, hts⟩ hE (cX0_has_ct l E ga aw ar ab a) (cwV 1 hts gX1_hasEdge_X0_has rfl rfl rfl (by decide +kernel) ⟨Nat.le_of_ble_eq_true rfl, Nat.le_of_ble_eq_true rfl⟩) (hP.sub (ws' := [(ga, .inr (1, [.int aw, .long ar, .long ab]))]) [1] rfl) (va_recv hE.1 hP (ci := 1) (q0 := 1) rfl rfl) rfl hl.1 rfl (Nat.le_of_ble_eq_true rfl) dX1_hasEdge_17 ⟨Nat.zero_le _, Nat.zero_le _⟩ ?_
      refine lv_if_eq (tgt := 27) hx hb dX1_hasEdge_20 (by decide) (fun c_20 => ?_) (fun c_20 => ?_)
      · skip
        refine lv_iconst (v := 0) hx hb dX1_hasEdge_27 (by decide) ?_
        exact W.zret (v := 0) hx hb hr (rfl) (fun t9 ht9 _ => ⟨0, rfl, by simp only [b2i_eq0] at c_20; simp [b2i, fHasEdge, c_1, c_9, c_20], ht9⟩) (fun q h => absurd h List.not_mem_nil) dX1_hasEdge_28
      · skip
        refine lv_iconst (v := 1) hx hb dX1_hasEdge_23 (by decide) ?_
        refine lv_goto (tgt := 28) hx hb dX1_hasEdge_24 (by decide) ?_
        exact W.zret (v := 1) hx hb hr (rfl) (fun t9 ht9 _ => ⟨1, rfl, by simp only [b2i_eq0] at c_20; simp [b2i, fHasEdge, c_1, c_9, c_20], ht9⟩) (fun q h => absurd h List.not_mem_nil) dX1_hasEdge_28
set_option maxHeartbeats 4000000 in
set_option maxRecDepth 100000 in
theorem cX1_greaterEnd_ct (l : Launch) (E : GE) (g : Nat) (w h cc ec en : Int32) (ce : Int64) (ga : Nat) (aw : Int32) (ar ab : Int64) (a : Int32)  : rdI l yX1_greaterEnd wsX1_greaterEnd ({ frames := 1, cells := 0, slots := 0, locals := 20 }) E [.ref g, .int a] [(g, .inr (2, [.int w, .int h, .int cc, .int ec, .int en, .long ce, .ref ga])), (ga, .inr (1, [.int aw, .long ar, .long ab]))] (fGreater w a) := by
  refine Met.ofW (cc := cX1_greaterEnd) (maxL := 2) (ret := (some .int)) (by decide) rfl ?_
  intro p e s m args below meth c s₁ B hml hv
  obtain ⟨rfl, hE, hP⟩ := hv
  have hx := B.exec
  have hb := B.bytes
  have hr := B.returns
  have hts := atoms_spec (ws := wsX1_greaterEnd) B.pre
  have hown : s.vm.findClass RX1 = some m.cls := findClass_of_methodNamed B.named
  have hlocks := B.notSynchronized
  have hP : va_P E.1 vwCl [(g, .inr (2, [.int w, .int h, .int cc, .int ec, .int en, .long ce, .ref ga])), (ga, .inr (1, [.int aw, .long ar, .long ab]))] s.heap := hP
  have hl := lv_entry ([.ref g, .int a]) (n := 2) (Nat.le_of_ble_eq_true rfl)
  rw [lg_entry_eq]
  generalize (lg_sl ([.ref g, .int a]) ++ List.replicate (2 - (lg_sl ([.ref g, .int a])).length) Slot.unset).toArray = ls at hl ⊢
  have hl : lv_has ls 2 [(0, .ref g), (1, .int a)] := hl
  have hf_9 := hts (.fieldLink RX1 9 "LoopRegions$Grid" "width" "I") (by decide +kernel)
  have hi_RX1 : ∀ w ∈ wsX10, w ∈ wsX1_greaterEnd := by decide +kernel
  refine lv_iload_n hx hb dX1_greaterEnd_0 rfl (lv_at hl 1 rfl) ?_
  refine crSi (As := [.int a]) (rest := []) ⟨hx, hb, hml, hown, hts⟩ hE (cX1_lesserEnd_ct l E a) (va_cwS 1 hts gX1_greaterEnd_X1_lesserEnd rfl rfl rfl (by decide +kernel) ⟨Nat.le_of_ble_eq_true rfl, Nat.le_of_ble_eq_true rfl⟩) (fun k q h => by simp at h) rfl hl.1 rfl (Nat.le_of_ble_eq_true rfl) dX1_greaterEnd_1 ⟨Nat.zero_le _, Nat.zero_le _⟩ ?_
  refine lv_iload_n hx hb dX1_greaterEnd_4 rfl (lv_at hl 1 rfl) ?_
  refine crSi (As := [.int a]) (rest := [.int (fLess a)]) ⟨hx, hb, hml, hown, hts⟩ hE (cX0_isBelow_ct l E a) (va_cwS 1 hts gX1_greaterEnd_X0_isBelow rfl rfl rfl (by decide +kernel) ⟨Nat.le_of_ble_eq_true rfl, Nat.le_of_ble_eq_true rfl⟩) (fun k q h => by simp at h) rfl hl.1 rfl (Nat.le_of_ble_eq_true rfl) dX1_greaterEnd_5 ⟨Nat.zero_le _, Nat.zero_le _⟩ ?_
  refine lv_if_eq (tgt := 18) hx hb dX1_greaterEnd_8 (by decide) (fun c_8 => ?_) (fun c_8 => ?_)
  · skip
    refine lv_iconst (v := 1) hx hb dX1_greaterEnd_18 (by decide) ?_
    refine lv_iadd hx hb dX1_greaterEnd_19 ?_
    exact W.iret (v := (fLess a) + 1) hx hb hr (fun t9 ht9 _ => ⟨(fLess a) + 1, rfl, by simp only [b2i_eq0] at c_8; simp [fGreater, c_8], ht9⟩) (fun q h => absurd h List.not_mem_nil) dX1_greaterEnd_20
  · skip
    refine lv_aload_n hx hb dX1_greaterEnd_11 rfl (lv_at hl 0 rfl) ?_
    refine va_get (D := E.1) (ci := 2) (v := .int w) (C := RX1) (T := TX1) (N := 7) hx hb hts hi_RX1 hown hE.1 hP 0 rfl rfl 0 (by decide) hf_9 (fun _ h9 => h9) rfl dX1_greaterEnd_12 ?_
    refine lv_goto (tgt := 19) hx hb dX1_greaterEnd_15 (by decide) ?_
    refine lv_iadd hx hb dX1_greaterEnd_19 ?_
    exact W.iret (v := (fLess a) + w) hx hb hr (fun t9 ht9 _ => ⟨(fLess a) + w, rfl, by simp only [b2i_eq0] at c_8; simp [fGreater, c_8], ht9⟩) (fun q h => absurd h List.not_mem_nil) dX1_greaterEnd_20
set_option maxHeartbeats 4000000 in
set_option maxRecDepth 100000 in
theorem cX1_edgeOf_ct (l : Launch) (E : GE) (g : Nat) (w h cc ec en : Int32) (ce : Int64) (ga : Nat) (aw : Int32) (ar ab : Int64) (a d : Int32)  : rdI l yX1_edgeOf wsX1_edgeOf ({ frames := 4, cells := 0, slots := 0, locals := 84 }) E [.ref g, .int a, .int d] [(g, .inr (2, [.int w, .int h, .int cc, .int ec, .int en, .long ce, .ref ga])), (ga, .inr (1, [.int aw, .long ar, .long ab]))] (fEdgeOf w en ar ab a d) := by
  refine Met.ofW (cc := cX1_edgeOf) (maxL := 4) (ret := (some .int)) (by decide) rfl ?_
  intro p e s m args below meth c s₁ B hml hv
  obtain ⟨rfl, hE, hP⟩ := hv
  have hx := B.exec
  have hb := B.bytes
  have hr := B.returns
  have hts := atoms_spec (ws := wsX1_edgeOf) B.pre
  have hown : s.vm.findClass RX1 = some m.cls := findClass_of_methodNamed B.named
  have hlocks := B.notSynchronized
  have hP : va_P E.1 vwCl [(g, .inr (2, [.int w, .int h, .int cc, .int ec, .int en, .long ce, .ref ga])), (ga, .inr (1, [.int aw, .long ar, .long ab]))] s.heap := hP
  have hl := lv_entry ([.ref g, .int a, .int d]) (n := 4) (Nat.le_of_ble_eq_true rfl)
  rw [lg_entry_eq]
  generalize (lg_sl ([.ref g, .int a, .int d]) ++ List.replicate (4 - (lg_sl ([.ref g, .int a, .int d])).length) Slot.unset).toArray = ls at hl ⊢
  have hl : lv_has ls 4 [(0, .ref g), (1, .int a), (2, .int d)] := hl
  have hf_9 := hts (.fieldLink RX1 9 "LoopRegions$Grid" "width" "I") (by decide +kernel)
  have hi_RX1 : ∀ w ∈ wsX10, w ∈ wsX1_edgeOf := by decide +kernel
  refine lv_iconst (v := (-1)) hx hb dX1_edgeOf_0 (by decide) ?_
  refine lv_istore_n (lv' := [(3, .int (-1)), (0, .ref g), (1, .int a), (2, .int d)]) hx hb dX1_edgeOf_1 rfl hl (by decide) rfl (fun ls hl => ?_)
  refine lv_iload_n hx hb dX1_edgeOf_2 rfl (lv_at hl 3 rfl) ?_
  by_cases t_3_0 : d = 0
  · skip
    refine lv_tableIn (tgt := 28) hx hb dX1_edgeOf_3 (by rw [t_3_0]; decide) (by rw [t_3_0]; decide) (by rw [t_3_0]; rfl) (by decide) ?_
    refine lv_iconst (v := 2) hx hb dX1_edgeOf_28 (by decide) ?_
    refine lv_iload_n hx hb dX1_edgeOf_29 rfl (lv_at hl 2 rfl) ?_
    refine lv_aload_n hx hb dX1_edgeOf_30 rfl (lv_at hl 1 rfl) ?_
    refine va_get (D := E.1) (ci := 2) (v := .int w) (C := RX1) (T := TX1) (N := 7) hx hb hts hi_RX1 hown hE.1 hP 0 rfl rfl 0 (by decide) hf_9 (fun _ h9 => h9) rfl dX1_edgeOf_31 ?_
    refine lv_isub hx hb dX1_edgeOf_34 ?_
    refine lv_imul hx hb dX1_edgeOf_35 ?_
    refine lv_iconst (v := 1) hx hb dX1_edgeOf_36 (by decide) ?_
    refine lv_iadd hx hb dX1_edgeOf_37 ?_
    refine lv_topi (fun x_1 ex_1 => ?_)
    refine lv_istore_n (lv' := [(3, .int x_1), (0, .ref g), (1, .int a), (2, .int d)]) hx hb dX1_edgeOf_38 rfl hl (by decide) rfl (fun ls hl => ?_)
    refine lv_goto (tgt := 64) hx hb dX1_edgeOf_39 (by decide) ?_
    refine lv_aload_n hx hb dX1_edgeOf_64 rfl (lv_at hl 1 rfl) ?_
    refine lv_iload_n hx hb dX1_edgeOf_65 rfl (lv_at hl 0 rfl) ?_
    refine crVi (As := [.int x_1]) (rest := []) ⟨hx, hb, hml, hown, hts⟩ hE (cX1_hasEdge_ct l E g w h cc ec en ce ga aw ar ab x_1) (cwV 1 hts gX1_edgeOf_X1_hasEdge rfl rfl rfl (by decide +kernel) ⟨Nat.le_of_ble_eq_true rfl, Nat.le_of_ble_eq_true rfl⟩) (hP.sub (ws' := [(g, .inr (2, [.int w, .int h, .int cc, .int ec, .int en, .long ce, .ref ga])), (ga, .inr (1, [.int aw, .long ar, .long ab]))]) [0, 1] rfl) (va_recv hE.1 hP (ci := 2) (q0 := 0) rfl rfl) rfl hl.1 rfl (Nat.le_of_ble_eq_true rfl) dX1_edgeOf_66 ⟨Nat.zero_le _, Nat.zero_le _⟩ ?_
    refine lv_if_eq (tgt := 76) hx hb dX1_edgeOf_69 (by decide) (fun c_69 => ?_) (fun c_69 => ?_)
    · skip
      refine lv_iconst (v := (-1)) hx hb dX1_edgeOf_76 (by decide) ?_
      exact W.iret (v := (-1)) hx hb hr (fun t9 ht9 _ => ⟨(-1), rfl, by have hN : x_1 = fEdgeNo w a d := (by simp [fEdgeNo, ex_1, t_3_0]); have hq := c_69; rw [b2i_eq0, hN] at hq; rw [fEdgeOf]; simp [hq]; try exact hN, ht9⟩) (fun q h => absurd h List.not_mem_nil) dX1_edgeOf_77
    · skip
      refine lv_iload_n hx hb dX1_edgeOf_72 rfl (lv_at hl 0 rfl) ?_
      refine lv_goto (tgt := 77) hx hb dX1_edgeOf_73 (by decide) ?_
      exact W.iret (v := x_1) hx hb hr (fun t9 ht9 _ => ⟨x_1, rfl, by have hN : x_1 = fEdgeNo w a d := (by simp [fEdgeNo, ex_1, t_3_0]); have hq := c_69; rw [b2i_eq0, hN] at hq; rw [fEdgeOf]; simp [hq]; try exact hN, ht9⟩) (fun q h => absurd h List.not_mem_nil) dX1_edgeOf_77
  by_cases t_3_1 : d = 1
  · skip
    refine lv_tableIn (tgt := 42) hx hb dX1_edgeOf_3 (by rw [t_3_1]; decide) (by rw [t_3_1]; decide) (by rw [t_3_1]; rfl) (by decide) ?_
    refine lv_iconst (v := 2) hx hb dX1_edgeOf_42 (by decide) ?_
    refine lv_iload_n hx hb dX1_edgeOf_43 rfl (lv_at hl 2 rfl) ?_
    refine lv_imul hx hb dX1_edgeOf_44 ?_
    refine lv_topi (fun x_2 ex_2 => ?_)
    refine lv_istore_n (lv' := [(3, .int x_2), (0, .ref g), (1, .int a), (2, .int d)]) hx hb dX1_edgeOf_45 rfl hl (by decide) rfl (fun ls hl => ?_)
    refine lv_goto (tgt := 64) hx hb dX1_edgeOf_46 (by decide) ?_
    refine lv_aload_n hx hb dX1_edgeOf_64 rfl (lv_at hl 1 rfl) ?_
    refine lv_iload_n hx hb dX1_edgeOf_65 rfl (lv_at hl 0 rfl) ?_
    refine crVi (As := [.int x_2]) (rest := []) ⟨hx, hb, hml, hown, hts⟩ hE (cX1_hasEdge_ct l E g w h cc ec en ce ga aw ar ab x_2) (cwV 1 hts gX1_edgeOf_X1_hasEdge rfl rfl rfl (by decide +kernel) ⟨Nat.le_of_ble_eq_true rfl, Nat.le_of_ble_eq_true rfl⟩) (hP.sub (ws' := [(g, .inr (2, [.int w, .int h, .int cc, .int ec, .int en, .long ce, .ref ga])), (ga, .inr (1, [.int aw, .long ar, .long ab]))]) [0, 1] rfl) (va_recv hE.1 hP (ci := 2) (q0 := 0) rfl rfl) rfl hl.1 rfl (Nat.le_of_ble_eq_true rfl) dX1_edgeOf_66 ⟨Nat.zero_le _, Nat.zero_le _⟩ ?_
    refine lv_if_eq (tgt := 76) hx hb dX1_edgeOf_69 (by decide) (fun c_69 => ?_) (fun c_69 => ?_)
    · skip
      refine lv_iconst (v := (-1)) hx hb dX1_edgeOf_76 (by decide) ?_
      exact W.iret (v := (-1)) hx hb hr (fun t9 ht9 _ => ⟨(-1), rfl, by have hN : x_2 = fEdgeNo w a d := (by simp [fEdgeNo, ex_2, t_3_1]); have hq := c_69; rw [b2i_eq0, hN] at hq; rw [fEdgeOf]; simp [hq]; try exact hN, ht9⟩) (fun q h => absurd h List.not_mem_nil) dX1_edgeOf_77
    · skip
      refine lv_iload_n hx hb dX1_edgeOf_72 rfl (lv_at hl 0 rfl) ?_
      refine lv_goto (tgt := 77) hx hb dX1_edgeOf_73 (by decide) ?_
      exact W.iret (v := x_2) hx hb hr (fun t9 ht9 _ => ⟨x_2, rfl, by have hN : x_2 = fEdgeNo w a d := (by simp [fEdgeNo, ex_2, t_3_1]); have hq := c_69; rw [b2i_eq0, hN] at hq; rw [fEdgeOf]; simp [hq]; try exact hN, ht9⟩) (fun q h => absurd h List.not_mem_nil) dX1_edgeOf_77
  by_cases t_3_2 : d = 2
  · skip
    refine lv_tableIn (tgt := 49) hx hb dX1_edgeOf_3 (by rw [t_3_2]; decide) (by rw [t_3_2]; decide) (by rw [t_3_2]; rfl) (by decide) ?_
    refine lv_iconst (v := 2) hx hb dX1_edgeOf_49 (by decide) ?_
    refine lv_iload_n hx hb dX1_edgeOf_50 rfl (lv_at hl 2 rfl) ?_
    refine lv_imul hx hb dX1_edgeOf_51 ?_
    refine lv_iconst (v := 1) hx hb dX1_edgeOf_52 (by decide) ?_
    refine lv_iadd hx hb dX1_edgeOf_53 ?_
    refine lv_topi (fun x_3 ex_3 => ?_)
    refine lv_istore_n (lv' := [(3, .int x_3), (0, .ref g), (1, .int a), (2, .int d)]) hx hb dX1_edgeOf_54 rfl hl (by decide) rfl (fun ls hl => ?_)
    refine lv_goto (tgt := 64) hx hb dX1_edgeOf_55 (by decide) ?_
    refine lv_aload_n hx hb dX1_edgeOf_64 rfl (lv_at hl 1 rfl) ?_
    refine lv_iload_n hx hb dX1_edgeOf_65 rfl (lv_at hl 0 rfl) ?_
    refine crVi (As := [.int x_3]) (rest := []) ⟨hx, hb, hml, hown, hts⟩ hE (cX1_hasEdge_ct l E g w h cc ec en ce ga aw ar ab x_3) (cwV 1 hts gX1_edgeOf_X1_hasEdge rfl rfl rfl (by decide +kernel) ⟨Nat.le_of_ble_eq_true rfl, Nat.le_of_ble_eq_true rfl⟩) (hP.sub (ws' := [(g, .inr (2, [.int w, .int h, .int cc, .int ec, .int en, .long ce, .ref ga])), (ga, .inr (1, [.int aw, .long ar, .long ab]))]) [0, 1] rfl) (va_recv hE.1 hP (ci := 2) (q0 := 0) rfl rfl) rfl hl.1 rfl (Nat.le_of_ble_eq_true rfl) dX1_edgeOf_66 ⟨Nat.zero_le _, Nat.zero_le _⟩ ?_
    refine lv_if_eq (tgt := 76) hx hb dX1_edgeOf_69 (by decide) (fun c_69 => ?_) (fun c_69 => ?_)
    · skip
      refine lv_iconst (v := (-1)) hx hb dX1_edgeOf_76 (by decide) ?_
      exact W.iret (v := (-1)) hx hb hr (fun t9 ht9 _ => ⟨(-1), rfl, by have hN : x_3 = fEdgeNo w a d := (by simp [fEdgeNo, ex_3, t_3_2]); have hq := c_69; rw [b2i_eq0, hN] at hq; rw [fEdgeOf]; simp [hq]; try exact hN, ht9⟩) (fun q h => absurd h List.not_mem_nil) dX1_edgeOf_77
    · skip
      refine lv_iload_n hx hb dX1_edgeOf_72 rfl (lv_at hl 0 rfl) ?_
      refine lv_goto (tgt := 77) hx hb dX1_edgeOf_73 (by decide) ?_
      exact W.iret (v := x_3) hx hb hr (fun t9 ht9 _ => ⟨x_3, rfl, by have hN : x_3 = fEdgeNo w a d := (by simp [fEdgeNo, ex_3, t_3_2]); have hq := c_69; rw [b2i_eq0, hN] at hq; rw [fEdgeOf]; simp [hq]; try exact hN, ht9⟩) (fun q h => absurd h List.not_mem_nil) dX1_edgeOf_77
  refine lv_tableOut (tgt := 58) hx hb dX1_edgeOf_3 (by have q_0 := lv_neT t_3_0 (a := 0) rfl; have q_1 := lv_neT t_3_1 (a := 1) rfl; have q_2 := lv_neT t_3_2 (a := 2) rfl; omega) (by decide) ?_
  refine lv_iconst (v := 2) hx hb dX1_edgeOf_58 (by decide) ?_
  refine lv_iload_n hx hb dX1_edgeOf_59 rfl (lv_at hl 2 rfl) ?_
  refine lv_iconst (v := 1) hx hb dX1_edgeOf_60 (by decide) ?_
  refine lv_isub hx hb dX1_edgeOf_61 ?_
  refine lv_imul hx hb dX1_edgeOf_62 ?_
  refine lv_topi (fun x_4 ex_4 => ?_)
  refine lv_istore_n (lv' := [(3, .int x_4), (0, .ref g), (1, .int a), (2, .int d)]) hx hb dX1_edgeOf_63 rfl hl (by decide) rfl (fun ls hl => ?_)
  refine lv_aload_n hx hb dX1_edgeOf_64 rfl (lv_at hl 1 rfl) ?_
  refine lv_iload_n hx hb dX1_edgeOf_65 rfl (lv_at hl 0 rfl) ?_
  refine crVi (As := [.int x_4]) (rest := []) ⟨hx, hb, hml, hown, hts⟩ hE (cX1_hasEdge_ct l E g w h cc ec en ce ga aw ar ab x_4) (cwV 1 hts gX1_edgeOf_X1_hasEdge rfl rfl rfl (by decide +kernel) ⟨Nat.le_of_ble_eq_true rfl, Nat.le_of_ble_eq_true rfl⟩) (hP.sub (ws' := [(g, .inr (2, [.int w, .int h, .int cc, .int ec, .int en, .long ce, .ref ga])), (ga, .inr (1, [.int aw, .long ar, .long ab]))]) [0, 1] rfl) (va_recv hE.1 hP (ci := 2) (q0 := 0) rfl rfl) rfl hl.1 rfl (Nat.le_of_ble_eq_true rfl) dX1_edgeOf_66 ⟨Nat.zero_le _, Nat.zero_le _⟩ ?_
  refine lv_if_eq (tgt := 76) hx hb dX1_edgeOf_69 (by decide) (fun c_69 => ?_) (fun c_69 => ?_)
  · skip
    refine lv_iconst (v := (-1)) hx hb dX1_edgeOf_76 (by decide) ?_
    exact W.iret (v := (-1)) hx hb hr (fun t9 ht9 _ => ⟨(-1), rfl, by have hN : x_4 = fEdgeNo w a d := (by simp [fEdgeNo, ex_4, t_3_0, t_3_1, t_3_2]); have hq := c_69; rw [b2i_eq0, hN] at hq; rw [fEdgeOf]; simp [hq]; try exact hN, ht9⟩) (fun q h => absurd h List.not_mem_nil) dX1_edgeOf_77
  · skip
    refine lv_iload_n hx hb dX1_edgeOf_72 rfl (lv_at hl 0 rfl) ?_
    refine lv_goto (tgt := 77) hx hb dX1_edgeOf_73 (by decide) ?_
    exact W.iret (v := x_4) hx hb hr (fun t9 ht9 _ => ⟨x_4, rfl, by have hN : x_4 = fEdgeNo w a d := (by simp [fEdgeNo, ex_4, t_3_0, t_3_1, t_3_2]); have hq := c_69; rw [b2i_eq0, hN] at hq; rw [fEdgeOf]; simp [hq]; try exact hN, ht9⟩) (fun q h => absurd h List.not_mem_nil) dX1_edgeOf_77
set_option maxHeartbeats 4000000 in
set_option maxRecDepth 100000 in
theorem cX1_column_ct (l : Launch) (E : GE) (g : Nat) (w h cc ec en : Int32) (ce : Int64) (ga : Nat) (aw : Int32) (ar ab : Int64) (N : Nat) (a : Int32) (hN : N < 2 ^ 31) (hb0 : h = nI N) : rdL l yX1_column wsX1_column ({ frames := 1, cells := 0, slots := 0, locals := 20 }) E [.ref g, .int a] [(g, .inr (2, [.int w, .int h, .int cc, .int ec, .int en, .long ce, .ref ga])), (ga, .inr (1, [.int aw, .long ar, .long ab]))] (fCol w a N N 0) := by
  refine Met.ofW (cc := cX1_column) (maxL := 5) (ret := (some .long)) (by decide) rfl ?_
  intro p e s m args below meth c s₁ B hml hv
  obtain ⟨rfl, hE, hP⟩ := hv
  have hx := B.exec
  have hb := B.bytes
  have hr := B.returns
  have hts := atoms_spec (ws := wsX1_column) B.pre
  have hown : s.vm.findClass RX1 = some m.cls := findClass_of_methodNamed B.named
  have hlocks := B.notSynchronized
  have hP : va_P E.1 vwCl [(g, .inr (2, [.int w, .int h, .int cc, .int ec, .int en, .long ce, .ref ga])), (ga, .inr (1, [.int aw, .long ar, .long ab]))] s.heap := hP
  have hl := lv_entry ([.ref g, .int a]) (n := 5) (Nat.le_of_ble_eq_true rfl)
  rw [lg_entry_eq]
  generalize (lg_sl ([.ref g, .int a]) ++ List.replicate (5 - (lg_sl ([.ref g, .int a])).length) Slot.unset).toArray = ls at hl ⊢
  have hl : lv_has ls 5 [(0, .ref g), (1, .int a)] := hl
  have hf_15 := hts (.fieldLink RX1 15 "LoopRegions$Grid" "height" "I") (by decide +kernel)
  have hf_9 := hts (.fieldLink RX1 9 "LoopRegions$Grid" "width" "I") (by decide +kernel)
  have hi_RX1 : ∀ w ∈ wsX10, w ∈ wsX1_column := by decide +kernel
  refine lv_lconst (v := 0) hx hb dX1_column_0 (by decide) ?_
  refine lv_lstore_n (lv' := [(2, .long 0), (0, .ref g), (1, .int a)]) hx hb dX1_column_1 rfl hl (by decide) rfl (fun ls hl => ?_)
  refine lv_iconst (v := 0) hx hb dX1_column_2 (by decide) ?_
  refine lv_istore (lv' := [(4, .int 0), (2, .long 0), (0, .ref g), (1, .int a)]) hx hb dX1_column_3 hl (by decide) rfl (fun ls hl => ?_)
  refine W_loopR (σ := Int32 × Int64) (J := 5) (nL := 5) (fun n9 x => ∃ k9, n9 = k9 + 1 ∧ k9 ≤ N ∧ x.1 = nI (N - k9) ∧ fCol w a N k9 x.2 = fCol w a N N 0) (fun x => [(4, .int x.1), (2, .long x.2), (0, .ref g), (1, .int a)]) (fun x h => by obtain ⟨k, h, _⟩ := h; exact absurd h (by omega)) (fun n_5 ih_5 x ls hI_5 hl => ?_) (N + 1) (0, 0) (⟨N, rfl, Nat.le_refl _, by rw [Nat.sub_self]; rfl, by subst_vars; rfl⟩) (lv_sub hl [0, 1, 2, 3] rfl)
  obtain ⟨i, z⟩ := x
  try dsimp only at hI_5
  have hl : lv_has ls 5 [(4, .int i), (2, .long z), (0, .ref g), (1, .int a)] := hl
  obtain ⟨k, hk_5, hN_5, hi_5, hv_5⟩ := hI_5
  obtain rfl : n_5 = k := Nat.succ.inj hk_5
  refine lv_iload hx hb dX1_column_5 (lv_at hl 0 rfl) ?_
  refine lv_aload_n hx hb dX1_column_7 rfl (lv_at hl 2 rfl) ?_
  refine va_get (D := E.1) (ci := 2) (v := .int h) (C := RX1) (T := TX1) (N := 7) hx hb hts hi_RX1 hown hE.1 hP 0 rfl rfl 1 (by decide) hf_15 (fun _ h9 => h9) rfl dX1_column_8 ?_
  refine lv_icmp_ge (tgt := 35) hx hb dX1_column_11 (by decide) (fun c_11 => ?_) (fun c_11 => ?_)
  · skip
    refine lv_lload_n hx hb dX1_column_35 rfl (lv_at hl 1 rfl) ?_
    exact W.lret (v := z) hx hb hr (fun t9 ht9 _ => ⟨z, rfl, by obtain rfl : n_5 = 0 := lp_exit hN_5 hN (by rw [← hi_5, ← hb0]; exact c_11); exact hv_5, ht9⟩) (fun q h => absurd h List.not_mem_nil) dX1_column_36
  · skip
    obtain ⟨j, rfl⟩ := lp_go (k := n_5) (N := N) hN (by rw [← hi_5, ← hb0]; exact c_11)
    refine lv_lload_n hx hb dX1_column_14 rfl (lv_at hl 1 rfl) ?_
    refine lv_aload_n hx hb dX1_column_15 rfl (lv_at hl 2 rfl) ?_
    refine va_get (D := E.1) (ci := 2) (v := .int w) (C := RX1) (T := TX1) (N := 7) hx hb hts hi_RX1 hown hE.1 hP 0 rfl rfl 0 (by decide) hf_9 (fun _ h9 => h9) rfl dX1_column_16 ?_
    refine lv_iload hx hb dX1_column_19 (lv_at hl 0 rfl) ?_
    refine lv_imul hx hb dX1_column_21 ?_
    refine lv_iload_n hx hb dX1_column_22 rfl (lv_at hl 3 rfl) ?_
    refine lv_iadd hx hb dX1_column_23 ?_
    refine crNl (As := [.int ((w * i) + a)]) (rest := [.long z]) ⟨hx, hb, hml, hown, hts⟩ hE (cX5_only_ct l E ((w * i) + a)) ⟨va_cnB 1 hts gX1_column_X5_only_n36 rfl rfl rfl (hE.2 _ (List.mem_of_getElem? (i := 2) rfl)) (hts (.initialized RX5) (by decide +kernel)) (by decide +kernel) ⟨Nat.le_of_ble_eq_true rfl, Nat.le_of_ble_eq_true rfl⟩, hts (.static yX5_only) (by decide +kernel), trivial⟩ (fun k q h => by simp at h) rfl hl.1 rfl (Nat.le_of_ble_eq_true rfl) dX1_column_24 ⟨Nat.zero_le _, Nat.zero_le _⟩ ?_
    refine lv_lor hx hb dX1_column_27 ?_
    refine lv_topl (fun x_1 ex_1 => ?_)
    refine lv_lstore_n (lv' := [(2, .long x_1), (4, .int i), (0, .ref g), (1, .int a)]) hx hb dX1_column_28 rfl hl (by decide) rfl (fun ls hl => ?_)
    obtain ⟨x_2, ex_2⟩ : ∃ y : Int32, y = i + (1) := ⟨_, rfl⟩
    refine lv_iinc (v := x_2) (lv' := [(4, .int x_2), (2, .long x_1), (0, .ref g), (1, .int a)]) hx hb dX1_column_29 hl (k := 1) rfl (by rw [ex_2]; rfl) (by decide) rfl (fun ls hl => ?_)
    refine lv_goto (tgt := 5) hx hb dX1_column_32 (by decide) ?_
    exact ih_5 (x_2, x_1) ls (⟨j, rfl, by omega, by rw [ex_2, hi_5]; exact lp_step (by omega), by rw [← hv_5, fCol, ex_1, hi_5]⟩) (lv_sub hl [0, 1, 2, 3] rfl)
set_option maxHeartbeats 4000000 in
set_option maxRecDepth 100000 in
theorem cX1_row_ct (l : Launch) (E : GE) (g : Nat) (w h cc ec en : Int32) (ce : Int64) (ga : Nat) (aw : Int32) (ar ab : Int64) (N : Nat) (a : Int32) (hN : N < 2 ^ 31) (hb0 : w = nI N) : rdL l yX1_row wsX1_row ({ frames := 1, cells := 0, slots := 0, locals := 20 }) E [.ref g, .int a] [(g, .inr (2, [.int w, .int h, .int cc, .int ec, .int en, .long ce, .ref ga])), (ga, .inr (1, [.int aw, .long ar, .long ab]))] (fRow w a N N 0) := by
  refine Met.ofW (cc := cX1_row) (maxL := 5) (ret := (some .long)) (by decide) rfl ?_
  intro p e s m args below meth c s₁ B hml hv
  obtain ⟨rfl, hE, hP⟩ := hv
  have hx := B.exec
  have hb := B.bytes
  have hr := B.returns
  have hts := atoms_spec (ws := wsX1_row) B.pre
  have hown : s.vm.findClass RX1 = some m.cls := findClass_of_methodNamed B.named
  have hlocks := B.notSynchronized
  have hP : va_P E.1 vwCl [(g, .inr (2, [.int w, .int h, .int cc, .int ec, .int en, .long ce, .ref ga])), (ga, .inr (1, [.int aw, .long ar, .long ab]))] s.heap := hP
  have hl := lv_entry ([.ref g, .int a]) (n := 5) (Nat.le_of_ble_eq_true rfl)
  rw [lg_entry_eq]
  generalize (lg_sl ([.ref g, .int a]) ++ List.replicate (5 - (lg_sl ([.ref g, .int a])).length) Slot.unset).toArray = ls at hl ⊢
  have hl : lv_has ls 5 [(0, .ref g), (1, .int a)] := hl
  have hf_9 := hts (.fieldLink RX1 9 "LoopRegions$Grid" "width" "I") (by decide +kernel)
  have hi_RX1 : ∀ w ∈ wsX10, w ∈ wsX1_row := by decide +kernel
  refine lv_lconst (v := 0) hx hb dX1_row_0 (by decide) ?_
  refine lv_lstore_n (lv' := [(2, .long 0), (0, .ref g), (1, .int a)]) hx hb dX1_row_1 rfl hl (by decide) rfl (fun ls hl => ?_)
  refine lv_iconst (v := 0) hx hb dX1_row_2 (by decide) ?_
  refine lv_istore (lv' := [(4, .int 0), (2, .long 0), (0, .ref g), (1, .int a)]) hx hb dX1_row_3 hl (by decide) rfl (fun ls hl => ?_)
  refine W_loopR (σ := Int32 × Int64) (J := 5) (nL := 5) (fun n9 x => ∃ k9, n9 = k9 + 1 ∧ k9 ≤ N ∧ x.1 = nI (N - k9) ∧ fRow w a N k9 x.2 = fRow w a N N 0) (fun x => [(4, .int x.1), (2, .long x.2), (0, .ref g), (1, .int a)]) (fun x h => by obtain ⟨k, h, _⟩ := h; exact absurd h (by omega)) (fun n_5 ih_5 x ls hI_5 hl => ?_) (N + 1) (0, 0) (⟨N, rfl, Nat.le_refl _, by rw [Nat.sub_self]; rfl, by subst_vars; rfl⟩) (lv_sub hl [0, 1, 2, 3] rfl)
  obtain ⟨i, z⟩ := x
  try dsimp only at hI_5
  have hl : lv_has ls 5 [(4, .int i), (2, .long z), (0, .ref g), (1, .int a)] := hl
  obtain ⟨k, hk_5, hN_5, hi_5, hv_5⟩ := hI_5
  obtain rfl : n_5 = k := Nat.succ.inj hk_5
  refine lv_iload hx hb dX1_row_5 (lv_at hl 0 rfl) ?_
  refine lv_aload_n hx hb dX1_row_7 rfl (lv_at hl 2 rfl) ?_
  refine va_get (D := E.1) (ci := 2) (v := .int w) (C := RX1) (T := TX1) (N := 7) hx hb hts hi_RX1 hown hE.1 hP 0 rfl rfl 0 (by decide) hf_9 (fun _ h9 => h9) rfl dX1_row_8 ?_
  refine lv_icmp_ge (tgt := 35) hx hb dX1_row_11 (by decide) (fun c_11 => ?_) (fun c_11 => ?_)
  · skip
    refine lv_lload_n hx hb dX1_row_35 rfl (lv_at hl 1 rfl) ?_
    exact W.lret (v := z) hx hb hr (fun t9 ht9 _ => ⟨z, rfl, by obtain rfl : n_5 = 0 := lp_exit hN_5 hN (by rw [← hi_5, ← hb0]; exact c_11); exact hv_5, ht9⟩) (fun q h => absurd h List.not_mem_nil) dX1_row_36
  · skip
    obtain ⟨j, rfl⟩ := lp_go (k := n_5) (N := N) hN (by rw [← hi_5, ← hb0]; exact c_11)
    refine lv_lload_n hx hb dX1_row_14 rfl (lv_at hl 1 rfl) ?_
    refine lv_aload_n hx hb dX1_row_15 rfl (lv_at hl 2 rfl) ?_
    refine va_get (D := E.1) (ci := 2) (v := .int w) (C := RX1) (T := TX1) (N := 7) hx hb hts hi_RX1 hown hE.1 hP 0 rfl rfl 0 (by decide) hf_9 (fun _ h9 => h9) rfl dX1_row_16 ?_
    refine lv_iload_n hx hb dX1_row_19 rfl (lv_at hl 3 rfl) ?_
    refine lv_imul hx hb dX1_row_20 ?_
    refine lv_iload hx hb dX1_row_21 (lv_at hl 0 rfl) ?_
    refine lv_iadd hx hb dX1_row_23 ?_
    refine crNl (As := [.int ((w * a) + i)]) (rest := [.long z]) ⟨hx, hb, hml, hown, hts⟩ hE (cX5_only_ct l E ((w * a) + i)) ⟨va_cnB 1 hts gX1_row_X5_only_n36 rfl rfl rfl (hE.2 _ (List.mem_of_getElem? (i := 2) rfl)) (hts (.initialized RX5) (by decide +kernel)) (by decide +kernel) ⟨Nat.le_of_ble_eq_true rfl, Nat.le_of_ble_eq_true rfl⟩, hts (.static yX5_only) (by decide +kernel), trivial⟩ (fun k q h => by simp at h) rfl hl.1 rfl (Nat.le_of_ble_eq_true rfl) dX1_row_24 ⟨Nat.zero_le _, Nat.zero_le _⟩ ?_
    refine lv_lor hx hb dX1_row_27 ?_
    refine lv_topl (fun x_1 ex_1 => ?_)
    refine lv_lstore_n (lv' := [(2, .long x_1), (4, .int i), (0, .ref g), (1, .int a)]) hx hb dX1_row_28 rfl hl (by decide) rfl (fun ls hl => ?_)
    obtain ⟨x_2, ex_2⟩ : ∃ y : Int32, y = i + (1) := ⟨_, rfl⟩
    refine lv_iinc (v := x_2) (lv' := [(4, .int x_2), (2, .long x_1), (0, .ref g), (1, .int a)]) hx hb dX1_row_29 hl (k := 1) rfl (by rw [ex_2]; rfl) (by decide) rfl (fun ls hl => ?_)
    refine lv_goto (tgt := 5) hx hb dX1_row_32 (by decide) ?_
    exact ih_5 (x_2, x_1) ls (⟨j, rfl, by omega, by rw [ex_2, hi_5]; exact lp_step (by omega), by rw [← hv_5, fRow, ex_1, hi_5]⟩) (lv_sub hl [0, 1, 2, 3] rfl)
set_option maxHeartbeats 4000000 in
set_option maxRecDepth 100000 in
theorem cX1_borderCount_ct (l : Launch) (E : GE) (g : Nat) (w h cc ec en : Int32) (ce : Int64) (ga : Nat) (aw : Int32) (ar ab : Int64)  : rdI l yX1_borderCount wsX1_borderCount ({ frames := 0, cells := 0, slots := 0, locals := 0 }) E [.ref g] [(g, .inr (2, [.int w, .int h, .int cc, .int ec, .int en, .long ce, .ref ga])), (ga, .inr (1, [.int aw, .long ar, .long ab]))] (w - 1 + h - 1) := by
  refine Met.ofW (cc := cX1_borderCount) (maxL := 1) (ret := (some .int)) (by decide) rfl ?_
  intro p e s m args below meth c s₁ B hml hv
  obtain ⟨rfl, hE, hP⟩ := hv
  have hx := B.exec
  have hb := B.bytes
  have hr := B.returns
  have hts := atoms_spec (ws := wsX1_borderCount) B.pre
  have hown : s.vm.findClass RX1 = some m.cls := findClass_of_methodNamed B.named
  have hlocks := B.notSynchronized
  have hP : va_P E.1 vwCl [(g, .inr (2, [.int w, .int h, .int cc, .int ec, .int en, .long ce, .ref ga])), (ga, .inr (1, [.int aw, .long ar, .long ab]))] s.heap := hP
  have hl := lv_entry ([.ref g]) (n := 1) (Nat.le_of_ble_eq_true rfl)
  rw [lg_entry_eq]
  generalize (lg_sl ([.ref g]) ++ List.replicate (1 - (lg_sl ([.ref g])).length) Slot.unset).toArray = ls at hl ⊢
  have hl : lv_has ls 1 [(0, .ref g)] := hl
  have hf_15 := hts (.fieldLink RX1 15 "LoopRegions$Grid" "height" "I") (by decide +kernel)
  have hf_9 := hts (.fieldLink RX1 9 "LoopRegions$Grid" "width" "I") (by decide +kernel)
  have hi_RX1 : ∀ w ∈ wsX10, w ∈ wsX1_borderCount := by decide +kernel
  refine lv_aload_n hx hb dX1_borderCount_0 rfl (lv_at hl 0 rfl) ?_
  refine va_get (D := E.1) (ci := 2) (v := .int w) (C := RX1) (T := TX1) (N := 7) hx hb hts hi_RX1 hown hE.1 hP 0 rfl rfl 0 (by decide) hf_9 (fun _ h9 => h9) rfl dX1_borderCount_1 ?_
  refine lv_iconst (v := 1) hx hb dX1_borderCount_4 (by decide) ?_
  refine lv_isub hx hb dX1_borderCount_5 ?_
  refine lv_aload_n hx hb dX1_borderCount_6 rfl (lv_at hl 0 rfl) ?_
  refine va_get (D := E.1) (ci := 2) (v := .int h) (C := RX1) (T := TX1) (N := 7) hx hb hts hi_RX1 hown hE.1 hP 0 rfl rfl 1 (by decide) hf_15 (fun _ h9 => h9) rfl dX1_borderCount_7 ?_
  refine lv_iadd hx hb dX1_borderCount_10 ?_
  refine lv_iconst (v := 1) hx hb dX1_borderCount_11 (by decide) ?_
  refine lv_isub hx hb dX1_borderCount_12 ?_
  exact W.iret (v := ((w - 1) + h) - 1) hx hb hr (fun t9 ht9 _ => ⟨((w - 1) + h) - 1, rfl, rfl, ht9⟩) (fun q h => absurd h List.not_mem_nil) dX1_borderCount_13
set_option maxHeartbeats 4000000 in
set_option maxRecDepth 100000 in
theorem cX3_stateOf_ct (l : Launch) (E : GE) (q on off : Nat) (mu ba bl wh : Int64) (to : Int32) (wr : Bool) (w1 : Int32) (r1 b1 : Int64) (w2 : Int32) (r2 b2 : Int64) (a : Int32)  : rdI l yX3_stateOf wsX3_stateOf ({ frames := 3, cells := 0, slots := 0, locals := 63 }) E [.ref q, .int a] [(q, .inr (4, [.ref on, .ref off, .long mu, .long ba, .long bl, .long wh, .int to, .int (b2i wr)])), (on, .inr (1, [.int w1, .long r1, .long b1])), (off, .inr (1, [.int w2, .long r2, .long b2]))] (fState r1 b1 r2 b2 a) := by
  refine Met.ofW (cc := cX3_stateOf) (maxL := 2) (ret := (some .int)) (by decide) rfl ?_
  intro p e s m args below meth c s₁ B hml hv
  obtain ⟨rfl, hE, hP⟩ := hv
  have hx := B.exec
  have hb := B.bytes
  have hr := B.returns
  have hts := atoms_spec (ws := wsX3_stateOf) B.pre
  have hown : s.vm.findClass RX3 = some m.cls := findClass_of_methodNamed B.named
  have hlocks := B.notSynchronized
  have hP : va_P E.1 vwCl [(q, .inr (4, [.ref on, .ref off, .long mu, .long ba, .long bl, .long wh, .int to, .int (b2i wr)])), (on, .inr (1, [.int w1, .long r1, .long b1])), (off, .inr (1, [.int w2, .long r2, .long b2]))] s.heap := hP
  have hl := lv_entry ([.ref q, .int a]) (n := 2) (Nat.le_of_ble_eq_true rfl)
  rw [lg_entry_eq]
  generalize (lg_sl ([.ref q, .int a]) ++ List.replicate (2 - (lg_sl ([.ref q, .int a])).length) Slot.unset).toArray = ls at hl ⊢
  have hl : lv_has ls 2 [(0, .ref q), (1, .int a)] := hl
  have hf_20 := hts (.fieldLink RX3 20 "LoopRegions$State" "on" "LLoopRegions$Edges;") (by decide +kernel)
  have hf_26 := hts (.fieldLink RX3 26 "LoopRegions$State" "off" "LLoopRegions$Edges;") (by decide +kernel)
  have hi_RX3 : ∀ w ∈ wsX30, w ∈ wsX3_stateOf := by decide +kernel
  refine lv_aload_n hx hb dX3_stateOf_0 rfl (lv_at hl 0 rfl) ?_
  refine va_get (D := E.1) (ci := 4) (v := .ref on) (C := RX3) (T := TX3) (N := 8) hx hb hts hi_RX3 hown hE.1 hP 0 rfl rfl 0 (by decide) hf_20 (fun _ h9 => h9) rfl dX3_stateOf_1 ?_
  refine lv_iload_n hx hb dX3_stateOf_4 rfl (lv_at hl 1 rfl) ?_
  refine crVi (As := [.int a]) (rest := []) ⟨hx, hb, hml, hown, hts⟩ hE (cX0_has_ct l E on w1 r1 b1 a) (cwV 1 hts gX3_stateOf_X0_has rfl rfl rfl (by decide +kernel) ⟨Nat.le_of_ble_eq_true rfl, Nat.le_of_ble_eq_true rfl⟩) (hP.sub (ws' := [(on, .inr (1, [.int w1, .long r1, .long b1]))]) [1] rfl) (va_recv hE.1 hP (ci := 1) (q0 := 1) rfl rfl) rfl hl.1 rfl (Nat.le_of_ble_eq_true rfl) dX3_stateOf_5 ⟨Nat.zero_le _, Nat.zero_le _⟩ ?_
  refine lv_if_eq (tgt := 13) hx hb dX3_stateOf_8 (by decide) (fun c_8 => ?_) (fun c_8 => ?_)
  · skip
    refine lv_aload_n hx hb dX3_stateOf_13 rfl (lv_at hl 0 rfl) ?_
    refine va_get (D := E.1) (ci := 4) (v := .ref off) (C := RX3) (T := TX3) (N := 8) hx hb hts hi_RX3 hown hE.1 hP 0 rfl rfl 1 (by decide) hf_26 (fun _ h9 => h9) rfl dX3_stateOf_14 ?_
    refine lv_iload_n hx hb dX3_stateOf_17 rfl (lv_at hl 1 rfl) ?_
    refine crVi (As := [.int a]) (rest := []) ⟨hx, hb, hml, hown, hts⟩ hE (cX0_has_ct l E off w2 r2 b2 a) (cwV 1 hts gX3_stateOf_X0_has rfl rfl rfl (by decide +kernel) ⟨Nat.le_of_ble_eq_true rfl, Nat.le_of_ble_eq_true rfl⟩) (hP.sub (ws' := [(off, .inr (1, [.int w2, .long r2, .long b2]))]) [2] rfl) (va_recv hE.1 hP (ci := 1) (q0 := 2) rfl rfl) rfl hl.1 rfl (Nat.le_of_ble_eq_true rfl) dX3_stateOf_18 ⟨Nat.zero_le _, Nat.zero_le _⟩ ?_
    refine lv_if_eq (tgt := 28) hx hb dX3_stateOf_21 (by decide) (fun c_21 => ?_) (fun c_21 => ?_)
    · skip
      refine lv_iconst (v := 0) hx hb dX3_stateOf_28 (by decide) ?_
      exact W.iret (v := 0) hx hb hr (fun t9 ht9 _ => ⟨0, rfl, by simp only [b2i_eq0] at c_8 c_21; simp [fState, c_8, c_21], ht9⟩) (fun q h => absurd h List.not_mem_nil) dX3_stateOf_29
    · skip
      refine lv_iconst (v := 2) hx hb dX3_stateOf_24 (by decide) ?_
      refine lv_goto (tgt := 29) hx hb dX3_stateOf_25 (by decide) ?_
      exact W.iret (v := 2) hx hb hr (fun t9 ht9 _ => ⟨2, rfl, by simp only [b2i_eq0] at c_8 c_21; simp [fState, c_8, c_21], ht9⟩) (fun q h => absurd h List.not_mem_nil) dX3_stateOf_29
  · skip
    refine lv_iconst (v := 1) hx hb dX3_stateOf_11 (by decide) ?_
    exact W.iret (v := 1) hx hb hr (fun t9 ht9 _ => ⟨1, rfl, by simp only [b2i_eq0] at c_8; simp [fState, c_8], ht9⟩) (fun q h => absurd h List.not_mem_nil) dX3_stateOf_12
set_option maxHeartbeats 4000000 in
set_option maxRecDepth 100000 in
theorem cX3_dutyOf_ct (l : Launch) (E : GE) (q on off : Nat) (mu ba bl wh : Int64) (to : Int32) (wr : Bool) (w1 : Int32) (r1 b1 : Int64) (w2 : Int32) (r2 b2 : Int64) (a : Int32)  : rdI l yX3_dutyOf wsX3_dutyOf ({ frames := 2, cells := 0, slots := 0, locals := 42 }) E [.ref q, .int a] [(q, .inr (4, [.ref on, .ref off, .long mu, .long ba, .long bl, .long wh, .int to, .int (b2i wr)])), (on, .inr (1, [.int w1, .long r1, .long b1])), (off, .inr (1, [.int w2, .long r2, .long b2]))] (fTri mu ba a) := by
  refine Met.ofW (cc := cX3_dutyOf) (maxL := 2) (ret := (some .int)) (by decide) rfl ?_
  intro p e s m args below meth c s₁ B hml hv
  obtain ⟨rfl, hE, hP⟩ := hv
  have hx := B.exec
  have hb := B.bytes
  have hr := B.returns
  have hts := atoms_spec (ws := wsX3_dutyOf) B.pre
  have hown : s.vm.findClass RX3 = some m.cls := findClass_of_methodNamed B.named
  have hlocks := B.notSynchronized
  have hP : va_P E.1 vwCl [(q, .inr (4, [.ref on, .ref off, .long mu, .long ba, .long bl, .long wh, .int to, .int (b2i wr)])), (on, .inr (1, [.int w1, .long r1, .long b1])), (off, .inr (1, [.int w2, .long r2, .long b2]))] s.heap := hP
  have hl := lv_entry ([.ref q, .int a]) (n := 2) (Nat.le_of_ble_eq_true rfl)
  rw [lg_entry_eq]
  generalize (lg_sl ([.ref q, .int a]) ++ List.replicate (2 - (lg_sl ([.ref q, .int a])).length) Slot.unset).toArray = ls at hl ⊢
  have hl : lv_has ls 2 [(0, .ref q), (1, .int a)] := hl
  have hf_36 := hts (.fieldLink RX3 36 "LoopRegions$State" "must" "J") (by decide +kernel)
  have hf_40 := hts (.fieldLink RX3 40 "LoopRegions$State" "barred" "J") (by decide +kernel)
  have hi_RX3 : ∀ w ∈ wsX30, w ∈ wsX3_dutyOf := by decide +kernel
  refine lv_aload_n hx hb dX3_dutyOf_0 rfl (lv_at hl 0 rfl) ?_
  refine va_get (D := E.1) (ci := 4) (v := .long mu) (C := RX3) (T := TX3) (N := 8) hx hb hts hi_RX3 hown hE.1 hP 0 rfl rfl 2 (by decide) hf_36 (fun _ h9 => h9) rfl dX3_dutyOf_1 ?_
  refine lv_iload_n hx hb dX3_dutyOf_4 rfl (lv_at hl 1 rfl) ?_
  refine crNi (As := [.long mu, .int a]) (rest := []) ⟨hx, hb, hml, hown, hts⟩ hE (cX5_holds_ct l E mu a) ⟨va_cnB 2 hts gX3_dutyOf_X5_holds_n60 rfl rfl rfl (hE.2 _ (List.mem_of_getElem? (i := 6) rfl)) (hts (.initialized RX5) (by decide +kernel)) (by decide +kernel) ⟨Nat.le_of_ble_eq_true rfl, Nat.le_of_ble_eq_true rfl⟩, hts (.static yX5_holds) (by decide +kernel), trivial⟩ (fun k q h => by simp at h) rfl hl.1 rfl (Nat.le_of_ble_eq_true rfl) dX3_dutyOf_5 ⟨Nat.zero_le _, Nat.zero_le _⟩ ?_
  refine lv_if_eq (tgt := 13) hx hb dX3_dutyOf_8 (by decide) (fun c_8 => ?_) (fun c_8 => ?_)
  · skip
    refine lv_aload_n hx hb dX3_dutyOf_13 rfl (lv_at hl 0 rfl) ?_
    refine va_get (D := E.1) (ci := 4) (v := .long ba) (C := RX3) (T := TX3) (N := 8) hx hb hts hi_RX3 hown hE.1 hP 0 rfl rfl 3 (by decide) hf_40 (fun _ h9 => h9) rfl dX3_dutyOf_14 ?_
    refine lv_iload_n hx hb dX3_dutyOf_17 rfl (lv_at hl 1 rfl) ?_
    refine crNi (As := [.long ba, .int a]) (rest := []) ⟨hx, hb, hml, hown, hts⟩ hE (cX5_holds_ct l E ba a) ⟨va_cnB 2 hts gX3_dutyOf_X5_holds_n60 rfl rfl rfl (hE.2 _ (List.mem_of_getElem? (i := 6) rfl)) (hts (.initialized RX5) (by decide +kernel)) (by decide +kernel) ⟨Nat.le_of_ble_eq_true rfl, Nat.le_of_ble_eq_true rfl⟩, hts (.static yX5_holds) (by decide +kernel), trivial⟩ (fun k q h => by simp at h) rfl hl.1 rfl (Nat.le_of_ble_eq_true rfl) dX3_dutyOf_18 ⟨Nat.zero_le _, Nat.zero_le _⟩ ?_
    refine lv_if_eq (tgt := 28) hx hb dX3_dutyOf_21 (by decide) (fun c_21 => ?_) (fun c_21 => ?_)
    · skip
      refine lv_iconst (v := 0) hx hb dX3_dutyOf_28 (by decide) ?_
      exact W.iret (v := 0) hx hb hr (fun t9 ht9 _ => ⟨0, rfl, by simp only [b2i_eq0] at c_8 c_21; simp [fTri, c_8, c_21], ht9⟩) (fun q h => absurd h List.not_mem_nil) dX3_dutyOf_29
    · skip
      refine lv_iconst (v := 2) hx hb dX3_dutyOf_24 (by decide) ?_
      refine lv_goto (tgt := 29) hx hb dX3_dutyOf_25 (by decide) ?_
      exact W.iret (v := 2) hx hb hr (fun t9 ht9 _ => ⟨2, rfl, by simp only [b2i_eq0] at c_8 c_21; simp [fTri, c_8, c_21], ht9⟩) (fun q h => absurd h List.not_mem_nil) dX3_dutyOf_29
  · skip
    refine lv_iconst (v := 1) hx hb dX3_dutyOf_11 (by decide) ?_
    exact W.iret (v := 1) hx hb hr (fun t9 ht9 _ => ⟨1, rfl, by simp only [b2i_eq0] at c_8; simp [fTri, c_8], ht9⟩) (fun q h => absurd h List.not_mem_nil) dX3_dutyOf_12
set_option maxHeartbeats 4000000 in
set_option maxRecDepth 100000 in
theorem cX3_shadeOf_ct (l : Launch) (E : GE) (q on off : Nat) (mu ba bl wh : Int64) (to : Int32) (wr : Bool) (w1 : Int32) (r1 b1 : Int64) (w2 : Int32) (r2 b2 : Int64) (a : Int32)  : rdI l yX3_shadeOf wsX3_shadeOf ({ frames := 2, cells := 0, slots := 0, locals := 42 }) E [.ref q, .int a] [(q, .inr (4, [.ref on, .ref off, .long mu, .long ba, .long bl, .long wh, .int to, .int (b2i wr)])), (on, .inr (1, [.int w1, .long r1, .long b1])), (off, .inr (1, [.int w2, .long r2, .long b2]))] (fTri bl wh a) := by
  refine Met.ofW (cc := cX3_shadeOf) (maxL := 2) (ret := (some .int)) (by decide) rfl ?_
  intro p e s m args below meth c s₁ B hml hv
  obtain ⟨rfl, hE, hP⟩ := hv
  have hx := B.exec
  have hb := B.bytes
  have hr := B.returns
  have hts := atoms_spec (ws := wsX3_shadeOf) B.pre
  have hown : s.vm.findClass RX3 = some m.cls := findClass_of_methodNamed B.named
  have hlocks := B.notSynchronized
  have hP : va_P E.1 vwCl [(q, .inr (4, [.ref on, .ref off, .long mu, .long ba, .long bl, .long wh, .int to, .int (b2i wr)])), (on, .inr (1, [.int w1, .long r1, .long b1])), (off, .inr (1, [.int w2, .long r2, .long b2]))] s.heap := hP
  have hl := lv_entry ([.ref q, .int a]) (n := 2) (Nat.le_of_ble_eq_true rfl)
  rw [lg_entry_eq]
  generalize (lg_sl ([.ref q, .int a]) ++ List.replicate (2 - (lg_sl ([.ref q, .int a])).length) Slot.unset).toArray = ls at hl ⊢
  have hl : lv_has ls 2 [(0, .ref q), (1, .int a)] := hl
  have hf_43 := hts (.fieldLink RX3 43 "LoopRegions$State" "black" "J") (by decide +kernel)
  have hf_46 := hts (.fieldLink RX3 46 "LoopRegions$State" "white" "J") (by decide +kernel)
  have hi_RX3 : ∀ w ∈ wsX30, w ∈ wsX3_shadeOf := by decide +kernel
  refine lv_aload_n hx hb dX3_shadeOf_0 rfl (lv_at hl 0 rfl) ?_
  refine va_get (D := E.1) (ci := 4) (v := .long bl) (C := RX3) (T := TX3) (N := 8) hx hb hts hi_RX3 hown hE.1 hP 0 rfl rfl 4 (by decide) hf_43 (fun _ h9 => h9) rfl dX3_shadeOf_1 ?_
  refine lv_iload_n hx hb dX3_shadeOf_4 rfl (lv_at hl 1 rfl) ?_
  refine crNi (As := [.long bl, .int a]) (rest := []) ⟨hx, hb, hml, hown, hts⟩ hE (cX5_holds_ct l E bl a) ⟨va_cnB 2 hts gX3_shadeOf_X5_holds_n60 rfl rfl rfl (hE.2 _ (List.mem_of_getElem? (i := 6) rfl)) (hts (.initialized RX5) (by decide +kernel)) (by decide +kernel) ⟨Nat.le_of_ble_eq_true rfl, Nat.le_of_ble_eq_true rfl⟩, hts (.static yX5_holds) (by decide +kernel), trivial⟩ (fun k q h => by simp at h) rfl hl.1 rfl (Nat.le_of_ble_eq_true rfl) dX3_shadeOf_5 ⟨Nat.zero_le _, Nat.zero_le _⟩ ?_
  refine lv_if_eq (tgt := 13) hx hb dX3_shadeOf_8 (by decide) (fun c_8 => ?_) (fun c_8 => ?_)
  · skip
    refine lv_aload_n hx hb dX3_shadeOf_13 rfl (lv_at hl 0 rfl) ?_
    refine va_get (D := E.1) (ci := 4) (v := .long wh) (C := RX3) (T := TX3) (N := 8) hx hb hts hi_RX3 hown hE.1 hP 0 rfl rfl 5 (by decide) hf_46 (fun _ h9 => h9) rfl dX3_shadeOf_14 ?_
    refine lv_iload_n hx hb dX3_shadeOf_17 rfl (lv_at hl 1 rfl) ?_
    refine crNi (As := [.long wh, .int a]) (rest := []) ⟨hx, hb, hml, hown, hts⟩ hE (cX5_holds_ct l E wh a) ⟨va_cnB 2 hts gX3_shadeOf_X5_holds_n60 rfl rfl rfl (hE.2 _ (List.mem_of_getElem? (i := 6) rfl)) (hts (.initialized RX5) (by decide +kernel)) (by decide +kernel) ⟨Nat.le_of_ble_eq_true rfl, Nat.le_of_ble_eq_true rfl⟩, hts (.static yX5_holds) (by decide +kernel), trivial⟩ (fun k q h => by simp at h) rfl hl.1 rfl (Nat.le_of_ble_eq_true rfl) dX3_shadeOf_18 ⟨Nat.zero_le _, Nat.zero_le _⟩ ?_
    refine lv_if_eq (tgt := 28) hx hb dX3_shadeOf_21 (by decide) (fun c_21 => ?_) (fun c_21 => ?_)
    · skip
      refine lv_iconst (v := 0) hx hb dX3_shadeOf_28 (by decide) ?_
      exact W.iret (v := 0) hx hb hr (fun t9 ht9 _ => ⟨0, rfl, by simp only [b2i_eq0] at c_8 c_21; simp [fTri, c_8, c_21], ht9⟩) (fun q h => absurd h List.not_mem_nil) dX3_shadeOf_29
    · skip
      refine lv_iconst (v := 2) hx hb dX3_shadeOf_24 (by decide) ?_
      refine lv_goto (tgt := 29) hx hb dX3_shadeOf_25 (by decide) ?_
      exact W.iret (v := 2) hx hb hr (fun t9 ht9 _ => ⟨2, rfl, by simp only [b2i_eq0] at c_8 c_21; simp [fTri, c_8, c_21], ht9⟩) (fun q h => absurd h List.not_mem_nil) dX3_shadeOf_29
  · skip
    refine lv_iconst (v := 1) hx hb dX3_shadeOf_11 (by decide) ?_
    exact W.iret (v := 1) hx hb hr (fun t9 ht9 _ => ⟨1, rfl, by simp only [b2i_eq0] at c_8; simp [fTri, c_8], ht9⟩) (fun q h => absurd h List.not_mem_nil) dX3_shadeOf_12
set_option maxHeartbeats 4000000 in
set_option maxRecDepth 100000 in
theorem cX3_setEdge_ct (l : Launch) (E : GE) (sz : Nat) (q on off : Nat) (mu ba bl wh : Int64) (to : Int32) (wr : Bool) (w1 : Int32) (r1 b1 : Int64) (w2 : Int32) (r2 b2 : Int64) (a : Int32) (z : Bool)  : wrM l yX3_setEdge wsX3_setEdge ({ frames := 2, cells := 0, slots := 0, locals := 41 }) E sz [.ref q, .int a, .int (b2i z)] [(q, .inr (4, [.ref on, .ref off, .long mu, .long ba, .long bl, .long wh, .int to, .int (b2i wr)])), (on, .inr (1, [.int w1, .long r1, .long b1])), (off, .inr (1, [.int w2, .long r2, .long b2]))] none (fun cs' => cs' = [(q, .inr (4, [.ref on, .ref off, .long mu, .long ba, .long bl, .long wh, .int to, .int (b2i wr)])), (on, .inr (1, [.int w1, .long (if z then fAddR r1 a else r1), .long (if z then fAddB b1 a else b1)])), (off, .inr (1, [.int w2, .long (if z then r2 else fAddR r2 a), .long (if z then b2 else fAddB b2 a)]))]) 0 0 := by
  refine Met.ofW (cc := cX3_setEdge) (maxL := 3) (ret := none) (by decide) rfl ?_
  intro p e s m args below meth c s₁ B hml hv
  obtain ⟨rfl, hsz, hE, hP, hD0⟩ := hv
  have hx := B.exec
  have hb := B.bytes
  have hr := B.returns
  have hts := atoms_spec (ws := wsX3_setEdge) B.pre
  have hown : s.vm.findClass RX3 = some m.cls := findClass_of_methodNamed B.named
  have hlocks := B.notSynchronized
  subst hsz
  have hD := hD0.self (sz := s.heap.size)
  generalize hAe : va_A [(q, .inr (4, [.ref on, .ref off, .long mu, .long ba, .long bl, .long wh, .int to, .int (b2i wr)])), (on, .inr (1, [.int w1, .long r1, .long b1])), (off, .inr (1, [.int w2, .long r2, .long b2]))] s.heap.size = A at hD ⊢
  have hA : ∀ q : Nat, s.heap.size ≤ q → A q := fun q h => by rw [← hAe]; exact Or.inr h
  have hS : va_S A s.heap s.heap [] := va_S.rf
  have hP : va_P E.1 vwCl [(q, .inr (4, [.ref on, .ref off, .long mu, .long ba, .long bl, .long wh, .int to, .int (b2i wr)])), (on, .inr (1, [.int w1, .long r1, .long b1])), (off, .inr (1, [.int w2, .long r2, .long b2]))] s.heap := hP
  have hl := lv_entry ([.ref q, .int a, .int (b2i z)]) (n := 3) (Nat.le_of_ble_eq_true rfl)
  rw [lg_entry_eq]
  generalize (lg_sl ([.ref q, .int a, .int (b2i z)]) ++ List.replicate (3 - (lg_sl ([.ref q, .int a, .int (b2i z)])).length) Slot.unset).toArray = ls at hl ⊢
  have hl : lv_has ls 3 [(0, .ref q), (1, .int a), (2, .int (b2i z))] := hl
  have hf_20 := hts (.fieldLink RX3 20 "LoopRegions$State" "on" "LLoopRegions$Edges;") (by decide +kernel)
  have hf_26 := hts (.fieldLink RX3 26 "LoopRegions$State" "off" "LLoopRegions$Edges;") (by decide +kernel)
  have hi_RX3 : ∀ w ∈ wsX30, w ∈ wsX3_setEdge := by decide +kernel
  refine lv_iload_n hx hb dX3_setEdge_0 rfl (lv_at hl 2 rfl) ?_
  refine lv_if_eq (tgt := 15) hx hb dX3_setEdge_1 (by decide) (fun c_1 => ?_) (fun c_1 => ?_)
  · skip
    refine lv_aload_n hx hb dX3_setEdge_15 rfl (lv_at hl 0 rfl) ?_
    refine va_get (D := E.1) (ci := 4) (v := .ref off) (C := RX3) (T := TX3) (N := 8) hx hb hts hi_RX3 hown hE.1 hP 0 rfl rfl 1 (by decide) hf_26 (fun _ h9 => h9) rfl dX3_setEdge_16 ?_
    refine lv_iload_n hx hb dX3_setEdge_19 rfl (lv_at hl 1 rfl) ?_
    refine wrV (As := [.int a]) (rest := []) (wr := [(q, .inr (4, [.ref on, .ref off, .long mu, .long ba, .long bl, .long wh, .int to, .int (b2i wr)])), (on, .inr (1, [.int w1, .long r1, .long b1]))]) ⟨hx, hb, hml, hown, hts⟩ hE (cX0_add_ct l E s.heap.size off w2 r2 b2 a) (cwV 1 hts gX3_setEdge_X0_add rfl rfl rfl (by decide +kernel) ⟨Nat.le_of_ble_eq_true rfl, Nat.le_of_ble_eq_true rfl⟩) hP hD hS hA [2] [0, 1] rfl rfl (by decide) (by decide) (hP.sub (ws' := [(off, .inr (1, [.int w2, .long r2, .long b2]))]) [2] rfl) (hD.sub (ws' := [(off, .inr (1, [.int w2, .long r2, .long b2]))]) [2] (by decide) rfl) (va_recv hE.1 hP (ci := 1) (q0 := 2) rfl rfl) rfl hl.1 rfl (Nat.le_of_ble_eq_true rfl) dX3_setEdge_20 ⟨Nat.zero_le _, Nat.zero_le _⟩ (fun cs_ H locs h_1 hP hD hS => ?_)
    subst h_1
    have hP : va_P E.1 vwCl [(q, .inr (4, [.ref on, .ref off, .long mu, .long ba, .long bl, .long wh, .int to, .int (b2i wr)])), (on, .inr (1, [.int w1, .long r1, .long b1])), (off, .inr (1, [.int w2, .long (fAddR r2 a), .long (fAddB b2 a)]))] H := hP.sub [0, 1, 2] rfl
    have hD : va_D A [(q, .inr (4, [.ref on, .ref off, .long mu, .long ba, .long bl, .long wh, .int to, .int (b2i wr)])), (on, .inr (1, [.int w1, .long r1, .long b1])), (off, .inr (1, [.int w2, .long (fAddR r2 a), .long (fAddB b2 a)]))] := hD.sub [0, 1, 2] (by decide) rfl
    exact W.vret hx hb hr (fun t9 ht9 hW => ⟨⟨rfl, [(q, .inr (4, [.ref on, .ref off, .long mu, .long ba, .long bl, .long wh, .int to, .int (b2i wr)])), (on, .inr (1, [.int w1, .long r1, .long b1])), (off, .inr (1, [.int w2, .long (fAddR r2 a), .long (fAddB b2 a)]))], by simp only [b2i_eq0] at c_1; simp [c_1], by rw [ht9]; exact hP, hD⟩, hS.F ht9⟩) hS.2.2 dX3_setEdge_23
  · skip
    refine lv_aload_n hx hb dX3_setEdge_4 rfl (lv_at hl 0 rfl) ?_
    refine va_get (D := E.1) (ci := 4) (v := .ref on) (C := RX3) (T := TX3) (N := 8) hx hb hts hi_RX3 hown hE.1 hP 0 rfl rfl 0 (by decide) hf_20 (fun _ h9 => h9) rfl dX3_setEdge_5 ?_
    refine lv_iload_n hx hb dX3_setEdge_8 rfl (lv_at hl 1 rfl) ?_
    refine wrV (As := [.int a]) (rest := []) (wr := [(q, .inr (4, [.ref on, .ref off, .long mu, .long ba, .long bl, .long wh, .int to, .int (b2i wr)])), (off, .inr (1, [.int w2, .long r2, .long b2]))]) ⟨hx, hb, hml, hown, hts⟩ hE (cX0_add_ct l E s.heap.size on w1 r1 b1 a) (cwV 1 hts gX3_setEdge_X0_add rfl rfl rfl (by decide +kernel) ⟨Nat.le_of_ble_eq_true rfl, Nat.le_of_ble_eq_true rfl⟩) hP hD hS hA [1] [0, 2] rfl rfl (by decide) (by decide) (hP.sub (ws' := [(on, .inr (1, [.int w1, .long r1, .long b1]))]) [1] rfl) (hD.sub (ws' := [(on, .inr (1, [.int w1, .long r1, .long b1]))]) [1] (by decide) rfl) (va_recv hE.1 hP (ci := 1) (q0 := 1) rfl rfl) rfl hl.1 rfl (Nat.le_of_ble_eq_true rfl) dX3_setEdge_9 ⟨Nat.zero_le _, Nat.zero_le _⟩ (fun cs_ H locs h_2 hP hD hS => ?_)
    subst h_2
    have hP : va_P E.1 vwCl [(q, .inr (4, [.ref on, .ref off, .long mu, .long ba, .long bl, .long wh, .int to, .int (b2i wr)])), (on, .inr (1, [.int w1, .long (fAddR r1 a), .long (fAddB b1 a)])), (off, .inr (1, [.int w2, .long r2, .long b2]))] H := hP.sub [0, 2, 1] rfl
    have hD : va_D A [(q, .inr (4, [.ref on, .ref off, .long mu, .long ba, .long bl, .long wh, .int to, .int (b2i wr)])), (on, .inr (1, [.int w1, .long (fAddR r1 a), .long (fAddB b1 a)])), (off, .inr (1, [.int w2, .long r2, .long b2]))] := hD.sub [0, 2, 1] (by decide) rfl
    refine lv_goto (tgt := 23) hx hb dX3_setEdge_12 (by decide) ?_
    exact W.vret hx hb hr (fun t9 ht9 hW => ⟨⟨rfl, [(q, .inr (4, [.ref on, .ref off, .long mu, .long ba, .long bl, .long wh, .int to, .int (b2i wr)])), (on, .inr (1, [.int w1, .long (fAddR r1 a), .long (fAddB b1 a)])), (off, .inr (1, [.int w2, .long r2, .long b2]))], by simp only [b2i_eq0] at c_1; simp [c_1], by rw [ht9]; exact hP, hD⟩, hS.F ht9⟩) hS.2.2 dX3_setEdge_23
set_option maxHeartbeats 4000000 in
set_option maxRecDepth 100000 in
theorem cX3_setShade_ct (l : Launch) (E : GE) (sz : Nat) (q on off : Nat) (mu ba bl wh : Int64) (to : Int32) (wr : Bool) (w1 : Int32) (r1 b1 : Int64) (w2 : Int32) (r2 b2 : Int64) (a : Int32) (z : Bool)  : wrM l yX3_setShade wsX3_setShade ({ frames := 1, cells := 0, slots := 0, locals := 20 }) E sz [.ref q, .int a, .int (b2i z)] [(q, .inr (4, [.ref on, .ref off, .long mu, .long ba, .long bl, .long wh, .int to, .int (b2i wr)])), (on, .inr (1, [.int w1, .long r1, .long b1])), (off, .inr (1, [.int w2, .long r2, .long b2]))] none (fun cs' => cs' = [(q, .inr (4, [.ref on, .ref off, .long mu, .long ba, .long (if z then bl ||| fOnly a else bl), .long (if z then wh else wh ||| fOnly a), .int to, .int (b2i wr)])), (on, .inr (1, [.int w1, .long r1, .long b1])), (off, .inr (1, [.int w2, .long r2, .long b2]))]) 0 0 := by
  refine Met.ofW (cc := cX3_setShade) (maxL := 3) (ret := none) (by decide) rfl ?_
  intro p e s m args below meth c s₁ B hml hv
  obtain ⟨rfl, hsz, hE, hP, hD0⟩ := hv
  have hx := B.exec
  have hb := B.bytes
  have hr := B.returns
  have hts := atoms_spec (ws := wsX3_setShade) B.pre
  have hown : s.vm.findClass RX3 = some m.cls := findClass_of_methodNamed B.named
  have hlocks := B.notSynchronized
  subst hsz
  have hD := hD0.self (sz := s.heap.size)
  generalize hAe : va_A [(q, .inr (4, [.ref on, .ref off, .long mu, .long ba, .long bl, .long wh, .int to, .int (b2i wr)])), (on, .inr (1, [.int w1, .long r1, .long b1])), (off, .inr (1, [.int w2, .long r2, .long b2]))] s.heap.size = A at hD ⊢
  have hA : ∀ q : Nat, s.heap.size ≤ q → A q := fun q h => by rw [← hAe]; exact Or.inr h
  have hS : va_S A s.heap s.heap [] := va_S.rf
  have hP : va_P E.1 vwCl [(q, .inr (4, [.ref on, .ref off, .long mu, .long ba, .long bl, .long wh, .int to, .int (b2i wr)])), (on, .inr (1, [.int w1, .long r1, .long b1])), (off, .inr (1, [.int w2, .long r2, .long b2]))] s.heap := hP
  have hl := lv_entry ([.ref q, .int a, .int (b2i z)]) (n := 3) (Nat.le_of_ble_eq_true rfl)
  rw [lg_entry_eq]
  generalize (lg_sl ([.ref q, .int a, .int (b2i z)]) ++ List.replicate (3 - (lg_sl ([.ref q, .int a, .int (b2i z)])).length) Slot.unset).toArray = ls at hl ⊢
  have hl : lv_has ls 3 [(0, .ref q), (1, .int a), (2, .int (b2i z))] := hl
  have hf_43 := hts (.fieldLink RX3 43 "LoopRegions$State" "black" "J") (by decide +kernel)
  have hf_46 := hts (.fieldLink RX3 46 "LoopRegions$State" "white" "J") (by decide +kernel)
  have hi_RX3 : ∀ w ∈ wsX30, w ∈ wsX3_setShade := by decide +kernel
  refine lv_iload_n hx hb dX3_setShade_0 rfl (lv_at hl 2 rfl) ?_
  refine lv_if_eq (tgt := 20) hx hb dX3_setShade_1 (by decide) (fun c_1 => ?_) (fun c_1 => ?_)
  · skip
    refine lv_aload_n hx hb dX3_setShade_20 rfl (lv_at hl 0 rfl) ?_
    refine lv_dup hx hb dX3_setShade_21 rfl ?_
    refine va_get (D := E.1) (ci := 4) (v := .long wh) (C := RX3) (T := TX3) (N := 8) hx hb hts hi_RX3 hown hE.1 hP 0 rfl rfl 5 (by decide) hf_46 (fun _ h9 => h9) rfl dX3_setShade_22 ?_
    refine lv_iload_n hx hb dX3_setShade_25 rfl (lv_at hl 1 rfl) ?_
    refine crNl (As := [.int a]) (rest := [.long wh, .ref q]) ⟨hx, hb, hml, hown, hts⟩ hE (cX5_only_ct l E a) ⟨va_cnB 1 hts gX3_setShade_X5_only_n64 rfl rfl rfl (hE.2 _ (List.mem_of_getElem? (i := 7) rfl)) (hts (.initialized RX5) (by decide +kernel)) (by decide +kernel) ⟨Nat.le_of_ble_eq_true rfl, Nat.le_of_ble_eq_true rfl⟩, hts (.static yX5_only) (by decide +kernel), trivial⟩ (fun k q h => by simp at h) rfl hl.1 rfl (Nat.le_of_ble_eq_true rfl) dX3_setShade_26 ⟨Nat.zero_le _, Nat.zero_le _⟩ ?_
    refine lv_lor hx hb dX3_setShade_29 ?_
    refine lv_topl (fun x_1 ex_1 => ?_)
    refine va_put (D := E.1) (ci := 4) (v := .long x_1) (ty := .long) (C := RX3) (T := TX3) (N := 8) hx hb hts hi_RX3 tyX3 tyX3_ok nmX3 hown hE.1 hP hD hS 0 rfl rfl 5 (by decide) hf_46 (fun _ h9 => h9) rfl (by decide +kernel) (rfl) (rfl) (Nat.le_of_ble_eq_true rfl) dX3_setShade_30 (fun H locs hP hD hS => ?_)
    have hP : va_P E.1 vwCl [(q, .inr (4, [.ref on, .ref off, .long mu, .long ba, .long bl, .long x_1, .int to, .int (b2i wr)])), (on, .inr (1, [.int w1, .long r1, .long b1])), (off, .inr (1, [.int w2, .long r2, .long b2]))] H := hP
    have hD : va_D A [(q, .inr (4, [.ref on, .ref off, .long mu, .long ba, .long bl, .long x_1, .int to, .int (b2i wr)])), (on, .inr (1, [.int w1, .long r1, .long b1])), (off, .inr (1, [.int w2, .long r2, .long b2]))] := hD
    exact W.vret hx hb hr (fun t9 ht9 hW => ⟨⟨rfl, [(q, .inr (4, [.ref on, .ref off, .long mu, .long ba, .long bl, .long x_1, .int to, .int (b2i wr)])), (on, .inr (1, [.int w1, .long r1, .long b1])), (off, .inr (1, [.int w2, .long r2, .long b2]))], by simp only [b2i_eq0] at c_1; subst ex_1; simp [c_1], by rw [ht9]; exact hP, hD⟩, hS.F ht9⟩) hS.2.2 dX3_setShade_33
  · skip
    refine lv_aload_n hx hb dX3_setShade_4 rfl (lv_at hl 0 rfl) ?_
    refine lv_dup hx hb dX3_setShade_5 rfl ?_
    refine va_get (D := E.1) (ci := 4) (v := .long bl) (C := RX3) (T := TX3) (N := 8) hx hb hts hi_RX3 hown hE.1 hP 0 rfl rfl 4 (by decide) hf_43 (fun _ h9 => h9) rfl dX3_setShade_6 ?_
    refine lv_iload_n hx hb dX3_setShade_9 rfl (lv_at hl 1 rfl) ?_
    refine crNl (As := [.int a]) (rest := [.long bl, .ref q]) ⟨hx, hb, hml, hown, hts⟩ hE (cX5_only_ct l E a) ⟨va_cnB 1 hts gX3_setShade_X5_only_n64 rfl rfl rfl (hE.2 _ (List.mem_of_getElem? (i := 7) rfl)) (hts (.initialized RX5) (by decide +kernel)) (by decide +kernel) ⟨Nat.le_of_ble_eq_true rfl, Nat.le_of_ble_eq_true rfl⟩, hts (.static yX5_only) (by decide +kernel), trivial⟩ (fun k q h => by simp at h) rfl hl.1 rfl (Nat.le_of_ble_eq_true rfl) dX3_setShade_10 ⟨Nat.zero_le _, Nat.zero_le _⟩ ?_
    refine lv_lor hx hb dX3_setShade_13 ?_
    refine lv_topl (fun x_2 ex_2 => ?_)
    refine va_put (D := E.1) (ci := 4) (v := .long x_2) (ty := .long) (C := RX3) (T := TX3) (N := 8) hx hb hts hi_RX3 tyX3 tyX3_ok nmX3 hown hE.1 hP hD hS 0 rfl rfl 4 (by decide) hf_43 (fun _ h9 => h9) rfl (by decide +kernel) (rfl) (rfl) (Nat.le_of_ble_eq_true rfl) dX3_setShade_14 (fun H locs hP hD hS => ?_)
    have hP : va_P E.1 vwCl [(q, .inr (4, [.ref on, .ref off, .long mu, .long ba, .long x_2, .long wh, .int to, .int (b2i wr)])), (on, .inr (1, [.int w1, .long r1, .long b1])), (off, .inr (1, [.int w2, .long r2, .long b2]))] H := hP
    have hD : va_D A [(q, .inr (4, [.ref on, .ref off, .long mu, .long ba, .long x_2, .long wh, .int to, .int (b2i wr)])), (on, .inr (1, [.int w1, .long r1, .long b1])), (off, .inr (1, [.int w2, .long r2, .long b2]))] := hD
    refine lv_goto (tgt := 33) hx hb dX3_setShade_17 (by decide) ?_
    exact W.vret hx hb hr (fun t9 ht9 hW => ⟨⟨rfl, [(q, .inr (4, [.ref on, .ref off, .long mu, .long ba, .long x_2, .long wh, .int to, .int (b2i wr)])), (on, .inr (1, [.int w1, .long r1, .long b1])), (off, .inr (1, [.int w2, .long r2, .long b2]))], by simp only [b2i_eq0] at c_1; subst ex_2; simp [c_1], by rw [ht9]; exact hP, hD⟩, hS.F ht9⟩) hS.2.2 dX3_setShade_33
set_option maxHeartbeats 4000000 in
set_option maxRecDepth 100000 in
theorem cX3_setDuty_ct (l : Launch) (E : GE) (sz : Nat) (q on off : Nat) (mu ba bl wh : Int64) (to : Int32) (wr : Bool) (w1 : Int32) (r1 b1 : Int64) (w2 : Int32) (r2 b2 : Int64) (a d : Int32)  : wrM l yX3_setDuty wsX3_setDuty ({ frames := 1, cells := 0, slots := 0, locals := 20 }) E sz [.ref q, .int a, .int d] [(q, .inr (4, [.ref on, .ref off, .long mu, .long ba, .long bl, .long wh, .int to, .int (b2i wr)])), (on, .inr (1, [.int w1, .long r1, .long b1])), (off, .inr (1, [.int w2, .long r2, .long b2]))] none (fun cs' => cs' = [(q, .inr (4, [.ref on, .ref off, .long (fMu mu a d), .long (fBa ba a d), .long bl, .long wh, .int to, .int (b2i wr)])), (on, .inr (1, [.int w1, .long r1, .long b1])), (off, .inr (1, [.int w2, .long r2, .long b2]))]) 0 0 := by
  refine Met.ofW (cc := cX3_setDuty) (maxL := 3) (ret := none) (by decide) rfl ?_
  intro p e s m args below meth c s₁ B hml hv
  obtain ⟨rfl, hsz, hE, hP, hD0⟩ := hv
  have hx := B.exec
  have hb := B.bytes
  have hr := B.returns
  have hts := atoms_spec (ws := wsX3_setDuty) B.pre
  have hown : s.vm.findClass RX3 = some m.cls := findClass_of_methodNamed B.named
  have hlocks := B.notSynchronized
  subst hsz
  have hD := hD0.self (sz := s.heap.size)
  generalize hAe : va_A [(q, .inr (4, [.ref on, .ref off, .long mu, .long ba, .long bl, .long wh, .int to, .int (b2i wr)])), (on, .inr (1, [.int w1, .long r1, .long b1])), (off, .inr (1, [.int w2, .long r2, .long b2]))] s.heap.size = A at hD ⊢
  have hA : ∀ q : Nat, s.heap.size ≤ q → A q := fun q h => by rw [← hAe]; exact Or.inr h
  have hS : va_S A s.heap s.heap [] := va_S.rf
  have hP : va_P E.1 vwCl [(q, .inr (4, [.ref on, .ref off, .long mu, .long ba, .long bl, .long wh, .int to, .int (b2i wr)])), (on, .inr (1, [.int w1, .long r1, .long b1])), (off, .inr (1, [.int w2, .long r2, .long b2]))] s.heap := hP
  have hl := lv_entry ([.ref q, .int a, .int d]) (n := 3) (Nat.le_of_ble_eq_true rfl)
  rw [lg_entry_eq]
  generalize (lg_sl ([.ref q, .int a, .int d]) ++ List.replicate (3 - (lg_sl ([.ref q, .int a, .int d])).length) Slot.unset).toArray = ls at hl ⊢
  have hl : lv_has ls 3 [(0, .ref q), (1, .int a), (2, .int d)] := hl
  have hf_36 := hts (.fieldLink RX3 36 "LoopRegions$State" "must" "J") (by decide +kernel)
  have hf_40 := hts (.fieldLink RX3 40 "LoopRegions$State" "barred" "J") (by decide +kernel)
  have hi_RX3 : ∀ w ∈ wsX30, w ∈ wsX3_setDuty := by decide +kernel
  refine lv_aload_n hx hb dX3_setDuty_0 rfl (lv_at hl 0 rfl) ?_
  refine lv_dup hx hb dX3_setDuty_1 rfl ?_
  refine va_get (D := E.1) (ci := 4) (v := .long mu) (C := RX3) (T := TX3) (N := 8) hx hb hts hi_RX3 hown hE.1 hP 0 rfl rfl 2 (by decide) hf_36 (fun _ h9 => h9) rfl dX3_setDuty_2 ?_
  refine lv_iload_n hx hb dX3_setDuty_5 rfl (lv_at hl 1 rfl) ?_
  refine crNl (As := [.int a]) (rest := [.long mu, .ref q]) ⟨hx, hb, hml, hown, hts⟩ hE (cX5_only_ct l E a) ⟨va_cnB 1 hts gX3_setDuty_X5_only_n64 rfl rfl rfl (hE.2 _ (List.mem_of_getElem? (i := 7) rfl)) (hts (.initialized RX5) (by decide +kernel)) (by decide +kernel) ⟨Nat.le_of_ble_eq_true rfl, Nat.le_of_ble_eq_true rfl⟩, hts (.static yX5_only) (by decide +kernel), trivial⟩ (fun k q h => by simp at h) rfl hl.1 rfl (Nat.le_of_ble_eq_true rfl) dX3_setDuty_6 ⟨Nat.zero_le _, Nat.zero_le _⟩ ?_
  refine lv_ldc2 (v := (-1)) hx hb hown (hts (.constantLong RX3 68 (-1)) (by decide +kernel)) dX3_setDuty_9 ?_
  refine lv_lxor hx hb dX3_setDuty_12 ?_
  refine lv_land hx hb dX3_setDuty_13 ?_
  refine lv_topl (fun x_1 ex_1 => ?_)
  refine va_put (D := E.1) (ci := 4) (v := .long x_1) (ty := .long) (C := RX3) (T := TX3) (N := 8) hx hb hts hi_RX3 tyX3 tyX3_ok nmX3 hown hE.1 hP hD hS 0 rfl rfl 2 (by decide) hf_36 (fun _ h9 => h9) rfl (by decide +kernel) (rfl) (rfl) (Nat.le_of_ble_eq_true rfl) dX3_setDuty_14 (fun H locs hP hD hS => ?_)
  have hP : va_P E.1 vwCl [(q, .inr (4, [.ref on, .ref off, .long x_1, .long ba, .long bl, .long wh, .int to, .int (b2i wr)])), (on, .inr (1, [.int w1, .long r1, .long b1])), (off, .inr (1, [.int w2, .long r2, .long b2]))] H := hP
  have hD : va_D A [(q, .inr (4, [.ref on, .ref off, .long x_1, .long ba, .long bl, .long wh, .int to, .int (b2i wr)])), (on, .inr (1, [.int w1, .long r1, .long b1])), (off, .inr (1, [.int w2, .long r2, .long b2]))] := hD
  refine lv_aload_n hx hb dX3_setDuty_17 rfl (lv_at hl 0 rfl) ?_
  refine lv_dup hx hb dX3_setDuty_18 rfl ?_
  refine va_get (D := E.1) (ci := 4) (v := .long ba) (C := RX3) (T := TX3) (N := 8) hx hb hts hi_RX3 hown hE.1 hP 0 rfl rfl 3 (by decide) hf_40 (fun _ h9 => h9) rfl dX3_setDuty_19 ?_
  refine lv_iload_n hx hb dX3_setDuty_22 rfl (lv_at hl 1 rfl) ?_
  refine crNl (As := [.int a]) (rest := [.long ba, .ref q]) ⟨hx, hb, hml, hown, hts⟩ hE (cX5_only_ct l E a) ⟨va_cnB 1 hts gX3_setDuty_X5_only_n64 rfl rfl rfl (hE.2 _ (List.mem_of_getElem? (i := 7) rfl)) (hts (.initialized RX5) (by decide +kernel)) (by decide +kernel) ⟨Nat.le_of_ble_eq_true rfl, Nat.le_of_ble_eq_true rfl⟩, hts (.static yX5_only) (by decide +kernel), trivial⟩ (fun k q h => by simp at h) rfl hl.1 rfl (Nat.le_of_ble_eq_true rfl) dX3_setDuty_23 ⟨Nat.zero_le _, Nat.zero_le _⟩ ?_
  refine lv_ldc2 (v := (-1)) hx hb hown (hts (.constantLong RX3 68 (-1)) (by decide +kernel)) dX3_setDuty_26 ?_
  refine lv_lxor hx hb dX3_setDuty_29 ?_
  refine lv_land hx hb dX3_setDuty_30 ?_
  refine lv_topl (fun x_2 ex_2 => ?_)
  refine va_put (D := E.1) (ci := 4) (v := .long x_2) (ty := .long) (C := RX3) (T := TX3) (N := 8) hx hb hts hi_RX3 tyX3 tyX3_ok nmX3 hown hE.1 hP hD hS 0 rfl rfl 3 (by decide) hf_40 (fun _ h9 => h9) rfl (by decide +kernel) (rfl) (rfl) (Nat.le_of_ble_eq_true rfl) dX3_setDuty_31 (fun H locs hP hD hS => ?_)
  have hP : va_P E.1 vwCl [(q, .inr (4, [.ref on, .ref off, .long x_1, .long x_2, .long bl, .long wh, .int to, .int (b2i wr)])), (on, .inr (1, [.int w1, .long r1, .long b1])), (off, .inr (1, [.int w2, .long r2, .long b2]))] H := hP
  have hD : va_D A [(q, .inr (4, [.ref on, .ref off, .long x_1, .long x_2, .long bl, .long wh, .int to, .int (b2i wr)])), (on, .inr (1, [.int w1, .long r1, .long b1])), (off, .inr (1, [.int w2, .long r2, .long b2]))] := hD
  refine lv_iload_n hx hb dX3_setDuty_34 rfl (lv_at hl 2 rfl) ?_
  refine lv_iconst (v := 1) hx hb dX3_setDuty_35 (by decide) ?_
  refine lv_icmp_ne (tgt := 55) hx hb dX3_setDuty_36 (by decide) (fun c_36 => ?_) (fun c_36 => ?_)
  · skip
    refine lv_iload_n hx hb dX3_setDuty_55 rfl (lv_at hl 2 rfl) ?_
    refine lv_iconst (v := 2) hx hb dX3_setDuty_56 (by decide) ?_
    refine lv_icmp_ne (tgt := 73) hx hb dX3_setDuty_57 (by decide) (fun c_57 => ?_) (fun c_57 => ?_)
    · skip
      exact W.vret hx hb hr (fun t9 ht9 hW => ⟨⟨rfl, [(q, .inr (4, [.ref on, .ref off, .long x_1, .long x_2, .long bl, .long wh, .int to, .int (b2i wr)])), (on, .inr (1, [.int w1, .long r1, .long b1])), (off, .inr (1, [.int w2, .long r2, .long b2]))], by subst ex_2; subst ex_1; simp [fMu, fBa, c_36, c_57], by rw [ht9]; exact hP, hD⟩, hS.F ht9⟩) hS.2.2 dX3_setDuty_73
    · skip
      refine lv_aload_n hx hb dX3_setDuty_60 rfl (lv_at hl 0 rfl) ?_
      refine lv_dup hx hb dX3_setDuty_61 rfl ?_
      refine va_get (D := E.1) (ci := 4) (v := .long x_2) (C := RX3) (T := TX3) (N := 8) hx hb hts hi_RX3 hown hE.1 hP 0 rfl rfl 3 (by decide) hf_40 (fun _ h9 => h9) rfl dX3_setDuty_62 ?_
      refine lv_iload_n hx hb dX3_setDuty_65 rfl (lv_at hl 1 rfl) ?_
      refine crNl (As := [.int a]) (rest := [.long x_2, .ref q]) ⟨hx, hb, hml, hown, hts⟩ hE (cX5_only_ct l E a) ⟨va_cnB 1 hts gX3_setDuty_X5_only_n64 rfl rfl rfl (hE.2 _ (List.mem_of_getElem? (i := 7) rfl)) (hts (.initialized RX5) (by decide +kernel)) (by decide +kernel) ⟨Nat.le_of_ble_eq_true rfl, Nat.le_of_ble_eq_true rfl⟩, hts (.static yX5_only) (by decide +kernel), trivial⟩ (fun k q h => by simp at h) rfl hl.1 rfl (Nat.le_of_ble_eq_true rfl) dX3_setDuty_66 ⟨Nat.zero_le _, Nat.zero_le _⟩ ?_
      refine lv_lor hx hb dX3_setDuty_69 ?_
      refine lv_topl (fun x_3 ex_3 => ?_)
      refine va_put (D := E.1) (ci := 4) (v := .long x_3) (ty := .long) (C := RX3) (T := TX3) (N := 8) hx hb hts hi_RX3 tyX3 tyX3_ok nmX3 hown hE.1 hP hD hS 0 rfl rfl 3 (by decide) hf_40 (fun _ h9 => h9) rfl (by decide +kernel) (rfl) (rfl) (Nat.le_of_ble_eq_true rfl) dX3_setDuty_70 (fun H locs hP hD hS => ?_)
      have hP : va_P E.1 vwCl [(q, .inr (4, [.ref on, .ref off, .long x_1, .long x_3, .long bl, .long wh, .int to, .int (b2i wr)])), (on, .inr (1, [.int w1, .long r1, .long b1])), (off, .inr (1, [.int w2, .long r2, .long b2]))] H := hP
      have hD : va_D A [(q, .inr (4, [.ref on, .ref off, .long x_1, .long x_3, .long bl, .long wh, .int to, .int (b2i wr)])), (on, .inr (1, [.int w1, .long r1, .long b1])), (off, .inr (1, [.int w2, .long r2, .long b2]))] := hD
      exact W.vret hx hb hr (fun t9 ht9 hW => ⟨⟨rfl, [(q, .inr (4, [.ref on, .ref off, .long x_1, .long x_3, .long bl, .long wh, .int to, .int (b2i wr)])), (on, .inr (1, [.int w1, .long r1, .long b1])), (off, .inr (1, [.int w2, .long r2, .long b2]))], by subst ex_3; subst ex_2; subst ex_1; simp [fMu, fBa, c_36, c_57], by rw [ht9]; exact hP, hD⟩, hS.F ht9⟩) hS.2.2 dX3_setDuty_73
  · skip
    refine lv_aload_n hx hb dX3_setDuty_39 rfl (lv_at hl 0 rfl) ?_
    refine lv_dup hx hb dX3_setDuty_40 rfl ?_
    refine va_get (D := E.1) (ci := 4) (v := .long x_1) (C := RX3) (T := TX3) (N := 8) hx hb hts hi_RX3 hown hE.1 hP 0 rfl rfl 2 (by decide) hf_36 (fun _ h9 => h9) rfl dX3_setDuty_41 ?_
    refine lv_iload_n hx hb dX3_setDuty_44 rfl (lv_at hl 1 rfl) ?_
    refine crNl (As := [.int a]) (rest := [.long x_1, .ref q]) ⟨hx, hb, hml, hown, hts⟩ hE (cX5_only_ct l E a) ⟨va_cnB 1 hts gX3_setDuty_X5_only_n64 rfl rfl rfl (hE.2 _ (List.mem_of_getElem? (i := 7) rfl)) (hts (.initialized RX5) (by decide +kernel)) (by decide +kernel) ⟨Nat.le_of_ble_eq_true rfl, Nat.le_of_ble_eq_true rfl⟩, hts (.static yX5_only) (by decide +kernel), trivial⟩ (fun k q h => by simp at h) rfl hl.1 rfl (Nat.le_of_ble_eq_true rfl) dX3_setDuty_45 ⟨Nat.zero_le _, Nat.zero_le _⟩ ?_
    refine lv_lor hx hb dX3_setDuty_48 ?_
    refine lv_topl (fun x_4 ex_4 => ?_)
    refine va_put (D := E.1) (ci := 4) (v := .long x_4) (ty := .long) (C := RX3) (T := TX3) (N := 8) hx hb hts hi_RX3 tyX3 tyX3_ok nmX3 hown hE.1 hP hD hS 0 rfl rfl 2 (by decide) hf_36 (fun _ h9 => h9) rfl (by decide +kernel) (rfl) (rfl) (Nat.le_of_ble_eq_true rfl) dX3_setDuty_49 (fun H locs hP hD hS => ?_)
    have hP : va_P E.1 vwCl [(q, .inr (4, [.ref on, .ref off, .long x_4, .long x_2, .long bl, .long wh, .int to, .int (b2i wr)])), (on, .inr (1, [.int w1, .long r1, .long b1])), (off, .inr (1, [.int w2, .long r2, .long b2]))] H := hP
    have hD : va_D A [(q, .inr (4, [.ref on, .ref off, .long x_4, .long x_2, .long bl, .long wh, .int to, .int (b2i wr)])), (on, .inr (1, [.int w1, .long r1, .long b1])), (off, .inr (1, [.int w2, .long r2, .long b2]))] := hD
    refine lv_goto (tgt := 73) hx hb dX3_setDuty_52 (by decide) ?_
    exact W.vret hx hb hr (fun t9 ht9 hW => ⟨⟨rfl, [(q, .inr (4, [.ref on, .ref off, .long x_4, .long x_2, .long bl, .long wh, .int to, .int (b2i wr)])), (on, .inr (1, [.int w1, .long r1, .long b1])), (off, .inr (1, [.int w2, .long r2, .long b2]))], by subst ex_4; subst ex_2; subst ex_1; simp [fMu, fBa, c_36], by rw [ht9]; exact hP, hD⟩, hS.F ht9⟩) hS.2.2 dX3_setDuty_73
set_option maxHeartbeats 4000000 in
set_option maxRecDepth 100000 in
theorem cX3_copy_ct (l : Launch) (E : GE) (sz : Nat) (q on off : Nat) (mu ba bl wh : Int64) (to : Int32) (wr : Bool) (w1 : Int32) (r1 b1 : Int64) (w2 : Int32) (r2 b2 : Int64) (q' on' off' : Nat) (mu' ba' bl' wh' : Int64) (to' : Int32) (wr' : Bool) (w1' : Int32) (r1' b1' : Int64) (w2' : Int32) (r2' b2' : Int64)  : wrM l yX3_copy wsX3_copy ({ frames := 1, cells := 0, slots := 0, locals := 21 }) E sz [.ref q, .ref q'] [(q, .inr (4, [.ref on, .ref off, .long mu, .long ba, .long bl, .long wh, .int to, .int (b2i wr)])), (on, .inr (1, [.int w1, .long r1, .long b1])), (off, .inr (1, [.int w2, .long r2, .long b2])), (q', .inr (4, [.ref on', .ref off', .long mu', .long ba', .long bl', .long wh', .int to', .int (b2i wr')])), (on', .inr (1, [.int w1', .long r1', .long b1'])), (off', .inr (1, [.int w2', .long r2', .long b2']))] none (fun cs' => cs' = [(q, .inr (4, [.ref on, .ref off, .long mu', .long ba', .long bl', .long wh', .int to', .int (b2i wr')])), (on, .inr (1, [.int w1, .long r1', .long b1'])), (off, .inr (1, [.int w2, .long r2', .long b2'])), (q', .inr (4, [.ref on', .ref off', .long mu', .long ba', .long bl', .long wh', .int to', .int (b2i wr')])), (on', .inr (1, [.int w1', .long r1', .long b1'])), (off', .inr (1, [.int w2', .long r2', .long b2']))]) 0 0 := by
  refine Met.ofW (cc := cX3_copy) (maxL := 2) (ret := none) (by decide) rfl ?_
  intro p e s m args below meth c s₁ B hml hv
  obtain ⟨rfl, hsz, hE, hP, hD0⟩ := hv
  have hx := B.exec
  have hb := B.bytes
  have hr := B.returns
  have hts := atoms_spec (ws := wsX3_copy) B.pre
  have hown : s.vm.findClass RX3 = some m.cls := findClass_of_methodNamed B.named
  have hlocks := B.notSynchronized
  subst hsz
  have hD := hD0.self (sz := s.heap.size)
  generalize hAe : va_A [(q, .inr (4, [.ref on, .ref off, .long mu, .long ba, .long bl, .long wh, .int to, .int (b2i wr)])), (on, .inr (1, [.int w1, .long r1, .long b1])), (off, .inr (1, [.int w2, .long r2, .long b2])), (q', .inr (4, [.ref on', .ref off', .long mu', .long ba', .long bl', .long wh', .int to', .int (b2i wr')])), (on', .inr (1, [.int w1', .long r1', .long b1'])), (off', .inr (1, [.int w2', .long r2', .long b2']))] s.heap.size = A at hD ⊢
  have hA : ∀ q : Nat, s.heap.size ≤ q → A q := fun q h => by rw [← hAe]; exact Or.inr h
  have hS : va_S A s.heap s.heap [] := va_S.rf
  have hP : va_P E.1 vwCl [(q, .inr (4, [.ref on, .ref off, .long mu, .long ba, .long bl, .long wh, .int to, .int (b2i wr)])), (on, .inr (1, [.int w1, .long r1, .long b1])), (off, .inr (1, [.int w2, .long r2, .long b2])), (q', .inr (4, [.ref on', .ref off', .long mu', .long ba', .long bl', .long wh', .int to', .int (b2i wr')])), (on', .inr (1, [.int w1', .long r1', .long b1'])), (off', .inr (1, [.int w2', .long r2', .long b2']))] s.heap := hP
  have hl := lv_entry ([.ref q, .ref q']) (n := 2) (Nat.le_of_ble_eq_true rfl)
  rw [lg_entry_eq]
  generalize (lg_sl ([.ref q, .ref q']) ++ List.replicate (2 - (lg_sl ([.ref q, .ref q'])).length) Slot.unset).toArray = ls at hl ⊢
  have hl : lv_has ls 2 [(0, .ref q), (1, .ref q')] := hl
  have hf_20 := hts (.fieldLink RX3 20 "LoopRegions$State" "on" "LLoopRegions$Edges;") (by decide +kernel)
  have hf_26 := hts (.fieldLink RX3 26 "LoopRegions$State" "off" "LLoopRegions$Edges;") (by decide +kernel)
  have hf_29 := hts (.fieldLink RX3 29 "LoopRegions$State" "told" "I") (by decide +kernel)
  have hf_36 := hts (.fieldLink RX3 36 "LoopRegions$State" "must" "J") (by decide +kernel)
  have hf_40 := hts (.fieldLink RX3 40 "LoopRegions$State" "barred" "J") (by decide +kernel)
  have hf_43 := hts (.fieldLink RX3 43 "LoopRegions$State" "black" "J") (by decide +kernel)
  have hf_46 := hts (.fieldLink RX3 46 "LoopRegions$State" "white" "J") (by decide +kernel)
  have hf_49 := hts (.fieldLink RX3 49 "LoopRegions$State" "wrong" "Z") (by decide +kernel)
  have hi_RX3 : ∀ w ∈ wsX30, w ∈ wsX3_copy := by decide +kernel
  refine lv_aload_n hx hb dX3_copy_0 rfl (lv_at hl 0 rfl) ?_
  refine va_get (D := E.1) (ci := 4) (v := .ref on) (C := RX3) (T := TX3) (N := 8) hx hb hts hi_RX3 hown hE.1 hP 0 rfl rfl 0 (by decide) hf_20 (fun _ h9 => h9) rfl dX3_copy_1 ?_
  refine lv_aload_n hx hb dX3_copy_4 rfl (lv_at hl 1 rfl) ?_
  refine va_get (D := E.1) (ci := 4) (v := .ref on') (C := RX3) (T := TX3) (N := 8) hx hb hts hi_RX3 hown hE.1 hP 3 rfl rfl 0 (by decide) hf_20 (fun _ h9 => h9) rfl dX3_copy_5 ?_
  refine wrV (As := [.ref on']) (rest := []) (wr := [(q, .inr (4, [.ref on, .ref off, .long mu, .long ba, .long bl, .long wh, .int to, .int (b2i wr)])), (off, .inr (1, [.int w2, .long r2, .long b2])), (q', .inr (4, [.ref on', .ref off', .long mu', .long ba', .long bl', .long wh', .int to', .int (b2i wr')])), (off', .inr (1, [.int w2', .long r2', .long b2']))]) ⟨hx, hb, hml, hown, hts⟩ hE (cX0_copy_ct l E s.heap.size on w1 r1 b1 on' w1' r1' b1') (cwV 1 hts gX3_copy_X0_copy rfl rfl rfl (by decide +kernel) ⟨Nat.le_of_ble_eq_true rfl, Nat.le_of_ble_eq_true rfl⟩) hP hD hS hA [1, 4] [0, 2, 3, 5] rfl rfl (by decide) (by decide) (hP.sub (ws' := [(on, .inr (1, [.int w1, .long r1, .long b1])), (on', .inr (1, [.int w1', .long r1', .long b1']))]) [1, 4] rfl) (hD.sub (ws' := [(on, .inr (1, [.int w1, .long r1, .long b1])), (on', .inr (1, [.int w1', .long r1', .long b1']))]) [1, 4] (by decide) rfl) (va_recv hE.1 hP (ci := 1) (q0 := 1) rfl rfl) rfl hl.1 rfl (Nat.le_of_ble_eq_true rfl) dX3_copy_8 ⟨Nat.zero_le _, Nat.zero_le _⟩ (fun cs_ H locs h_1 hP hD hS => ?_)
  subst h_1
  have hP : va_P E.1 vwCl [(q, .inr (4, [.ref on, .ref off, .long mu, .long ba, .long bl, .long wh, .int to, .int (b2i wr)])), (on, .inr (1, [.int w1, .long r1', .long b1'])), (off, .inr (1, [.int w2, .long r2, .long b2])), (q', .inr (4, [.ref on', .ref off', .long mu', .long ba', .long bl', .long wh', .int to', .int (b2i wr')])), (on', .inr (1, [.int w1', .long r1', .long b1'])), (off', .inr (1, [.int w2', .long r2', .long b2']))] H := hP.sub [0, 4, 1, 2, 5, 3] rfl
  have hD : va_D A [(q, .inr (4, [.ref on, .ref off, .long mu, .long ba, .long bl, .long wh, .int to, .int (b2i wr)])), (on, .inr (1, [.int w1, .long r1', .long b1'])), (off, .inr (1, [.int w2, .long r2, .long b2])), (q', .inr (4, [.ref on', .ref off', .long mu', .long ba', .long bl', .long wh', .int to', .int (b2i wr')])), (on', .inr (1, [.int w1', .long r1', .long b1'])), (off', .inr (1, [.int w2', .long r2', .long b2']))] := hD.sub [0, 4, 1, 2, 5, 3] (by decide) rfl
  refine lv_aload_n hx hb dX3_copy_11 rfl (lv_at hl 0 rfl) ?_
  refine va_get (D := E.1) (ci := 4) (v := .ref off) (C := RX3) (T := TX3) (N := 8) hx hb hts hi_RX3 hown hE.1 hP 0 rfl rfl 1 (by decide) hf_26 (fun _ h9 => h9) rfl dX3_copy_12 ?_
  refine lv_aload_n hx hb dX3_copy_15 rfl (lv_at hl 1 rfl) ?_
  refine va_get (D := E.1) (ci := 4) (v := .ref off') (C := RX3) (T := TX3) (N := 8) hx hb hts hi_RX3 hown hE.1 hP 3 rfl rfl 1 (by decide) hf_26 (fun _ h9 => h9) rfl dX3_copy_16 ?_
  refine wrV (As := [.ref off']) (rest := []) (wr := [(q, .inr (4, [.ref on, .ref off, .long mu, .long ba, .long bl, .long wh, .int to, .int (b2i wr)])), (on, .inr (1, [.int w1, .long r1', .long b1'])), (q', .inr (4, [.ref on', .ref off', .long mu', .long ba', .long bl', .long wh', .int to', .int (b2i wr')])), (on', .inr (1, [.int w1', .long r1', .long b1']))]) ⟨hx, hb, hml, hown, hts⟩ hE (cX0_copy_ct l E H.size off w2 r2 b2 off' w2' r2' b2') (cwV 1 hts gX3_copy_X0_copy rfl rfl rfl (by decide +kernel) ⟨Nat.le_of_ble_eq_true rfl, Nat.le_of_ble_eq_true rfl⟩) hP hD hS hA [2, 5] [0, 1, 3, 4] rfl rfl (by decide) (by decide) (hP.sub (ws' := [(off, .inr (1, [.int w2, .long r2, .long b2])), (off', .inr (1, [.int w2', .long r2', .long b2']))]) [2, 5] rfl) (hD.sub (ws' := [(off, .inr (1, [.int w2, .long r2, .long b2])), (off', .inr (1, [.int w2', .long r2', .long b2']))]) [2, 5] (by decide) rfl) (va_recv hE.1 hP (ci := 1) (q0 := 2) rfl rfl) rfl hl.1 rfl (Nat.le_of_ble_eq_true rfl) dX3_copy_19 ⟨Nat.zero_le _, Nat.zero_le _⟩ (fun cs_ H locs h_2 hP hD hS => ?_)
  subst h_2
  have hP : va_P E.1 vwCl [(q, .inr (4, [.ref on, .ref off, .long mu, .long ba, .long bl, .long wh, .int to, .int (b2i wr)])), (on, .inr (1, [.int w1, .long r1', .long b1'])), (off, .inr (1, [.int w2, .long r2', .long b2'])), (q', .inr (4, [.ref on', .ref off', .long mu', .long ba', .long bl', .long wh', .int to', .int (b2i wr')])), (on', .inr (1, [.int w1', .long r1', .long b1'])), (off', .inr (1, [.int w2', .long r2', .long b2']))] H := hP.sub [0, 1, 4, 2, 3, 5] rfl
  have hD : va_D A [(q, .inr (4, [.ref on, .ref off, .long mu, .long ba, .long bl, .long wh, .int to, .int (b2i wr)])), (on, .inr (1, [.int w1, .long r1', .long b1'])), (off, .inr (1, [.int w2, .long r2', .long b2'])), (q', .inr (4, [.ref on', .ref off', .long mu', .long ba', .long bl', .long wh', .int to', .int (b2i wr')])), (on', .inr (1, [.int w1', .long r1', .long b1'])), (off', .inr (1, [.int w2', .long r2', .long b2']))] := hD.sub [0, 1, 4, 2, 3, 5] (by decide) rfl
  refine lv_aload_n hx hb dX3_copy_22 rfl (lv_at hl 0 rfl) ?_
  refine lv_aload_n hx hb dX3_copy_23 rfl (lv_at hl 1 rfl) ?_
  refine va_get (D := E.1) (ci := 4) (v := .long mu') (C := RX3) (T := TX3) (N := 8) hx hb hts hi_RX3 hown hE.1 hP 3 rfl rfl 2 (by decide) hf_36 (fun _ h9 => h9) rfl dX3_copy_24 ?_
  refine va_put (D := E.1) (ci := 4) (v := .long mu') (ty := .long) (C := RX3) (T := TX3) (N := 8) hx hb hts hi_RX3 tyX3 tyX3_ok nmX3 hown hE.1 hP hD hS 0 rfl rfl 2 (by decide) hf_36 (fun _ h9 => h9) rfl (by decide +kernel) (rfl) (rfl) (Nat.le_of_ble_eq_true rfl) dX3_copy_27 (fun H locs hP hD hS => ?_)
  have hP : va_P E.1 vwCl [(q, .inr (4, [.ref on, .ref off, .long mu', .long ba, .long bl, .long wh, .int to, .int (b2i wr)])), (on, .inr (1, [.int w1, .long r1', .long b1'])), (off, .inr (1, [.int w2, .long r2', .long b2'])), (q', .inr (4, [.ref on', .ref off', .long mu', .long ba', .long bl', .long wh', .int to', .int (b2i wr')])), (on', .inr (1, [.int w1', .long r1', .long b1'])), (off', .inr (1, [.int w2', .long r2', .long b2']))] H := hP
  have hD : va_D A [(q, .inr (4, [.ref on, .ref off, .long mu', .long ba, .long bl, .long wh, .int to, .int (b2i wr)])), (on, .inr (1, [.int w1, .long r1', .long b1'])), (off, .inr (1, [.int w2, .long r2', .long b2'])), (q', .inr (4, [.ref on', .ref off', .long mu', .long ba', .long bl', .long wh', .int to', .int (b2i wr')])), (on', .inr (1, [.int w1', .long r1', .long b1'])), (off', .inr (1, [.int w2', .long r2', .long b2']))] := hD
  refine lv_aload_n hx hb dX3_copy_30 rfl (lv_at hl 0 rfl) ?_
  refine lv_aload_n hx hb dX3_copy_31 rfl (lv_at hl 1 rfl) ?_
  refine va_get (D := E.1) (ci := 4) (v := .long ba') (C := RX3) (T := TX3) (N := 8) hx hb hts hi_RX3 hown hE.1 hP 3 rfl rfl 3 (by decide) hf_40 (fun _ h9 => h9) rfl dX3_copy_32 ?_
  refine va_put (D := E.1) (ci := 4) (v := .long ba') (ty := .long) (C := RX3) (T := TX3) (N := 8) hx hb hts hi_RX3 tyX3 tyX3_ok nmX3 hown hE.1 hP hD hS 0 rfl rfl 3 (by decide) hf_40 (fun _ h9 => h9) rfl (by decide +kernel) (rfl) (rfl) (Nat.le_of_ble_eq_true rfl) dX3_copy_35 (fun H locs hP hD hS => ?_)
  have hP : va_P E.1 vwCl [(q, .inr (4, [.ref on, .ref off, .long mu', .long ba', .long bl, .long wh, .int to, .int (b2i wr)])), (on, .inr (1, [.int w1, .long r1', .long b1'])), (off, .inr (1, [.int w2, .long r2', .long b2'])), (q', .inr (4, [.ref on', .ref off', .long mu', .long ba', .long bl', .long wh', .int to', .int (b2i wr')])), (on', .inr (1, [.int w1', .long r1', .long b1'])), (off', .inr (1, [.int w2', .long r2', .long b2']))] H := hP
  have hD : va_D A [(q, .inr (4, [.ref on, .ref off, .long mu', .long ba', .long bl, .long wh, .int to, .int (b2i wr)])), (on, .inr (1, [.int w1, .long r1', .long b1'])), (off, .inr (1, [.int w2, .long r2', .long b2'])), (q', .inr (4, [.ref on', .ref off', .long mu', .long ba', .long bl', .long wh', .int to', .int (b2i wr')])), (on', .inr (1, [.int w1', .long r1', .long b1'])), (off', .inr (1, [.int w2', .long r2', .long b2']))] := hD
  refine lv_aload_n hx hb dX3_copy_38 rfl (lv_at hl 0 rfl) ?_
  refine lv_aload_n hx hb dX3_copy_39 rfl (lv_at hl 1 rfl) ?_
  refine va_get (D := E.1) (ci := 4) (v := .long bl') (C := RX3) (T := TX3) (N := 8) hx hb hts hi_RX3 hown hE.1 hP 3 rfl rfl 4 (by decide) hf_43 (fun _ h9 => h9) rfl dX3_copy_40 ?_
  refine va_put (D := E.1) (ci := 4) (v := .long bl') (ty := .long) (C := RX3) (T := TX3) (N := 8) hx hb hts hi_RX3 tyX3 tyX3_ok nmX3 hown hE.1 hP hD hS 0 rfl rfl 4 (by decide) hf_43 (fun _ h9 => h9) rfl (by decide +kernel) (rfl) (rfl) (Nat.le_of_ble_eq_true rfl) dX3_copy_43 (fun H locs hP hD hS => ?_)
  have hP : va_P E.1 vwCl [(q, .inr (4, [.ref on, .ref off, .long mu', .long ba', .long bl', .long wh, .int to, .int (b2i wr)])), (on, .inr (1, [.int w1, .long r1', .long b1'])), (off, .inr (1, [.int w2, .long r2', .long b2'])), (q', .inr (4, [.ref on', .ref off', .long mu', .long ba', .long bl', .long wh', .int to', .int (b2i wr')])), (on', .inr (1, [.int w1', .long r1', .long b1'])), (off', .inr (1, [.int w2', .long r2', .long b2']))] H := hP
  have hD : va_D A [(q, .inr (4, [.ref on, .ref off, .long mu', .long ba', .long bl', .long wh, .int to, .int (b2i wr)])), (on, .inr (1, [.int w1, .long r1', .long b1'])), (off, .inr (1, [.int w2, .long r2', .long b2'])), (q', .inr (4, [.ref on', .ref off', .long mu', .long ba', .long bl', .long wh', .int to', .int (b2i wr')])), (on', .inr (1, [.int w1', .long r1', .long b1'])), (off', .inr (1, [.int w2', .long r2', .long b2']))] := hD
  refine lv_aload_n hx hb dX3_copy_46 rfl (lv_at hl 0 rfl) ?_
  refine lv_aload_n hx hb dX3_copy_47 rfl (lv_at hl 1 rfl) ?_
  refine va_get (D := E.1) (ci := 4) (v := .long wh') (C := RX3) (T := TX3) (N := 8) hx hb hts hi_RX3 hown hE.1 hP 3 rfl rfl 5 (by decide) hf_46 (fun _ h9 => h9) rfl dX3_copy_48 ?_
  refine va_put (D := E.1) (ci := 4) (v := .long wh') (ty := .long) (C := RX3) (T := TX3) (N := 8) hx hb hts hi_RX3 tyX3 tyX3_ok nmX3 hown hE.1 hP hD hS 0 rfl rfl 5 (by decide) hf_46 (fun _ h9 => h9) rfl (by decide +kernel) (rfl) (rfl) (Nat.le_of_ble_eq_true rfl) dX3_copy_51 (fun H locs hP hD hS => ?_)
  have hP : va_P E.1 vwCl [(q, .inr (4, [.ref on, .ref off, .long mu', .long ba', .long bl', .long wh', .int to, .int (b2i wr)])), (on, .inr (1, [.int w1, .long r1', .long b1'])), (off, .inr (1, [.int w2, .long r2', .long b2'])), (q', .inr (4, [.ref on', .ref off', .long mu', .long ba', .long bl', .long wh', .int to', .int (b2i wr')])), (on', .inr (1, [.int w1', .long r1', .long b1'])), (off', .inr (1, [.int w2', .long r2', .long b2']))] H := hP
  have hD : va_D A [(q, .inr (4, [.ref on, .ref off, .long mu', .long ba', .long bl', .long wh', .int to, .int (b2i wr)])), (on, .inr (1, [.int w1, .long r1', .long b1'])), (off, .inr (1, [.int w2, .long r2', .long b2'])), (q', .inr (4, [.ref on', .ref off', .long mu', .long ba', .long bl', .long wh', .int to', .int (b2i wr')])), (on', .inr (1, [.int w1', .long r1', .long b1'])), (off', .inr (1, [.int w2', .long r2', .long b2']))] := hD
  refine lv_aload_n hx hb dX3_copy_54 rfl (lv_at hl 0 rfl) ?_
  refine lv_aload_n hx hb dX3_copy_55 rfl (lv_at hl 1 rfl) ?_
  refine va_get (D := E.1) (ci := 4) (v := .int to') (C := RX3) (T := TX3) (N := 8) hx hb hts hi_RX3 hown hE.1 hP 3 rfl rfl 6 (by decide) hf_29 (fun _ h9 => h9) rfl dX3_copy_56 ?_
  refine va_put (D := E.1) (ci := 4) (v := .int to') (ty := .int) (C := RX3) (T := TX3) (N := 8) hx hb hts hi_RX3 tyX3 tyX3_ok nmX3 hown hE.1 hP hD hS 0 rfl rfl 6 (by decide) hf_29 (fun _ h9 => h9) rfl (by decide +kernel) (rfl) (rfl) (Nat.le_of_ble_eq_true rfl) dX3_copy_59 (fun H locs hP hD hS => ?_)
  have hP : va_P E.1 vwCl [(q, .inr (4, [.ref on, .ref off, .long mu', .long ba', .long bl', .long wh', .int to', .int (b2i wr)])), (on, .inr (1, [.int w1, .long r1', .long b1'])), (off, .inr (1, [.int w2, .long r2', .long b2'])), (q', .inr (4, [.ref on', .ref off', .long mu', .long ba', .long bl', .long wh', .int to', .int (b2i wr')])), (on', .inr (1, [.int w1', .long r1', .long b1'])), (off', .inr (1, [.int w2', .long r2', .long b2']))] H := hP
  have hD : va_D A [(q, .inr (4, [.ref on, .ref off, .long mu', .long ba', .long bl', .long wh', .int to', .int (b2i wr)])), (on, .inr (1, [.int w1, .long r1', .long b1'])), (off, .inr (1, [.int w2, .long r2', .long b2'])), (q', .inr (4, [.ref on', .ref off', .long mu', .long ba', .long bl', .long wh', .int to', .int (b2i wr')])), (on', .inr (1, [.int w1', .long r1', .long b1'])), (off', .inr (1, [.int w2', .long r2', .long b2']))] := hD
  refine lv_aload_n hx hb dX3_copy_62 rfl (lv_at hl 0 rfl) ?_
  refine lv_aload_n hx hb dX3_copy_63 rfl (lv_at hl 1 rfl) ?_
  refine va_get (D := E.1) (ci := 4) (v := .int (b2i wr')) (C := RX3) (T := TX3) (N := 8) hx hb hts hi_RX3 hown hE.1 hP 3 rfl rfl 7 (by decide) hf_49 (fun _ h9 => h9) rfl dX3_copy_64 ?_
  refine va_put (D := E.1) (ci := 4) (v := .int (b2i wr')) (ty := .boolean) (C := RX3) (T := TX3) (N := 8) hx hb hts hi_RX3 tyX3 tyX3_ok nmX3 hown hE.1 hP hD hS 0 rfl rfl 7 (by decide) hf_49 (fun _ h9 => h9) rfl (by decide +kernel) (b2i_nar _) (b2i_fit _) (Nat.le_of_ble_eq_true rfl) dX3_copy_67 (fun H locs hP hD hS => ?_)
  have hP : va_P E.1 vwCl [(q, .inr (4, [.ref on, .ref off, .long mu', .long ba', .long bl', .long wh', .int to', .int (b2i wr')])), (on, .inr (1, [.int w1, .long r1', .long b1'])), (off, .inr (1, [.int w2, .long r2', .long b2'])), (q', .inr (4, [.ref on', .ref off', .long mu', .long ba', .long bl', .long wh', .int to', .int (b2i wr')])), (on', .inr (1, [.int w1', .long r1', .long b1'])), (off', .inr (1, [.int w2', .long r2', .long b2']))] H := hP
  have hD : va_D A [(q, .inr (4, [.ref on, .ref off, .long mu', .long ba', .long bl', .long wh', .int to', .int (b2i wr')])), (on, .inr (1, [.int w1, .long r1', .long b1'])), (off, .inr (1, [.int w2, .long r2', .long b2'])), (q', .inr (4, [.ref on', .ref off', .long mu', .long ba', .long bl', .long wh', .int to', .int (b2i wr')])), (on', .inr (1, [.int w1', .long r1', .long b1'])), (off', .inr (1, [.int w2', .long r2', .long b2']))] := hD
  exact W.vret hx hb hr (fun t9 ht9 hW => ⟨⟨rfl, [(q, .inr (4, [.ref on, .ref off, .long mu', .long ba', .long bl', .long wh', .int to', .int (b2i wr')])), (on, .inr (1, [.int w1, .long r1', .long b1'])), (off, .inr (1, [.int w2, .long r2', .long b2'])), (q', .inr (4, [.ref on', .ref off', .long mu', .long ba', .long bl', .long wh', .int to', .int (b2i wr')])), (on', .inr (1, [.int w1', .long r1', .long b1'])), (off', .inr (1, [.int w2', .long r2', .long b2']))], rfl, by rw [ht9]; exact hP, hD⟩, hS.F ht9⟩) hS.2.2 dX3_copy_70
