set_option maxHeartbeats 4000000 in
set_option maxRecDepth 100000 in
theorem tX5_checkEdge (l : Launch) (hl0 : l.stackTraces = false) (E : GE) (sz q g ga st lg gw gh : Nat) (ec : Int32) (ce ar ab : Int64) (lr ma sa : Nat) (sd : Int32) (a : Int32) (hv : fHasEdge (nI (2 * (gw * gh))) ar ab a = false) : txM l yX5_checkEdge (wsX5_checkEdge ++ tW) ({ frames := 7, cells := 1, slots := 6, locals := 95 }) E sz [.ref lr, .int a] [(lr, .inr (6, [.ref g, .ref st, .ref lg, .ref q, .ref ma, .ref sa, .int sd])), (g, .inr (2, [.int (nI gw), .int (nI gh), .int (nI (gw * gh)), .int ec, .int (nI (2 * (gw * gh))), .long ce, .ref ga])), (ga, .inr (1, [.int (nI gw), .long ar, .long ab]))] eA := by
  refine vx_ofW (cc := cX5_checkEdge) (maxL := 2) (ret := none) (by decide) rfl ?_
  intro p e s m args below meth c s₁ B hml htab hv0
  obtain ⟨rfl, hsz, hE, hP, hT⟩ := hv0
  have hx := B.exec
  have hb := B.bytes
  have hr := B.returns
  have hts := atoms_spec (ws := wsX5_checkEdge ++ tW) B.pre
  have hown : s.vm.findClass RX5 = some m.cls := findClass_of_methodNamed B.named
  have hlocks := B.notSynchronized
  subst hsz
  have hl := lv_entry ([.ref lr, .int a]) (n := 2) (Nat.le_of_ble_eq_true rfl)
  rw [lg_entry_eq]
  generalize (lg_sl ([.ref lr, .int a]) ++ List.replicate (2 - (lg_sl ([.ref lr, .int a])).length) Slot.unset).toArray = ls at hl ⊢
  have hl : lv_has ls 2 [(0, .ref lr), (1, .int a)] := hl
  have hf_18 := hts (.fieldLink RX5 18 "LoopRegions" "grid" "LLoopRegions$Grid;") (List.mem_append_left _ (by decide +kernel))
  have hi_RX5 : ∀ w ∈ wsX50, w ∈ wsX5_checkEdge ++ tW := fun w hw => List.mem_append_left _ ((by decide +kernel : ∀ w ∈ wsX50, w ∈ wsX5_checkEdge) w hw)
  refine lv_aload_n hx hb dX5_checkEdge_0 rfl (lv_at hl 0 rfl) ?_
  refine va_get (D := E.1) (ci := 6) (v := .ref g) (C := RX5) (T := TX5) (N := 7) hx hb hts hi_RX5 hown hE.1 hP 0 rfl rfl 0 (by decide) hf_18 (fun _ h9 => h9) rfl dX5_checkEdge_1 ?_
  refine lv_iload_n hx hb dX5_checkEdge_4 rfl (lv_at hl 1 rfl) ?_
  refine crVi (As := [.int a]) (rest := []) ⟨hx, hb, hml, hown, hts⟩ hE (cX1_hasEdge_ct l E g (nI gw) (nI gh) (nI (gw * gh)) ec (nI (2 * (gw * gh))) ce ga (nI gw) ar ab a) (cwV 1 hts (fun w hw => ⟨List.mem_append_left _ (gX5_checkEdge_X1_hasEdge w hw).1, (gX5_checkEdge_X1_hasEdge w hw).2⟩) rfl rfl rfl (by decide +kernel) ⟨Nat.le_of_ble_eq_true rfl, Nat.le_of_ble_eq_true rfl⟩) (hP.sub (ws' := [(g, .inr (2, [.int (nI gw), .int (nI gh), .int (nI (gw * gh)), .int ec, .int (nI (2 * (gw * gh))), .long ce, .ref ga])), (ga, .inr (1, [.int (nI gw), .long ar, .long ab]))]) [1, 2] rfl) (va_recv (ci := 2) hE.1 hP rfl (q0 := 1) rfl) rfl hl.1 rfl (Nat.le_of_ble_eq_true rfl) dX5_checkEdge_5 ⟨Nat.zero_le _, Nat.zero_le _⟩ ?_
  refine lv_if_ne (tgt := 21) hx hb dX5_checkEdge_8 (by decide) (fun c_8 => ?_) (fun c_8 => ?_)
  · exact absurd (by rw [hv]; rfl) c_8
  · exact tx_throw (ls := ls) hx hb hl0 hown hts hT tA_in (t1_in (by decide +kernel)) (t1_in (by decide +kernel)) (text := "there is no such edge") (is := 182) (by decide) eA_fit.1 eA_fit.2 tA_ok (hl.1.trans hml.symm) dX5_checkEdge_11 dX5_checkEdge_14 dX5_checkEdge_15 dX5_checkEdge_17 dX5_checkEdge_20 htab (Nat.le_of_ble_eq_true rfl) (Nat.le_of_ble_eq_true rfl) (Nat.le_refl _) (Nat.le_refl _) hlocks
set_option maxHeartbeats 4000000 in
set_option maxRecDepth 100000 in
theorem tX5_checkCell (l : Launch) (hl0 : l.stackTraces = false) (E : GE) (sz q g ga st lg gw gh : Nat) (ec : Int32) (ce ar ab : Int64) (lr ma sa : Nat) (sd : Int32) (a : Int32) (hv : fHasCell (nI (gw * gh)) a = false) : txM l yX5_checkCell (wsX5_checkCell ++ tW) ({ frames := 7, cells := 1, slots := 6, locals := 95 }) E sz [.ref lr, .int a] [(lr, .inr (6, [.ref g, .ref st, .ref lg, .ref q, .ref ma, .ref sa, .int sd])), (g, .inr (2, [.int (nI gw), .int (nI gh), .int (nI (gw * gh)), .int ec, .int (nI (2 * (gw * gh))), .long ce, .ref ga])), (ga, .inr (1, [.int (nI gw), .long ar, .long ab]))] eA := by
  refine vx_ofW (cc := cX5_checkCell) (maxL := 2) (ret := none) (by decide) rfl ?_
  intro p e s m args below meth c s₁ B hml htab hv0
  obtain ⟨rfl, hsz, hE, hP, hT⟩ := hv0
  have hx := B.exec
  have hb := B.bytes
  have hr := B.returns
  have hts := atoms_spec (ws := wsX5_checkCell ++ tW) B.pre
  have hown : s.vm.findClass RX5 = some m.cls := findClass_of_methodNamed B.named
  have hlocks := B.notSynchronized
  subst hsz
  have hl := lv_entry ([.ref lr, .int a]) (n := 2) (Nat.le_of_ble_eq_true rfl)
  rw [lg_entry_eq]
  generalize (lg_sl ([.ref lr, .int a]) ++ List.replicate (2 - (lg_sl ([.ref lr, .int a])).length) Slot.unset).toArray = ls at hl ⊢
  have hl : lv_has ls 2 [(0, .ref lr), (1, .int a)] := hl
  have hf_18 := hts (.fieldLink RX5 18 "LoopRegions" "grid" "LLoopRegions$Grid;") (List.mem_append_left _ (by decide +kernel))
  have hi_RX5 : ∀ w ∈ wsX50, w ∈ wsX5_checkCell ++ tW := fun w hw => List.mem_append_left _ ((by decide +kernel : ∀ w ∈ wsX50, w ∈ wsX5_checkCell) w hw)
  refine lv_aload_n hx hb dX5_checkCell_0 rfl (lv_at hl 0 rfl) ?_
  refine va_get (D := E.1) (ci := 6) (v := .ref g) (C := RX5) (T := TX5) (N := 7) hx hb hts hi_RX5 hown hE.1 hP 0 rfl rfl 0 (by decide) hf_18 (fun _ h9 => h9) rfl dX5_checkCell_1 ?_
  refine lv_iload_n hx hb dX5_checkCell_4 rfl (lv_at hl 1 rfl) ?_
  refine crVi (As := [.int a]) (rest := []) ⟨hx, hb, hml, hown, hts⟩ hE (cX1_hasCell_ct l E g (nI gw) (nI gh) (nI (gw * gh)) ec (nI (2 * (gw * gh))) ce ga (nI gw) ar ab a) (cwV 1 hts (fun w hw => ⟨List.mem_append_left _ (gX5_checkCell_X1_hasCell w hw).1, (gX5_checkCell_X1_hasCell w hw).2⟩) rfl rfl rfl (by decide +kernel) ⟨Nat.le_of_ble_eq_true rfl, Nat.le_of_ble_eq_true rfl⟩) (hP.sub (ws' := [(g, .inr (2, [.int (nI gw), .int (nI gh), .int (nI (gw * gh)), .int ec, .int (nI (2 * (gw * gh))), .long ce, .ref ga])), (ga, .inr (1, [.int (nI gw), .long ar, .long ab]))]) [1, 2] rfl) (va_recv (ci := 2) hE.1 hP rfl (q0 := 1) rfl) rfl hl.1 rfl (Nat.le_of_ble_eq_true rfl) dX5_checkCell_5 ⟨Nat.zero_le _, Nat.zero_le _⟩ ?_
  refine lv_if_ne (tgt := 21) hx hb dX5_checkCell_8 (by decide) (fun c_8 => ?_) (fun c_8 => ?_)
  · exact absurd (by rw [hv]; rfl) c_8
  · exact tx_throw (ls := ls) hx hb hl0 hown hts hT tA_in (t1_in (by decide +kernel)) (t1_in (by decide +kernel)) (text := "there is no such cell") (is := 188) (by decide) eA_fit.1 eA_fit.2 tA_ok (hl.1.trans hml.symm) dX5_checkCell_11 dX5_checkCell_14 dX5_checkCell_15 dX5_checkCell_17 dX5_checkCell_20 htab (Nat.le_of_ble_eq_true rfl) (Nat.le_of_ble_eq_true rfl) (Nat.le_refl _) (Nat.le_refl _) hlocks
set_option maxHeartbeats 4000000 in
set_option maxRecDepth 100000 in
theorem tX5_end (l : Launch) (hl0 : l.stackTraces = false) (E : GE) (sz q g ga st lg gw gh : Nat) (ec : Int32) (ce ar ab : Int64) (lr ma sa : Nat) (sd : Int32) (a : Int32) (z : Int32) (hv : fHasEdge (nI (2 * (gw * gh))) ar ab a = false) : txM l yX5_end (wsX5_end ++ tW) ({ frames := 8, cells := 1, slots := 6, locals := 116 }) E sz [.ref lr, .int a, .int z] [(lr, .inr (6, [.ref g, .ref st, .ref lg, .ref q, .ref ma, .ref sa, .int sd])), (g, .inr (2, [.int (nI gw), .int (nI gh), .int (nI (gw * gh)), .int ec, .int (nI (2 * (gw * gh))), .long ce, .ref ga])), (ga, .inr (1, [.int (nI gw), .long ar, .long ab]))] eA := by
  refine vx_ofW (cc := cX5_end) (maxL := 3) (ret := (some .int)) (by decide) rfl ?_
  intro p e s m args below meth c s₁ B hml htab hv0
  obtain ⟨rfl, hsz, hE, hP, hT⟩ := hv0
  have hx := B.exec
  have hb := B.bytes
  have hr := B.returns
  have hts := atoms_spec (ws := wsX5_end ++ tW) B.pre
  have hown : s.vm.findClass RX5 = some m.cls := findClass_of_methodNamed B.named
  have hlocks := B.notSynchronized
  subst hsz
  have hl := lv_entry ([.ref lr, .int a, .int z]) (n := 3) (Nat.le_of_ble_eq_true rfl)
  rw [lg_entry_eq]
  generalize (lg_sl ([.ref lr, .int a, .int z]) ++ List.replicate (3 - (lg_sl ([.ref lr, .int a, .int z])).length) Slot.unset).toArray = ls at hl ⊢
  have hl : lv_has ls 3 [(0, .ref lr), (1, .int a), (2, .int z)] := hl
  refine lv_aload_n hx hb dX5_end_0 rfl (lv_at hl 0 rfl) ?_
  refine lv_iload_n hx hb dX5_end_1 rfl (lv_at hl 1 rfl) ?_
  refine tx_call (rest := []) (vx_runV (As := [.int a]) (rest := []) (g := F0 m 2 ls [.int a, .ref lr]) ⟨hx, hb, hml, hown, hts⟩ (tX5_checkEdge l hl0 E s.heap.size q g ga st lg gw gh ec ce ar ab lr ma sa sd a hv) (cwV 1 hts (goodTV gX5_end_X5_checkEdge) rfl rfl rfl (by decide +kernel) ⟨Nat.le_of_ble_eq_true rfl, Nat.le_of_ble_eq_true rfl⟩) ⟨tx_blind, va_recv (ci := 6) hE.1 hP rfl (q0 := 0) rfl, tx_pre hE hP hT (fun q h => h)⟩ rfl rfl hl.1 rfl (lv_room (Nat.le_of_ble_eq_true rfl)) dX5_end_2 ⟨Nat.le_refl _, Nat.le_refl _⟩) (fun q0 ce0 H1 L1 h1 h2 h3 h4 h5 h6 => ?_)
  exact vx_out (fun x hx => (htab x hx).elim) hlocks h4 h5 h6 (fun t ht _ => ⟨rfl, by rw [ht]; exact h1, fun a ha _ => by rw [ht]; exact h2 a ha⟩) h3 (Nat.le_refl _) (Nat.le_refl _)
set_option maxHeartbeats 4000000 in
set_option maxRecDepth 100000 in
theorem tX5_edge (l : Launch) (hl0 : l.stackTraces = false) (E : GE) (sz q g ga st lg gw gh : Nat) (ec : Int32) (ce ar ab : Int64) (lr ma sa : Nat) (sd : Int32) (a : Int32) (z : Int32) (hv : fHasEdge (nI (2 * (gw * gh))) ar ab a = false) : txM l yX5_edge (wsX5_edge ++ tW) ({ frames := 8, cells := 1, slots := 6, locals := 116 }) E sz [.ref lr, .int a, .int z] [(lr, .inr (6, [.ref g, .ref st, .ref lg, .ref q, .ref ma, .ref sa, .int sd])), (g, .inr (2, [.int (nI gw), .int (nI gh), .int (nI (gw * gh)), .int ec, .int (nI (2 * (gw * gh))), .long ce, .ref ga])), (ga, .inr (1, [.int (nI gw), .long ar, .long ab]))] eA := by
  refine vx_ofW (cc := cX5_edge) (maxL := 3) (ret := (some .boolean)) (by decide) rfl ?_
  intro p e s m args below meth c s₁ B hml htab hv0
  obtain ⟨rfl, hsz, hE, hP, hT⟩ := hv0
  have hx := B.exec
  have hb := B.bytes
  have hr := B.returns
  have hts := atoms_spec (ws := wsX5_edge ++ tW) B.pre
  have hown : s.vm.findClass RX5 = some m.cls := findClass_of_methodNamed B.named
  have hlocks := B.notSynchronized
  subst hsz
  have hl := lv_entry ([.ref lr, .int a, .int z]) (n := 3) (Nat.le_of_ble_eq_true rfl)
  rw [lg_entry_eq]
  generalize (lg_sl ([.ref lr, .int a, .int z]) ++ List.replicate (3 - (lg_sl ([.ref lr, .int a, .int z])).length) Slot.unset).toArray = ls at hl ⊢
  have hl : lv_has ls 3 [(0, .ref lr), (1, .int a), (2, .int z)] := hl
  refine lv_aload_n hx hb dX5_edge_0 rfl (lv_at hl 0 rfl) ?_
  refine lv_iload_n hx hb dX5_edge_1 rfl (lv_at hl 1 rfl) ?_
  refine tx_call (rest := []) (vx_runV (As := [.int a]) (rest := []) (g := F0 m 2 ls [.int a, .ref lr]) ⟨hx, hb, hml, hown, hts⟩ (tX5_checkEdge l hl0 E s.heap.size q g ga st lg gw gh ec ce ar ab lr ma sa sd a hv) (cwV 1 hts (goodTV gX5_edge_X5_checkEdge) rfl rfl rfl (by decide +kernel) ⟨Nat.le_of_ble_eq_true rfl, Nat.le_of_ble_eq_true rfl⟩) ⟨tx_blind, va_recv (ci := 6) hE.1 hP rfl (q0 := 0) rfl, tx_pre hE hP hT (fun q h => h)⟩ rfl rfl hl.1 rfl (lv_room (Nat.le_of_ble_eq_true rfl)) dX5_edge_2 ⟨Nat.le_refl _, Nat.le_refl _⟩) (fun q0 ce0 H1 L1 h1 h2 h3 h4 h5 h6 => ?_)
  exact vx_out (fun x hx => (htab x hx).elim) hlocks h4 h5 h6 (fun t ht _ => ⟨rfl, by rw [ht]; exact h1, fun a ha _ => by rw [ht]; exact h2 a ha⟩) h3 (Nat.le_refl _) (Nat.le_refl _)
set_option maxHeartbeats 4000000 in
set_option maxRecDepth 100000 in
theorem tX5_is (l : Launch) (hl0 : l.stackTraces = false) (E : GE) (sz q g ga st lg gw gh : Nat) (ec : Int32) (ce ar ab : Int64) (lr ma sa : Nat) (sd : Int32) (a : Int32) (hv : fHasEdge (nI (2 * (gw * gh))) ar ab a = false) : txM l yX5_is (wsX5_is ++ tW) ({ frames := 8, cells := 1, slots := 6, locals := 116 }) E sz [.ref lr, .int a] [(lr, .inr (6, [.ref g, .ref st, .ref lg, .ref q, .ref ma, .ref sa, .int sd])), (g, .inr (2, [.int (nI gw), .int (nI gh), .int (nI (gw * gh)), .int ec, .int (nI (2 * (gw * gh))), .long ce, .ref ga])), (ga, .inr (1, [.int (nI gw), .long ar, .long ab]))] eA := by
  refine vx_ofW (cc := cX5_is) (maxL := 2) (ret := (some .int)) (by decide) rfl ?_
  intro p e s m args below meth c s₁ B hml htab hv0
  obtain ⟨rfl, hsz, hE, hP, hT⟩ := hv0
  have hx := B.exec
  have hb := B.bytes
  have hr := B.returns
  have hts := atoms_spec (ws := wsX5_is ++ tW) B.pre
  have hown : s.vm.findClass RX5 = some m.cls := findClass_of_methodNamed B.named
  have hlocks := B.notSynchronized
  subst hsz
  have hl := lv_entry ([.ref lr, .int a]) (n := 2) (Nat.le_of_ble_eq_true rfl)
  rw [lg_entry_eq]
  generalize (lg_sl ([.ref lr, .int a]) ++ List.replicate (2 - (lg_sl ([.ref lr, .int a])).length) Slot.unset).toArray = ls at hl ⊢
  have hl : lv_has ls 2 [(0, .ref lr), (1, .int a)] := hl
  refine lv_aload_n hx hb dX5_is_0 rfl (lv_at hl 0 rfl) ?_
  refine lv_iload_n hx hb dX5_is_1 rfl (lv_at hl 1 rfl) ?_
  refine tx_call (rest := []) (vx_runV (As := [.int a]) (rest := []) (g := F0 m 2 ls [.int a, .ref lr]) ⟨hx, hb, hml, hown, hts⟩ (tX5_checkEdge l hl0 E s.heap.size q g ga st lg gw gh ec ce ar ab lr ma sa sd a hv) (cwV 1 hts (goodTV gX5_is_X5_checkEdge) rfl rfl rfl (by decide +kernel) ⟨Nat.le_of_ble_eq_true rfl, Nat.le_of_ble_eq_true rfl⟩) ⟨tx_blind, va_recv (ci := 6) hE.1 hP rfl (q0 := 0) rfl, tx_pre hE hP hT (fun q h => h)⟩ rfl rfl hl.1 rfl (lv_room (Nat.le_of_ble_eq_true rfl)) dX5_is_2 ⟨Nat.le_refl _, Nat.le_refl _⟩) (fun q0 ce0 H1 L1 h1 h2 h3 h4 h5 h6 => ?_)
  exact vx_out (fun x hx => (htab x hx).elim) hlocks h4 h5 h6 (fun t ht _ => ⟨rfl, by rw [ht]; exact h1, fun a ha _ => by rw [ht]; exact h2 a ha⟩) h3 (Nat.le_refl _) (Nat.le_refl _)
set_option maxHeartbeats 4000000 in
set_option maxRecDepth 100000 in
theorem tX5_reason (l : Launch) (hl0 : l.stackTraces = false) (E : GE) (sz q g ga st lg gw gh : Nat) (ec : Int32) (ce ar ab : Int64) (lr ma sa : Nat) (sd : Int32) (a : Int32) (hv : fHasEdge (nI (2 * (gw * gh))) ar ab a = false) : txM l yX5_reason (wsX5_reason ++ tW) ({ frames := 8, cells := 1, slots := 6, locals := 116 }) E sz [.ref lr, .int a] [(lr, .inr (6, [.ref g, .ref st, .ref lg, .ref q, .ref ma, .ref sa, .int sd])), (g, .inr (2, [.int (nI gw), .int (nI gh), .int (nI (gw * gh)), .int ec, .int (nI (2 * (gw * gh))), .long ce, .ref ga])), (ga, .inr (1, [.int (nI gw), .long ar, .long ab]))] eA := by
  refine vx_ofW (cc := cX5_reason) (maxL := 2) (ret := (some .int)) (by decide) rfl ?_
  intro p e s m args below meth c s₁ B hml htab hv0
  obtain ⟨rfl, hsz, hE, hP, hT⟩ := hv0
  have hx := B.exec
  have hb := B.bytes
  have hr := B.returns
  have hts := atoms_spec (ws := wsX5_reason ++ tW) B.pre
  have hown : s.vm.findClass RX5 = some m.cls := findClass_of_methodNamed B.named
  have hlocks := B.notSynchronized
  subst hsz
  have hl := lv_entry ([.ref lr, .int a]) (n := 2) (Nat.le_of_ble_eq_true rfl)
  rw [lg_entry_eq]
  generalize (lg_sl ([.ref lr, .int a]) ++ List.replicate (2 - (lg_sl ([.ref lr, .int a])).length) Slot.unset).toArray = ls at hl ⊢
  have hl : lv_has ls 2 [(0, .ref lr), (1, .int a)] := hl
  refine lv_aload_n hx hb dX5_reason_0 rfl (lv_at hl 0 rfl) ?_
  refine lv_iload_n hx hb dX5_reason_1 rfl (lv_at hl 1 rfl) ?_
  refine tx_call (rest := []) (vx_runV (As := [.int a]) (rest := []) (g := F0 m 2 ls [.int a, .ref lr]) ⟨hx, hb, hml, hown, hts⟩ (tX5_checkEdge l hl0 E s.heap.size q g ga st lg gw gh ec ce ar ab lr ma sa sd a hv) (cwV 1 hts (goodTV gX5_reason_X5_checkEdge) rfl rfl rfl (by decide +kernel) ⟨Nat.le_of_ble_eq_true rfl, Nat.le_of_ble_eq_true rfl⟩) ⟨tx_blind, va_recv (ci := 6) hE.1 hP rfl (q0 := 0) rfl, tx_pre hE hP hT (fun q h => h)⟩ rfl rfl hl.1 rfl (lv_room (Nat.le_of_ble_eq_true rfl)) dX5_reason_2 ⟨Nat.le_refl _, Nat.le_refl _⟩) (fun q0 ce0 H1 L1 h1 h2 h3 h4 h5 h6 => ?_)
  exact vx_out (fun x hx => (htab x hx).elim) hlocks h4 h5 h6 (fun t ht _ => ⟨rfl, by rw [ht]; exact h1, fun a ha _ => by rw [ht]; exact h2 a ha⟩) h3 (Nat.le_refl _) (Nat.le_refl _)
set_option maxHeartbeats 4000000 in
set_option maxRecDepth 100000 in
theorem tX5_shade (l : Launch) (hl0 : l.stackTraces = false) (E : GE) (sz q g ga st lg gw gh : Nat) (ec : Int32) (ce ar ab : Int64) (lr ma sa : Nat) (sd : Int32) (a : Int32) (z : Int32) (hv : fHasCell (nI (gw * gh)) a = false) : txM l yX5_shade (wsX5_shade ++ tW) ({ frames := 8, cells := 1, slots := 6, locals := 116 }) E sz [.ref lr, .int a, .int z] [(lr, .inr (6, [.ref g, .ref st, .ref lg, .ref q, .ref ma, .ref sa, .int sd])), (g, .inr (2, [.int (nI gw), .int (nI gh), .int (nI (gw * gh)), .int ec, .int (nI (2 * (gw * gh))), .long ce, .ref ga])), (ga, .inr (1, [.int (nI gw), .long ar, .long ab]))] eA := by
  refine vx_ofW (cc := cX5_shade) (maxL := 3) (ret := (some .boolean)) (by decide) rfl ?_
  intro p e s m args below meth c s₁ B hml htab hv0
  obtain ⟨rfl, hsz, hE, hP, hT⟩ := hv0
  have hx := B.exec
  have hb := B.bytes
  have hr := B.returns
  have hts := atoms_spec (ws := wsX5_shade ++ tW) B.pre
  have hown : s.vm.findClass RX5 = some m.cls := findClass_of_methodNamed B.named
  have hlocks := B.notSynchronized
  subst hsz
  have hl := lv_entry ([.ref lr, .int a, .int z]) (n := 3) (Nat.le_of_ble_eq_true rfl)
  rw [lg_entry_eq]
  generalize (lg_sl ([.ref lr, .int a, .int z]) ++ List.replicate (3 - (lg_sl ([.ref lr, .int a, .int z])).length) Slot.unset).toArray = ls at hl ⊢
  have hl : lv_has ls 3 [(0, .ref lr), (1, .int a), (2, .int z)] := hl
  refine lv_aload_n hx hb dX5_shade_0 rfl (lv_at hl 0 rfl) ?_
  refine lv_iload_n hx hb dX5_shade_1 rfl (lv_at hl 1 rfl) ?_
  refine tx_call (rest := []) (vx_runV (As := [.int a]) (rest := []) (g := F0 m 2 ls [.int a, .ref lr]) ⟨hx, hb, hml, hown, hts⟩ (tX5_checkCell l hl0 E s.heap.size q g ga st lg gw gh ec ce ar ab lr ma sa sd a hv) (cwV 1 hts (goodTV gX5_shade_X5_checkCell) rfl rfl rfl (by decide +kernel) ⟨Nat.le_of_ble_eq_true rfl, Nat.le_of_ble_eq_true rfl⟩) ⟨tx_blind, va_recv (ci := 6) hE.1 hP rfl (q0 := 0) rfl, tx_pre hE hP hT (fun q h => h)⟩ rfl rfl hl.1 rfl (lv_room (Nat.le_of_ble_eq_true rfl)) dX5_shade_2 ⟨Nat.le_refl _, Nat.le_refl _⟩) (fun q0 ce0 H1 L1 h1 h2 h3 h4 h5 h6 => ?_)
  exact vx_out (fun x hx => (htab x hx).elim) hlocks h4 h5 h6 (fun t ht _ => ⟨rfl, by rw [ht]; exact h1, fun a ha _ => by rw [ht]; exact h2 a ha⟩) h3 (Nat.le_refl _) (Nat.le_refl _)
set_option maxHeartbeats 4000000 in
set_option maxRecDepth 100000 in
theorem tX5_cell (l : Launch) (hl0 : l.stackTraces = false) (E : GE) (sz q g ga st lg gw gh : Nat) (ec : Int32) (ce ar ab : Int64) (lr ma sa : Nat) (sd : Int32) (a : Int32) (z : Int32) (hv : fHasCell (nI (gw * gh)) a = false) : txM l yX5_cell (wsX5_cell ++ tW) ({ frames := 8, cells := 1, slots := 6, locals := 116 }) E sz [.ref lr, .int a, .int z] [(lr, .inr (6, [.ref g, .ref st, .ref lg, .ref q, .ref ma, .ref sa, .int sd])), (g, .inr (2, [.int (nI gw), .int (nI gh), .int (nI (gw * gh)), .int ec, .int (nI (2 * (gw * gh))), .long ce, .ref ga])), (ga, .inr (1, [.int (nI gw), .long ar, .long ab]))] eA := by
  refine vx_ofW (cc := cX5_cell) (maxL := 3) (ret := (some .int)) (by decide) rfl ?_
  intro p e s m args below meth c s₁ B hml htab hv0
  obtain ⟨rfl, hsz, hE, hP, hT⟩ := hv0
  have hx := B.exec
  have hb := B.bytes
  have hr := B.returns
  have hts := atoms_spec (ws := wsX5_cell ++ tW) B.pre
  have hown : s.vm.findClass RX5 = some m.cls := findClass_of_methodNamed B.named
  have hlocks := B.notSynchronized
  subst hsz
  have hl := lv_entry ([.ref lr, .int a, .int z]) (n := 3) (Nat.le_of_ble_eq_true rfl)
  rw [lg_entry_eq]
  generalize (lg_sl ([.ref lr, .int a, .int z]) ++ List.replicate (3 - (lg_sl ([.ref lr, .int a, .int z])).length) Slot.unset).toArray = ls at hl ⊢
  have hl : lv_has ls 3 [(0, .ref lr), (1, .int a), (2, .int z)] := hl
  refine lv_aload_n hx hb dX5_cell_0 rfl (lv_at hl 0 rfl) ?_
  refine lv_iload_n hx hb dX5_cell_1 rfl (lv_at hl 1 rfl) ?_
  refine tx_call (rest := []) (vx_runV (As := [.int a]) (rest := []) (g := F0 m 2 ls [.int a, .ref lr]) ⟨hx, hb, hml, hown, hts⟩ (tX5_checkCell l hl0 E s.heap.size q g ga st lg gw gh ec ce ar ab lr ma sa sd a hv) (cwV 1 hts (goodTV gX5_cell_X5_checkCell) rfl rfl rfl (by decide +kernel) ⟨Nat.le_of_ble_eq_true rfl, Nat.le_of_ble_eq_true rfl⟩) ⟨tx_blind, va_recv (ci := 6) hE.1 hP rfl (q0 := 0) rfl, tx_pre hE hP hT (fun q h => h)⟩ rfl rfl hl.1 rfl (lv_room (Nat.le_of_ble_eq_true rfl)) dX5_cell_2 ⟨Nat.le_refl _, Nat.le_refl _⟩) (fun q0 ce0 H1 L1 h1 h2 h3 h4 h5 h6 => ?_)
  exact vx_out (fun x hx => (htab x hx).elim) hlocks h4 h5 h6 (fun t ht _ => ⟨rfl, by rw [ht]; exact h1, fun a ha _ => by rw [ht]; exact h2 a ha⟩) h3 (Nat.le_refl _) (Nat.le_refl _)
set_option maxHeartbeats 4000000 in
set_option maxRecDepth 100000 in
theorem tX5_duty__A (l : Launch) (hl0 : l.stackTraces = false) (E : GE) (sz q g ga st lg gw gh : Nat) (ec : Int32) (ce ar ab : Int64) (lr ma sa : Nat) (sd : Int32) (a : Int32) (z : Int32) (hv : fHasCell (nI (gw * gh)) a = false) : txM l yX5_duty (wsX5_duty ++ tW) ({ frames := 8, cells := 1, slots := 6, locals := 116 }) E sz [.ref lr, .int a, .int z] [(lr, .inr (6, [.ref g, .ref st, .ref lg, .ref q, .ref ma, .ref sa, .int sd])), (g, .inr (2, [.int (nI gw), .int (nI gh), .int (nI (gw * gh)), .int ec, .int (nI (2 * (gw * gh))), .long ce, .ref ga])), (ga, .inr (1, [.int (nI gw), .long ar, .long ab]))] eA := by
  refine vx_ofW (cc := cX5_duty) (maxL := 3) (ret := (some .boolean)) (by decide) rfl ?_
  intro p e s m args below meth c s₁ B hml htab hv0
  obtain ⟨rfl, hsz, hE, hP, hT⟩ := hv0
  have hx := B.exec
  have hb := B.bytes
  have hr := B.returns
  have hts := atoms_spec (ws := wsX5_duty ++ tW) B.pre
  have hown : s.vm.findClass RX5 = some m.cls := findClass_of_methodNamed B.named
  have hlocks := B.notSynchronized
  subst hsz
  have hl := lv_entry ([.ref lr, .int a, .int z]) (n := 3) (Nat.le_of_ble_eq_true rfl)
  rw [lg_entry_eq]
  generalize (lg_sl ([.ref lr, .int a, .int z]) ++ List.replicate (3 - (lg_sl ([.ref lr, .int a, .int z])).length) Slot.unset).toArray = ls at hl ⊢
  have hl : lv_has ls 3 [(0, .ref lr), (1, .int a), (2, .int z)] := hl
  refine lv_aload_n hx hb dX5_duty_0 rfl (lv_at hl 0 rfl) ?_
  refine lv_iload_n hx hb dX5_duty_1 rfl (lv_at hl 1 rfl) ?_
  refine tx_call (rest := []) (vx_runV (As := [.int a]) (rest := []) (g := F0 m 2 ls [.int a, .ref lr]) ⟨hx, hb, hml, hown, hts⟩ (tX5_checkCell l hl0 E s.heap.size q g ga st lg gw gh ec ce ar ab lr ma sa sd a hv) (cwV 1 hts (goodTV gX5_duty_X5_checkCell) rfl rfl rfl (by decide +kernel) ⟨Nat.le_of_ble_eq_true rfl, Nat.le_of_ble_eq_true rfl⟩) ⟨tx_blind, va_recv (ci := 6) hE.1 hP rfl (q0 := 0) rfl, tx_pre hE hP hT (fun q h => h)⟩ rfl rfl hl.1 rfl (lv_room (Nat.le_of_ble_eq_true rfl)) dX5_duty_2 ⟨Nat.le_refl _, Nat.le_refl _⟩) (fun q0 ce0 H1 L1 h1 h2 h3 h4 h5 h6 => ?_)
  exact vx_out (fun x hx => (htab x hx).elim) hlocks h4 h5 h6 (fun t ht _ => ⟨rfl, by rw [ht]; exact h1, fun a ha _ => by rw [ht]; exact h2 a ha⟩) h3 (Nat.le_refl _) (Nat.le_refl _)
set_option maxHeartbeats 4000000 in
set_option maxRecDepth 100000 in
theorem tX5_told (l : Launch) (hl0 : l.stackTraces = false) (E : GE) (sz q g ga st lg gw gh : Nat) (ec : Int32) (ce ar ab : Int64) (lr ma sa : Nat) (sd : Int32) (a : Int32) (hv : a < -1 ∨ ¬ a ≤ 64) : txM l yX5_told (wsX5_told ++ tW) ({ frames := 6, cells := 1, slots := 6, locals := 82 }) E sz [.ref lr, .int a] [(lr, .inr (6, [.ref g, .ref st, .ref lg, .ref q, .ref ma, .ref sa, .int sd]))] eI := by
  refine vx_ofW (cc := cX5_told) (maxL := 2) (ret := none) (by decide) rfl ?_
  intro p e s m args below meth c s₁ B hml htab hv0
  obtain ⟨rfl, hsz, hE, hP, hT⟩ := hv0
  have hx := B.exec
  have hb := B.bytes
  have hr := B.returns
  have hts := atoms_spec (ws := wsX5_told ++ tW) B.pre
  have hown : s.vm.findClass RX5 = some m.cls := findClass_of_methodNamed B.named
  have hlocks := B.notSynchronized
  subst hsz
  have hl := lv_entry ([.ref lr, .int a]) (n := 2) (Nat.le_of_ble_eq_true rfl)
  rw [lg_entry_eq]
  generalize (lg_sl ([.ref lr, .int a]) ++ List.replicate (2 - (lg_sl ([.ref lr, .int a])).length) Slot.unset).toArray = ls at hl ⊢
  have hl : lv_has ls 2 [(0, .ref lr), (1, .int a)] := hl
  refine lv_iload_n hx hb dX5_told_0 rfl (lv_at hl 1 rfl) ?_
  refine lv_iconst (v := (-1)) hx hb dX5_told_1 (by decide) ?_
  refine lv_icmp_lt (tgt := 11) hx hb dX5_told_2 (by decide) (fun c_2 => ?_) (fun c_2 => ?_)
  · exact tx_throw (ls := ls) hx hb hl0 hown hts hT tI_in (t1_in (by decide +kernel)) (t1_in (by decide +kernel)) (text := "what is told is -1 to 64") (is := 109) (by decide) eI_fit.1 eI_fit.2 tI_ok (hl.1.trans hml.symm) dX5_told_11 dX5_told_14 dX5_told_15 dX5_told_17 dX5_told_20 htab (Nat.le_of_ble_eq_true rfl) (Nat.le_of_ble_eq_true rfl) (Nat.le_refl _) (Nat.le_refl _) hlocks
  · refine lv_iload_n hx hb dX5_told_5 rfl (lv_at hl 1 rfl) ?_
    refine lv_bipush (v := 64) hx hb dX5_told_6 (by decide) ?_
    refine lv_icmp_le (tgt := 21) hx hb dX5_told_8 (by decide) (fun c_8 => ?_) (fun c_8 => ?_)
    · exact (hv.elim c_2 (fun q => q c_8)).elim
    · exact tx_throw (ls := ls) hx hb hl0 hown hts hT tI_in (t1_in (by decide +kernel)) (t1_in (by decide +kernel)) (text := "what is told is -1 to 64") (is := 109) (by decide) eI_fit.1 eI_fit.2 tI_ok (hl.1.trans hml.symm) dX5_told_11 dX5_told_14 dX5_told_15 dX5_told_17 dX5_told_20 htab (Nat.le_of_ble_eq_true rfl) (Nat.le_of_ble_eq_true rfl) (Nat.le_refl _) (Nat.le_refl _) hlocks
set_option maxHeartbeats 4000000 in
set_option maxRecDepth 100000 in
theorem tX5_step (l : Launch) (hl0 : l.stackTraces = false) (E : GE) (sz q g st lg a1 a2 a3 a4 k lr ma sa : Nat) (sd : Int32) (a d : Int32) (hv : a < 0 ∨ ¬ a < nI k ∨ ¬ 0 ≤ d) : txM l yX5_step (wsX5_step ++ tW) ({ frames := 6, cells := 1, slots := 6, locals := 82 }) E sz [.ref lr, .int a, .int d] [(lr, .inr (6, [.ref g, .ref st, .ref lg, .ref q, .ref ma, .ref sa, .int sd])), (lg, .inr (5, [.ref a1, .ref a2, .ref a3, .ref a4, .int (nI k)]))] eO := by
  refine vx_ofW (cc := cX5_step) (maxL := 3) (ret := (some .int)) (by decide) rfl ?_
  intro p e s m args below meth c s₁ B hml htab hv0
  obtain ⟨rfl, hsz, hE, hP, hT⟩ := hv0
  have hx := B.exec
  have hb := B.bytes
  have hr := B.returns
  have hts := atoms_spec (ws := wsX5_step ++ tW) B.pre
  have hown : s.vm.findClass RX5 = some m.cls := findClass_of_methodNamed B.named
  have hlocks := B.notSynchronized
  subst hsz
  have hl := lv_entry ([.ref lr, .int a, .int d]) (n := 3) (Nat.le_of_ble_eq_true rfl)
  rw [lg_entry_eq]
  generalize (lg_sl ([.ref lr, .int a, .int d]) ++ List.replicate (3 - (lg_sl ([.ref lr, .int a, .int d])).length) Slot.unset).toArray = ls at hl ⊢
  have hl : lv_has ls 3 [(0, .ref lr), (1, .int a), (2, .int d)] := hl
  have hf_43 := hts (.fieldLink RX5 43 "LoopRegions" "log" "LLoopRegions$StepLog;") (List.mem_append_left _ (by decide +kernel))
  have hf_114 := hts (.fieldLink RX5 114 "LoopRegions$StepLog" "count" "I") (List.mem_append_left _ (by decide +kernel))
  have hi_RX5 : ∀ w ∈ wsX50, w ∈ wsX5_step ++ tW := fun w hw => List.mem_append_left _ ((by decide +kernel : ∀ w ∈ wsX50, w ∈ wsX5_step) w hw)
  have hi_RX4 : ∀ w ∈ wsX40, w ∈ wsX5_step ++ tW := fun w hw => List.mem_append_left _ ((by decide +kernel : ∀ w ∈ wsX40, w ∈ wsX5_step) w hw)
  refine lv_iload_n hx hb dX5_step_0 rfl (lv_at hl 1 rfl) ?_
  refine lv_if_lt (tgt := 15) hx hb dX5_step_1 (by decide) (fun c_1 => ?_) (fun c_1 => ?_)
  · exact tx_throw (ls := ls) hx hb hl0 hown hts hT tO_in (t1_in (by decide +kernel)) (t1_in (by decide +kernel)) (text := "there is no such step") (is := 127) (by decide) eO_fit.1 eO_fit.2 tO_ok (hl.1.trans hml.symm) dX5_step_15 dX5_step_18 dX5_step_19 dX5_step_21 dX5_step_24 htab (Nat.le_of_ble_eq_true rfl) (Nat.le_of_ble_eq_true rfl) (Nat.le_refl _) (Nat.le_refl _) hlocks
  · refine lv_iload_n hx hb dX5_step_4 rfl (lv_at hl 1 rfl) ?_
    refine lv_aload_n hx hb dX5_step_5 rfl (lv_at hl 0 rfl) ?_
    refine va_get (D := E.1) (ci := 6) (v := .ref lg) (C := RX5) (T := TX5) (N := 7) hx hb hts hi_RX5 hown hE.1 hP 0 rfl rfl 2 (by decide) hf_43 (fun _ h9 => h9) rfl dX5_step_6 ?_
    refine va_get (D := E.1) (ci := 5) (v := .int (nI k)) (C := RX4) (T := TX4) (N := 5) hx hb hts hi_RX4 hown hE.1 hP 1 rfl rfl 4 (by decide) hf_114 (fun _ h9 => h9) rfl dX5_step_9 ?_
    refine lv_icmp_lt (tgt := 25) hx hb dX5_step_12 (by decide) (fun c_12 => ?_) (fun c_12 => ?_)
    · refine lv_iload_n hx hb dX5_step_25 rfl (lv_at hl 2 rfl) ?_
      refine lv_if_ge (tgt := 39) hx hb dX5_step_26 (by decide) (fun c_26 => ?_) (fun c_26 => ?_)
      · exact (hv.elim c_1 (fun q => q.elim (fun q => q c_12) (fun q => q c_26))).elim
      · exact tx_throw (ls := ls) hx hb hl0 hown hts hT tO_in (t1_in (by decide +kernel)) (t1_in (by decide +kernel)) (text := "nothing of a step is below 0") (is := 130) (by decide) eO_fit.1 eO_fit.2 tO_ok (hl.1.trans hml.symm) dX5_step_29 dX5_step_32 dX5_step_33 dX5_step_35 dX5_step_38 htab (Nat.le_of_ble_eq_true rfl) (Nat.le_of_ble_eq_true rfl) (Nat.le_refl _) (Nat.le_refl _) hlocks
    · exact tx_throw (ls := ls) hx hb hl0 hown hts hT tO_in (t1_in (by decide +kernel)) (t1_in (by decide +kernel)) (text := "there is no such step") (is := 127) (by decide) eO_fit.1 eO_fit.2 tO_ok (hl.1.trans hml.symm) dX5_step_15 dX5_step_18 dX5_step_19 dX5_step_21 dX5_step_24 htab (Nat.le_of_ble_eq_true rfl) (Nat.le_of_ble_eq_true rfl) (Nat.le_refl _) (Nat.le_refl _) hlocks
set_option maxHeartbeats 4000000 in
set_option maxRecDepth 100000 in
theorem rX5_checkCell (l : Launch) (E : GE) (q g ga st lg gw gh : Nat) (ec : Int32) (ce ar ab : Int64) (lr ma sa : Nat) (sd : Int32) (a : Int32) (hv : fHasCell (nI (gw * gh)) a = true) : Met l yX5_checkCell wsX5_checkCell ({ frames := 1, cells := 0, slots := 0, locals := 21 }) (va_Pc [.ref lr, .int a] (rdP E [(lr, .inr (6, [.ref g, .ref st, .ref lg, .ref q, .ref ma, .ref sa, .int sd])), (g, .inr (2, [.int (nI gw), .int (nI gh), .int (nI (gw * gh)), .int ec, .int (nI (2 * (gw * gh))), .long ce, .ref ga])), (ga, .inr (1, [.int (nI gw), .long ar, .long ab]))])) (va_Sv (fun _ => True)) 0 0 (fun _ => False) := by
  refine Met.ofW (cc := cX5_checkCell) (maxL := 2) (ret := none) (by decide) rfl ?_
  intro p e s m args below meth c s₁ B hml hv0
  obtain ⟨rfl, hE, hP⟩ := hv0
  have hx := B.exec
  have hb := B.bytes
  have hr := B.returns
  have hts := atoms_spec (ws := wsX5_checkCell) B.pre
  have hown : s.vm.findClass RX5 = some m.cls := findClass_of_methodNamed B.named
  have hlocks := B.notSynchronized
  have hl := lv_entry ([.ref lr, .int a]) (n := 2) (Nat.le_of_ble_eq_true rfl)
  rw [lg_entry_eq]
  generalize (lg_sl ([.ref lr, .int a]) ++ List.replicate (2 - (lg_sl ([.ref lr, .int a])).length) Slot.unset).toArray = ls at hl ⊢
  have hl : lv_has ls 2 [(0, .ref lr), (1, .int a)] := hl
  have hf_18 := hts (.fieldLink RX5 18 "LoopRegions" "grid" "LLoopRegions$Grid;") (by decide +kernel)
  have hi_RX5 : ∀ w ∈ wsX50, w ∈ wsX5_checkCell := by decide +kernel
  refine lv_aload_n hx hb dX5_checkCell_0 rfl (lv_at hl 0 rfl) ?_
  refine va_get (D := E.1) (ci := 6) (v := .ref g) (C := RX5) (T := TX5) (N := 7) hx hb hts hi_RX5 hown hE.1 hP 0 rfl rfl 0 (by decide) hf_18 (fun _ h9 => h9) rfl dX5_checkCell_1 ?_
  refine lv_iload_n hx hb dX5_checkCell_4 rfl (lv_at hl 1 rfl) ?_
  refine crVi (As := [.int a]) (rest := []) ⟨hx, hb, hml, hown, hts⟩ hE (cX1_hasCell_ct l E g (nI gw) (nI gh) (nI (gw * gh)) ec (nI (2 * (gw * gh))) ce ga (nI gw) ar ab a) (cwV 1 hts gX5_checkCell_X1_hasCell rfl rfl rfl (by decide +kernel) ⟨Nat.le_of_ble_eq_true rfl, Nat.le_of_ble_eq_true rfl⟩) (hP.sub (ws' := [(g, .inr (2, [.int (nI gw), .int (nI gh), .int (nI (gw * gh)), .int ec, .int (nI (2 * (gw * gh))), .long ce, .ref ga])), (ga, .inr (1, [.int (nI gw), .long ar, .long ab]))]) [1, 2] rfl) (va_recv hE.1 hP (ci := 2) (q0 := 1) rfl rfl) rfl hl.1 rfl (Nat.le_of_ble_eq_true rfl) dX5_checkCell_5 ⟨Nat.zero_le _, Nat.zero_le _⟩ ?_
  refine lv_if_ne (tgt := 21) hx hb dX5_checkCell_8 (by decide) (fun c_8 => ?_) (fun c_8 => ?_)
  · exact W.vret hx hb hr (fun t9 ht9 hW => ⟨rfl, trivial, ht9⟩) (fun q hq => by cases hq) dX5_checkCell_21
  · exact absurd c_8 (by rw [hv]; decide)
set_option maxHeartbeats 4000000 in
set_option maxRecDepth 100000 in
theorem tX5_duty__B (l : Launch) (hl0 : l.stackTraces = false) (E : GE) (sz q g ga st lg gw gh : Nat) (ec : Int32) (ce ar ab : Int64) (lr ma sa : Nat) (sd : Int32) (a z : Int32) (hv : fHasCell (nI (gw * gh)) a = true) (hz : z < 0 ∨ ¬ z ≤ 2) : txM l yX5_duty (wsX5_duty ++ tW) ({ frames := 6, cells := 1, slots := 6, locals := 82 }) E sz [.ref lr, .int a, .int z] [(lr, .inr (6, [.ref g, .ref st, .ref lg, .ref q, .ref ma, .ref sa, .int sd])), (g, .inr (2, [.int (nI gw), .int (nI gh), .int (nI (gw * gh)), .int ec, .int (nI (2 * (gw * gh))), .long ce, .ref ga])), (ga, .inr (1, [.int (nI gw), .long ar, .long ab]))] eI := by
  refine vx_ofW (cc := cX5_duty) (maxL := 3) (ret := (some .boolean)) (by decide) rfl ?_
  intro p e s m args below meth c s₁ B hml htab hv0
  obtain ⟨rfl, hsz, hE, hP, hT⟩ := hv0
  have hx := B.exec
  have hb := B.bytes
  have hr := B.returns
  have hts := atoms_spec (ws := wsX5_duty ++ tW) B.pre
  have hown : s.vm.findClass RX5 = some m.cls := findClass_of_methodNamed B.named
  have hlocks := B.notSynchronized
  subst hsz
  have hl := lv_entry ([.ref lr, .int a, .int z]) (n := 3) (Nat.le_of_ble_eq_true rfl)
  rw [lg_entry_eq]
  generalize (lg_sl ([.ref lr, .int a, .int z]) ++ List.replicate (3 - (lg_sl ([.ref lr, .int a, .int z])).length) Slot.unset).toArray = ls at hl ⊢
  have hl : lv_has ls 3 [(0, .ref lr), (1, .int a), (2, .int z)] := hl
  refine lv_aload_n hx hb dX5_duty_0 rfl (lv_at hl 0 rfl) ?_
  refine lv_iload_n hx hb dX5_duty_1 rfl (lv_at hl 1 rfl) ?_
  refine va_csv (va_Run.run (va_runV (As := [.int a]) (rest := []) (g := F0 m 2 ls [.int a, .ref lr]) ⟨hx, hb, hml, hown, hts⟩ (rX5_checkCell l E q g ga st lg gw gh ec ce ar ab lr ma sa sd a hv) (cwV 1 hts (fun w hw => ⟨List.mem_append_left _ (gX5_duty_X5_checkCell w hw).1, (gX5_duty_X5_checkCell w hw).2⟩) rfl rfl rfl (by decide +kernel) ⟨Nat.le_of_ble_eq_true rfl, Nat.le_of_ble_eq_true rfl⟩) ⟨rd_blind, va_recv hE.1 hP (ci := 6) (q0 := 0) rfl rfl, fun U hU hW => ⟨rfl, ev_warm hW hE, by rw [hU]; exact hP⟩⟩ rfl rfl hl.1 rfl (lv_room (Nat.le_of_ble_eq_true rfl)) dX5_duty_2 ⟨Nat.zero_le _, Nat.zero_le _⟩)) (fun _ => ?_)
  refine lv_iload_n hx hb dX5_duty_5 rfl (lv_at hl 2 rfl) ?_
  refine lv_if_lt (tgt := 14) hx hb dX5_duty_6 (by decide) (fun c_6 => ?_) (fun c_6 => ?_)
  · exact tx_throw (ls := ls) hx hb hl0 hown hts hT tI_in (t1_in (by decide +kernel)) (t1_in (by decide +kernel)) (text := "a duty is 0 to 2") (is := 92) (by decide) eI_fit.1 eI_fit.2 tI_ok (hl.1.trans hml.symm) dX5_duty_14 dX5_duty_17 dX5_duty_18 dX5_duty_20 dX5_duty_23 htab (Nat.le_of_ble_eq_true rfl) (Nat.le_of_ble_eq_true rfl) (Nat.le_refl _) (Nat.le_refl _) hlocks
  · refine lv_iload_n hx hb dX5_duty_9 rfl (lv_at hl 2 rfl) ?_
    refine lv_iconst (v := 2) hx hb dX5_duty_10 (by decide) ?_
    refine lv_icmp_le (tgt := 24) hx hb dX5_duty_11 (by decide) (fun c_11 => ?_) (fun c_11 => ?_)
    · exact (hz.elim c_6 (fun q => q c_11)).elim
    · exact tx_throw (ls := ls) hx hb hl0 hown hts hT tI_in (t1_in (by decide +kernel)) (t1_in (by decide +kernel)) (text := "a duty is 0 to 2") (is := 92) (by decide) eI_fit.1 eI_fit.2 tI_ok (hl.1.trans hml.symm) dX5_duty_14 dX5_duty_17 dX5_duty_18 dX5_duty_20 dX5_duty_23 htab (Nat.le_of_ble_eq_true rfl) (Nat.le_of_ble_eq_true rfl) (Nat.le_refl _) (Nat.le_refl _) hlocks
