/-! LoopRegions: its methods where they do not throw: laid by wip/s_lr.py -/
set_option maxHeartbeats 4000000 in
set_option maxRecDepth 100000 in
theorem cX5_size_ct (l : Launch) (E : GE) (q : Nat) (g : Nat) (ga : Nat) (st : Nat) (lg : Nat) (gw : Nat) (gh : Nat) (ec : Int32) (ce : Int64) (ar : Int64) (ab : Int64) (lr : Nat) (ma : Nat) (sa : Nat) (sd : Int32)   : rdI l yX5_size wsX5_size ({ frames := 0, cells := 0, slots := 0, locals := 0 }) E [.ref lr] [(lr, .inr (6, [.ref g, .ref st, .ref lg, .ref q, .ref ma, .ref sa, .int sd])), (g, .inr (2, [.int (nI gw), .int (nI gh), .int (nI (gw * gh)), .int ec, .int (nI (2 * (gw * gh))), .long ce, .ref ga])), (ga, .inr (1, [.int (nI gw), .long ar, .long ab]))] (nI (gw * gh)) := by
  refine Met.ofW (cc := cX5_size) (maxL := 1) (ret := (some .int)) (by decide) rfl ?_
  intro p e s m args below meth c s₁ B hml hv
  obtain ⟨rfl, hE, hP⟩ := hv
  have hx := B.exec
  have hb := B.bytes
  have hr := B.returns
  have hts := atoms_spec (ws := wsX5_size) B.pre
  have hown : s.vm.findClass RX5 = some m.cls := findClass_of_methodNamed B.named
  have hlocks := B.notSynchronized
  have hP : va_P E.1 vwCl [(lr, .inr (6, [.ref g, .ref st, .ref lg, .ref q, .ref ma, .ref sa, .int sd])), (g, .inr (2, [.int (nI gw), .int (nI gh), .int (nI (gw * gh)), .int ec, .int (nI (2 * (gw * gh))), .long ce, .ref ga])), (ga, .inr (1, [.int (nI gw), .long ar, .long ab]))] s.heap := hP
  have hl := lv_entry ([.ref lr]) (n := 1) (Nat.le_of_ble_eq_true rfl)
  rw [lg_entry_eq]
  generalize (lg_sl ([.ref lr]) ++ List.replicate (1 - (lg_sl ([.ref lr])).length) Slot.unset).toArray = ls at hl ⊢
  have hl : lv_has ls 1 [(0, .ref lr)] := hl
  have hf_18 := hts (.fieldLink RX5 18 "LoopRegions" "grid" "LLoopRegions$Grid;") (by decide +kernel)
  have hf_37 := hts (.fieldLink RX5 37 "LoopRegions$Grid" "cellCount" "I") (by decide +kernel)
  have hi_RX1 : ∀ w ∈ wsX10, w ∈ wsX5_size := by decide +kernel
  have hi_RX5 : ∀ w ∈ wsX50, w ∈ wsX5_size := by decide +kernel
  refine lv_aload_n hx hb dX5_size_0 rfl (lv_at hl 0 rfl) ?_
  refine va_get (D := E.1) (ci := 6) (v := .ref g) (C := RX5) (T := TX5) (N := 7) hx hb hts hi_RX5 hown hE.1 hP 0 rfl rfl 0 (by decide) hf_18 (fun _ h9 => h9) rfl dX5_size_1 ?_
  refine va_get (D := E.1) (ci := 2) (v := .int (nI (gw * gh))) (C := RX1) (T := TX1) (N := 7) hx hb hts hi_RX1 hown hE.1 hP 1 rfl rfl 2 (by decide) hf_37 (fun _ h9 => h9) rfl dX5_size_4 ?_
  exact W.iret (v := nI (gw * gh)) hx hb hr (fun t9 ht9 _ => ⟨nI (gw * gh), rfl, rfl, ht9⟩) (fun q h => absurd h List.not_mem_nil) dX5_size_7
set_option maxHeartbeats 4000000 in
set_option maxRecDepth 100000 in
theorem cX5_checkEdge_ct (l : Launch) (E : GE) (sz : Nat) (q : Nat) (g : Nat) (ga : Nat) (st : Nat) (lg : Nat) (gw : Nat) (gh : Nat) (ec : Int32) (ce : Int64) (ar : Int64) (ab : Int64) (lr : Nat) (ma : Nat) (sa : Nat) (sd : Int32) (a : Int32) (hv : fHasEdge (nI (2 * (gw * gh))) ar ab a = true) : wrM l yX5_checkEdge wsX5_checkEdge ({ frames := 4, cells := 0, slots := 0, locals := 84 }) E sz [.ref lr, .int a] [(lr, .inr (6, [.ref g, .ref st, .ref lg, .ref q, .ref ma, .ref sa, .int sd])), (g, .inr (2, [.int (nI gw), .int (nI gh), .int (nI (gw * gh)), .int ec, .int (nI (2 * (gw * gh))), .long ce, .ref ga])), (ga, .inr (1, [.int (nI gw), .long ar, .long ab]))] none (fun cs' => cs' = [(lr, .inr (6, [.ref g, .ref st, .ref lg, .ref q, .ref ma, .ref sa, .int sd])), (g, .inr (2, [.int (nI gw), .int (nI gh), .int (nI (gw * gh)), .int ec, .int (nI (2 * (gw * gh))), .long ce, .ref ga])), (ga, .inr (1, [.int (nI gw), .long ar, .long ab]))]) 0 0 := by
  refine Met.ofW (cc := cX5_checkEdge) (maxL := 2) (ret := none) (by decide) rfl ?_
  intro p e s m args below meth c s₁ B hml hv
  obtain ⟨rfl, hsz, hE, hP, hD0⟩ := hv
  have hx := B.exec
  have hb := B.bytes
  have hr := B.returns
  have hts := atoms_spec (ws := wsX5_checkEdge) B.pre
  have hown : s.vm.findClass RX5 = some m.cls := findClass_of_methodNamed B.named
  have hlocks := B.notSynchronized
  subst hsz
  have hD := hD0.self (sz := s.heap.size)
  generalize hAe : va_A [(lr, .inr (6, [.ref g, .ref st, .ref lg, .ref q, .ref ma, .ref sa, .int sd])), (g, .inr (2, [.int (nI gw), .int (nI gh), .int (nI (gw * gh)), .int ec, .int (nI (2 * (gw * gh))), .long ce, .ref ga])), (ga, .inr (1, [.int (nI gw), .long ar, .long ab]))] s.heap.size = A at hD ⊢
  have hA : ∀ q : Nat, s.heap.size ≤ q → A q := fun q h => by rw [← hAe]; exact Or.inr h
  have hS : va_S A s.heap s.heap [] := va_S.rf
  have hP : va_P E.1 vwCl [(lr, .inr (6, [.ref g, .ref st, .ref lg, .ref q, .ref ma, .ref sa, .int sd])), (g, .inr (2, [.int (nI gw), .int (nI gh), .int (nI (gw * gh)), .int ec, .int (nI (2 * (gw * gh))), .long ce, .ref ga])), (ga, .inr (1, [.int (nI gw), .long ar, .long ab]))] s.heap := hP
  have hl := lv_entry ([.ref lr, .int a]) (n := 2) (Nat.le_of_ble_eq_true rfl)
  rw [lg_entry_eq]
  generalize (lg_sl ([.ref lr, .int a]) ++ List.replicate (2 - (lg_sl ([.ref lr, .int a])).length) Slot.unset).toArray = ls at hl ⊢
  have hl : lv_has ls 2 [(0, .ref lr), (1, .int a)] := hl
  have hf_18 := hts (.fieldLink RX5 18 "LoopRegions" "grid" "LLoopRegions$Grid;") (by decide +kernel)
  have hi_RX5 : ∀ w ∈ wsX50, w ∈ wsX5_checkEdge := by decide +kernel
  refine lv_aload_n hx hb dX5_checkEdge_0 rfl (lv_at hl 0 rfl) ?_
  refine va_get (D := E.1) (ci := 6) (v := .ref g) (C := RX5) (T := TX5) (N := 7) hx hb hts hi_RX5 hown hE.1 hP 0 rfl rfl 0 (by decide) hf_18 (fun _ h9 => h9) rfl dX5_checkEdge_1 ?_
  refine lv_iload_n hx hb dX5_checkEdge_4 rfl (lv_at hl 1 rfl) ?_
  refine crVi (As := [.int a]) (rest := []) ⟨hx, hb, hml, hown, hts⟩ hE (cX1_hasEdge_ct l E g (nI gw) (nI gh) (nI (gw * gh)) ec (nI (2 * (gw * gh))) ce ga (nI gw) ar ab a) (cwV 1 hts gX5_checkEdge_X1_hasEdge rfl rfl rfl (by decide +kernel) ⟨Nat.le_of_ble_eq_true rfl, Nat.le_of_ble_eq_true rfl⟩) (hP.sub (ws' := [(g, .inr (2, [.int (nI gw), .int (nI gh), .int (nI (gw * gh)), .int ec, .int (nI (2 * (gw * gh))), .long ce, .ref ga])), (ga, .inr (1, [.int (nI gw), .long ar, .long ab]))]) [1, 2] rfl) (va_recv hE.1 hP (ci := 2) (q0 := 1) rfl rfl) rfl hl.1 rfl (Nat.le_of_ble_eq_true rfl) dX5_checkEdge_5 ⟨Nat.zero_le _, Nat.zero_le _⟩ ?_
  refine lv_if_ne (tgt := 21) hx hb dX5_checkEdge_8 (by decide) (fun c_8 => ?_) (fun c_8 => ?_)
  · skip
    exact W.vret hx hb hr (fun t9 ht9 hW => ⟨⟨rfl, [(lr, .inr (6, [.ref g, .ref st, .ref lg, .ref q, .ref ma, .ref sa, .int sd])), (g, .inr (2, [.int (nI gw), .int (nI gh), .int (nI (gw * gh)), .int ec, .int (nI (2 * (gw * gh))), .long ce, .ref ga])), (ga, .inr (1, [.int (nI gw), .long ar, .long ab]))], rfl, by rw [ht9]; exact hP, hD⟩, hS.F ht9⟩) hS.2.2 dX5_checkEdge_21
  · skip
    exact absurd c_8 (by rw [hv]; decide)
set_option maxHeartbeats 4000000 in
set_option maxRecDepth 100000 in
theorem cX5_checkCell_ct (l : Launch) (E : GE) (sz : Nat) (q : Nat) (g : Nat) (ga : Nat) (st : Nat) (lg : Nat) (gw : Nat) (gh : Nat) (ec : Int32) (ce : Int64) (ar : Int64) (ab : Int64) (lr : Nat) (ma : Nat) (sa : Nat) (sd : Int32) (a : Int32) (hv : fHasCell (nI (gw * gh)) a = true) : wrM l yX5_checkCell wsX5_checkCell ({ frames := 1, cells := 0, slots := 0, locals := 21 }) E sz [.ref lr, .int a] [(lr, .inr (6, [.ref g, .ref st, .ref lg, .ref q, .ref ma, .ref sa, .int sd])), (g, .inr (2, [.int (nI gw), .int (nI gh), .int (nI (gw * gh)), .int ec, .int (nI (2 * (gw * gh))), .long ce, .ref ga])), (ga, .inr (1, [.int (nI gw), .long ar, .long ab]))] none (fun cs' => cs' = [(lr, .inr (6, [.ref g, .ref st, .ref lg, .ref q, .ref ma, .ref sa, .int sd])), (g, .inr (2, [.int (nI gw), .int (nI gh), .int (nI (gw * gh)), .int ec, .int (nI (2 * (gw * gh))), .long ce, .ref ga])), (ga, .inr (1, [.int (nI gw), .long ar, .long ab]))]) 0 0 := by
  refine Met.ofW (cc := cX5_checkCell) (maxL := 2) (ret := none) (by decide) rfl ?_
  intro p e s m args below meth c s₁ B hml hv
  obtain ⟨rfl, hsz, hE, hP, hD0⟩ := hv
  have hx := B.exec
  have hb := B.bytes
  have hr := B.returns
  have hts := atoms_spec (ws := wsX5_checkCell) B.pre
  have hown : s.vm.findClass RX5 = some m.cls := findClass_of_methodNamed B.named
  have hlocks := B.notSynchronized
  subst hsz
  have hD := hD0.self (sz := s.heap.size)
  generalize hAe : va_A [(lr, .inr (6, [.ref g, .ref st, .ref lg, .ref q, .ref ma, .ref sa, .int sd])), (g, .inr (2, [.int (nI gw), .int (nI gh), .int (nI (gw * gh)), .int ec, .int (nI (2 * (gw * gh))), .long ce, .ref ga])), (ga, .inr (1, [.int (nI gw), .long ar, .long ab]))] s.heap.size = A at hD ⊢
  have hA : ∀ q : Nat, s.heap.size ≤ q → A q := fun q h => by rw [← hAe]; exact Or.inr h
  have hS : va_S A s.heap s.heap [] := va_S.rf
  have hP : va_P E.1 vwCl [(lr, .inr (6, [.ref g, .ref st, .ref lg, .ref q, .ref ma, .ref sa, .int sd])), (g, .inr (2, [.int (nI gw), .int (nI gh), .int (nI (gw * gh)), .int ec, .int (nI (2 * (gw * gh))), .long ce, .ref ga])), (ga, .inr (1, [.int (nI gw), .long ar, .long ab]))] s.heap := hP
  have hl := lv_entry ([.ref lr, .int a]) (n := 2) (Nat.le_of_ble_eq_true rfl)
  rw [lg_entry_eq]
  generalize (lg_sl ([.ref lr, .int a]) ++ List.replicate (2 - (lg_sl ([.ref lr, .int a])).length) Slot.unset).toArray = ls at hl ⊢
  have hl : lv_has ls 2 [(0, .ref lr), (1, .int a)] := hl
  have hf_18 := hts (.fieldLink RX5 18 "LoopRegions" "grid" "LLoopRegions$Grid;") (by decide +kernel)
  have hi_RX5 : ∀ w ∈ wsX50, w ∈ wsX5_checkCell := by decide +kernel
  refine lv_aload_n hx hb dX5_checkCell_0 rfl (lv_at hl 0 rfl) ?_
  refine va_get (D := E.1) (ci := 6) (v := .ref g) (C := RX5) (T := TX5) (N := 7) hx hb hts hi_RX5 hown hE.1 hP 0 rfl rfl 0 (by decide) hf_18 (fun _ h9 => h9) rfl dX5_checkCell_1 ?_
  refine lv_iload_n hx hb dX5_checkCell_4 rfl (lv_at hl 1 rfl) ?_
  refine crVi (As := [.int a]) (rest := []) ⟨hx, hb, hml, hown, hts⟩ hE (cX1_hasCell_ct l E g (nI gw) (nI gh) (nI (gw * gh)) ec (nI (2 * (gw * gh))) ce ga (nI gw) ar ab a) (cwV 1 hts gX5_checkCell_X1_hasCell rfl rfl rfl (by decide +kernel) ⟨Nat.le_of_ble_eq_true rfl, Nat.le_of_ble_eq_true rfl⟩) (hP.sub (ws' := [(g, .inr (2, [.int (nI gw), .int (nI gh), .int (nI (gw * gh)), .int ec, .int (nI (2 * (gw * gh))), .long ce, .ref ga])), (ga, .inr (1, [.int (nI gw), .long ar, .long ab]))]) [1, 2] rfl) (va_recv hE.1 hP (ci := 2) (q0 := 1) rfl rfl) rfl hl.1 rfl (Nat.le_of_ble_eq_true rfl) dX5_checkCell_5 ⟨Nat.zero_le _, Nat.zero_le _⟩ ?_
  refine lv_if_ne (tgt := 21) hx hb dX5_checkCell_8 (by decide) (fun c_8 => ?_) (fun c_8 => ?_)
  · skip
    exact W.vret hx hb hr (fun t9 ht9 hW => ⟨⟨rfl, [(lr, .inr (6, [.ref g, .ref st, .ref lg, .ref q, .ref ma, .ref sa, .int sd])), (g, .inr (2, [.int (nI gw), .int (nI gh), .int (nI (gw * gh)), .int ec, .int (nI (2 * (gw * gh))), .long ce, .ref ga])), (ga, .inr (1, [.int (nI gw), .long ar, .long ab]))], rfl, by rw [ht9]; exact hP, hD⟩, hS.F ht9⟩) hS.2.2 dX5_checkCell_21
  · skip
    exact absurd c_8 (by rw [hv]; decide)
set_option maxHeartbeats 4000000 in
set_option maxRecDepth 100000 in
theorem cX5_end_ct (l : Launch) (E : GE) (sz : Nat) (q : Nat) (g : Nat) (ga : Nat) (st : Nat) (lg : Nat) (gw : Nat) (gh : Nat) (ec : Int32) (ce : Int64) (ar : Int64) (ab : Int64) (lr : Nat) (ma : Nat) (sa : Nat) (sd : Int32) (a : Int32) (z : Bool) (hv : fHasEdge (nI (2 * (gw * gh))) ar ab a = true) : wrM l yX5_end wsX5_end ({ frames := 5, cells := 0, slots := 0, locals := 105 }) E sz [.ref lr, .int a, .int (b2i z)] [(lr, .inr (6, [.ref g, .ref st, .ref lg, .ref q, .ref ma, .ref sa, .int sd])), (g, .inr (2, [.int (nI gw), .int (nI gh), .int (nI (gw * gh)), .int ec, .int (nI (2 * (gw * gh))), .long ce, .ref ga])), (ga, .inr (1, [.int (nI gw), .long ar, .long ab]))] (some (.int (if z then fGreater (nI gw) a else fLess a))) (fun cs' => cs' = [(lr, .inr (6, [.ref g, .ref st, .ref lg, .ref q, .ref ma, .ref sa, .int sd])), (g, .inr (2, [.int (nI gw), .int (nI gh), .int (nI (gw * gh)), .int ec, .int (nI (2 * (gw * gh))), .long ce, .ref ga])), (ga, .inr (1, [.int (nI gw), .long ar, .long ab]))]) 0 0 := by
  refine Met.ofW (cc := cX5_end) (maxL := 3) (ret := (some .int)) (by decide) rfl ?_
  intro p e s m args below meth c s₁ B hml hv
  obtain ⟨rfl, hsz, hE, hP, hD0⟩ := hv
  have hx := B.exec
  have hb := B.bytes
  have hr := B.returns
  have hts := atoms_spec (ws := wsX5_end) B.pre
  have hown : s.vm.findClass RX5 = some m.cls := findClass_of_methodNamed B.named
  have hlocks := B.notSynchronized
  subst hsz
  have hD := hD0.self (sz := s.heap.size)
  generalize hAe : va_A [(lr, .inr (6, [.ref g, .ref st, .ref lg, .ref q, .ref ma, .ref sa, .int sd])), (g, .inr (2, [.int (nI gw), .int (nI gh), .int (nI (gw * gh)), .int ec, .int (nI (2 * (gw * gh))), .long ce, .ref ga])), (ga, .inr (1, [.int (nI gw), .long ar, .long ab]))] s.heap.size = A at hD ⊢
  have hA : ∀ q : Nat, s.heap.size ≤ q → A q := fun q h => by rw [← hAe]; exact Or.inr h
  have hS : va_S A s.heap s.heap [] := va_S.rf
  have hP : va_P E.1 vwCl [(lr, .inr (6, [.ref g, .ref st, .ref lg, .ref q, .ref ma, .ref sa, .int sd])), (g, .inr (2, [.int (nI gw), .int (nI gh), .int (nI (gw * gh)), .int ec, .int (nI (2 * (gw * gh))), .long ce, .ref ga])), (ga, .inr (1, [.int (nI gw), .long ar, .long ab]))] s.heap := hP
  have hl := lv_entry ([.ref lr, .int a, .int (b2i z)]) (n := 3) (Nat.le_of_ble_eq_true rfl)
  rw [lg_entry_eq]
  generalize (lg_sl ([.ref lr, .int a, .int (b2i z)]) ++ List.replicate (3 - (lg_sl ([.ref lr, .int a, .int (b2i z)])).length) Slot.unset).toArray = ls at hl ⊢
  have hl : lv_has ls 3 [(0, .ref lr), (1, .int a), (2, .int (b2i z))] := hl
  have hf_18 := hts (.fieldLink RX5 18 "LoopRegions" "grid" "LLoopRegions$Grid;") (by decide +kernel)
  have hi_RX5 : ∀ w ∈ wsX50, w ∈ wsX5_end := by decide +kernel
  refine lv_aload_n hx hb dX5_end_0 rfl (lv_at hl 0 rfl) ?_
  refine lv_iload_n hx hb dX5_end_1 rfl (lv_at hl 1 rfl) ?_
  refine wrV (As := [.int a]) (rest := []) (wr := []) ⟨hx, hb, hml, hown, hts⟩ hE (cX5_checkEdge_ct l E s.heap.size q g ga st lg gw gh ec ce ar ab lr ma sa sd a (by first | assumption | omega | (subst_vars; assumption))) (cwV 1 hts gX5_end_X5_checkEdge rfl rfl rfl (by decide +kernel) ⟨Nat.le_of_ble_eq_true rfl, Nat.le_of_ble_eq_true rfl⟩) hP hD hS hA [0, 1, 2] [] rfl rfl (by decide) (by decide) (hP.sub (ws' := [(lr, .inr (6, [.ref g, .ref st, .ref lg, .ref q, .ref ma, .ref sa, .int sd])), (g, .inr (2, [.int (nI gw), .int (nI gh), .int (nI (gw * gh)), .int ec, .int (nI (2 * (gw * gh))), .long ce, .ref ga])), (ga, .inr (1, [.int (nI gw), .long ar, .long ab]))]) [0, 1, 2] rfl) (hD.sub (ws' := [(lr, .inr (6, [.ref g, .ref st, .ref lg, .ref q, .ref ma, .ref sa, .int sd])), (g, .inr (2, [.int (nI gw), .int (nI gh), .int (nI (gw * gh)), .int ec, .int (nI (2 * (gw * gh))), .long ce, .ref ga])), (ga, .inr (1, [.int (nI gw), .long ar, .long ab]))]) [0, 1, 2] (by decide) rfl) (va_recv hE.1 hP (ci := 6) (q0 := 0) rfl rfl) rfl hl.1 rfl (Nat.le_of_ble_eq_true rfl) dX5_end_2 ⟨Nat.zero_le _, Nat.zero_le _⟩ (fun cs_ H locs h_1 hP hD hS => ?_)
  subst h_1
  have hP : va_P E.1 vwCl [(lr, .inr (6, [.ref g, .ref st, .ref lg, .ref q, .ref ma, .ref sa, .int sd])), (g, .inr (2, [.int (nI gw), .int (nI gh), .int (nI (gw * gh)), .int ec, .int (nI (2 * (gw * gh))), .long ce, .ref ga])), (ga, .inr (1, [.int (nI gw), .long ar, .long ab]))] H := hP.sub [0, 1, 2] rfl
  have hD : va_D A [(lr, .inr (6, [.ref g, .ref st, .ref lg, .ref q, .ref ma, .ref sa, .int sd])), (g, .inr (2, [.int (nI gw), .int (nI gh), .int (nI (gw * gh)), .int ec, .int (nI (2 * (gw * gh))), .long ce, .ref ga])), (ga, .inr (1, [.int (nI gw), .long ar, .long ab]))] := hD.sub [0, 1, 2] (by decide) rfl
  refine lv_iload_n hx hb dX5_end_5 rfl (lv_at hl 2 rfl) ?_
  refine lv_if_eq (tgt := 20) hx hb dX5_end_6 (by decide) (fun c_6 => ?_) (fun c_6 => ?_)
  · skip
    refine lv_iload_n hx hb dX5_end_20 rfl (lv_at hl 1 rfl) ?_
    refine crSi (As := [.int a]) (rest := []) ⟨hx, hb, hml, hown, hts⟩ hE (cX1_lesserEnd_ct l E a) (va_cwS 1 hts gX5_end_X1_lesserEnd rfl rfl rfl (by decide +kernel) ⟨Nat.le_of_ble_eq_true rfl, Nat.le_of_ble_eq_true rfl⟩) (fun k q h => by simp at h) rfl hl.1 rfl (Nat.le_of_ble_eq_true rfl) dX5_end_21 ⟨Nat.zero_le _, Nat.zero_le _⟩ ?_
    exact W.iret (v := fLess a) hx hb hr (fun t9 ht9 hW => ⟨⟨by rw [b2i_eq0] at c_6; simp [c_6], [(lr, .inr (6, [.ref g, .ref st, .ref lg, .ref q, .ref ma, .ref sa, .int sd])), (g, .inr (2, [.int (nI gw), .int (nI gh), .int (nI (gw * gh)), .int ec, .int (nI (2 * (gw * gh))), .long ce, .ref ga])), (ga, .inr (1, [.int (nI gw), .long ar, .long ab]))], rfl, by rw [ht9]; exact hP, hD⟩, hS.F ht9⟩) hS.2.2 dX5_end_24
  · skip
    refine lv_aload_n hx hb dX5_end_9 rfl (lv_at hl 0 rfl) ?_
    refine va_get (D := E.1) (ci := 6) (v := .ref g) (C := RX5) (T := TX5) (N := 7) hx hb hts hi_RX5 hown hE.1 hP 0 rfl rfl 0 (by decide) hf_18 (fun _ h9 => h9) rfl dX5_end_10 ?_
    refine lv_iload_n hx hb dX5_end_13 rfl (lv_at hl 1 rfl) ?_
    refine crVi (As := [.int a]) (rest := []) ⟨hx, hb, hml, hown, hts⟩ hE (cX1_greaterEnd_ct l E g (nI gw) (nI gh) (nI (gw * gh)) ec (nI (2 * (gw * gh))) ce ga (nI gw) ar ab a) (cwV 1 hts gX5_end_X1_greaterEnd rfl rfl rfl (by decide +kernel) ⟨Nat.le_of_ble_eq_true rfl, Nat.le_of_ble_eq_true rfl⟩) (hP.sub (ws' := [(g, .inr (2, [.int (nI gw), .int (nI gh), .int (nI (gw * gh)), .int ec, .int (nI (2 * (gw * gh))), .long ce, .ref ga])), (ga, .inr (1, [.int (nI gw), .long ar, .long ab]))]) [1, 2] rfl) (va_recv hE.1 hP (ci := 2) (q0 := 1) rfl rfl) rfl hl.1 rfl (Nat.le_of_ble_eq_true rfl) dX5_end_14 ⟨Nat.zero_le _, Nat.zero_le _⟩ ?_
    refine lv_goto (tgt := 24) hx hb dX5_end_17 (by decide) ?_
    exact W.iret (v := fGreater (nI gw) a) hx hb hr (fun t9 ht9 hW => ⟨⟨by rw [b2i_eq0] at c_6; simp [c_6], [(lr, .inr (6, [.ref g, .ref st, .ref lg, .ref q, .ref ma, .ref sa, .int sd])), (g, .inr (2, [.int (nI gw), .int (nI gh), .int (nI (gw * gh)), .int ec, .int (nI (2 * (gw * gh))), .long ce, .ref ga])), (ga, .inr (1, [.int (nI gw), .long ar, .long ab]))], rfl, by rw [ht9]; exact hP, hD⟩, hS.F ht9⟩) hS.2.2 dX5_end_24
set_option maxHeartbeats 4000000 in
set_option maxRecDepth 100000 in
theorem cX5_edge_ct (l : Launch) (E : GE) (sz : Nat) (q : Nat) (g : Nat) (ga : Nat) (st : Nat) (on : Nat) (off : Nat) (lg : Nat) (gw : Nat) (gh : Nat) (ec : Int32) (ce : Int64) (ar : Int64) (ab : Int64) (onr : Int64) (onb : Int64) (ofr : Int64) (ofb : Int64) (mu : Int64) (ba : Int64) (bl : Int64) (wh : Int64) (to : Int32) (wr : Bool) (lr : Nat) (ma : Nat) (sa : Nat) (sd : Int32) (a : Int32) (z : Bool) (hv : fHasEdge (nI (2 * (gw * gh))) ar ab a = true) : wrM l yX5_edge wsX5_edge ({ frames := 5, cells := 0, slots := 0, locals := 105 }) E sz [.ref lr, .int a, .int (b2i z)] [(lr, .inr (6, [.ref g, .ref st, .ref lg, .ref q, .ref ma, .ref sa, .int sd])), (g, .inr (2, [.int (nI gw), .int (nI gh), .int (nI (gw * gh)), .int ec, .int (nI (2 * (gw * gh))), .long ce, .ref ga])), (ga, .inr (1, [.int (nI gw), .long ar, .long ab])), (st, .inr (4, [.ref on, .ref off, .long mu, .long ba, .long bl, .long wh, .int to, .int (b2i wr)])), (on, .inr (1, [.int (nI gw), .long onr, .long onb])), (off, .inr (1, [.int (nI gw), .long ofr, .long ofb]))] (some (.int (b2i (decide (fState onr onb ofr ofb a = 0))))) (fun cs' => cs' = [(lr, .inr (6, [.ref g, .ref st, .ref lg, .ref q, .ref ma, .ref sa, .int sd])), (g, .inr (2, [.int (nI gw), .int (nI gh), .int (nI (gw * gh)), .int ec, .int (nI (2 * (gw * gh))), .long ce, .ref ga])), (ga, .inr (1, [.int (nI gw), .long ar, .long ab])), (st, .inr (4, [.ref on, .ref off, .long mu, .long ba, .long bl, .long wh, .int to, .int (b2i (if fState onr onb ofr ofb a = 0 then false else wr))])), (on, .inr (1, [.int (nI gw), .long (if fState onr onb ofr ofb a = 0 then if z then fAddR onr a else onr else onr), .long (if fState onr onb ofr ofb a = 0 then if z then fAddB onb a else onb else onb)])), (off, .inr (1, [.int (nI gw), .long (if fState onr onb ofr ofb a = 0 then if z then ofr else fAddR ofr a else ofr), .long (if fState onr onb ofr ofb a = 0 then if z then ofb else fAddB ofb a else ofb)]))]) 0 0 := by
  refine Met.ofW (cc := cX5_edge) (maxL := 3) (ret := (some .boolean)) (by decide) rfl ?_
  intro p e s m args below meth c s₁ B hml hv
  obtain ⟨rfl, hsz, hE, hP, hD0⟩ := hv
  have hx := B.exec
  have hb := B.bytes
  have hr := B.returns
  have hts := atoms_spec (ws := wsX5_edge) B.pre
  have hown : s.vm.findClass RX5 = some m.cls := findClass_of_methodNamed B.named
  have hlocks := B.notSynchronized
  subst hsz
  have hD := hD0.self (sz := s.heap.size)
  generalize hAe : va_A [(lr, .inr (6, [.ref g, .ref st, .ref lg, .ref q, .ref ma, .ref sa, .int sd])), (g, .inr (2, [.int (nI gw), .int (nI gh), .int (nI (gw * gh)), .int ec, .int (nI (2 * (gw * gh))), .long ce, .ref ga])), (ga, .inr (1, [.int (nI gw), .long ar, .long ab])), (st, .inr (4, [.ref on, .ref off, .long mu, .long ba, .long bl, .long wh, .int to, .int (b2i wr)])), (on, .inr (1, [.int (nI gw), .long onr, .long onb])), (off, .inr (1, [.int (nI gw), .long ofr, .long ofb]))] s.heap.size = A at hD ⊢
  have hA : ∀ q : Nat, s.heap.size ≤ q → A q := fun q h => by rw [← hAe]; exact Or.inr h
  have hS : va_S A s.heap s.heap [] := va_S.rf
  have hP : va_P E.1 vwCl [(lr, .inr (6, [.ref g, .ref st, .ref lg, .ref q, .ref ma, .ref sa, .int sd])), (g, .inr (2, [.int (nI gw), .int (nI gh), .int (nI (gw * gh)), .int ec, .int (nI (2 * (gw * gh))), .long ce, .ref ga])), (ga, .inr (1, [.int (nI gw), .long ar, .long ab])), (st, .inr (4, [.ref on, .ref off, .long mu, .long ba, .long bl, .long wh, .int to, .int (b2i wr)])), (on, .inr (1, [.int (nI gw), .long onr, .long onb])), (off, .inr (1, [.int (nI gw), .long ofr, .long ofb]))] s.heap := hP
  have hl := lv_entry ([.ref lr, .int a, .int (b2i z)]) (n := 3) (Nat.le_of_ble_eq_true rfl)
  rw [lg_entry_eq]
  generalize (lg_sl ([.ref lr, .int a, .int (b2i z)]) ++ List.replicate (3 - (lg_sl ([.ref lr, .int a, .int (b2i z)])).length) Slot.unset).toArray = ls at hl ⊢
  have hl : lv_has ls 3 [(0, .ref lr), (1, .int a), (2, .int (b2i z))] := hl
  have hf_27 := hts (.fieldLink RX5 27 "LoopRegions" "now" "LLoopRegions$State;") (by decide +kernel)
  have hf_83 := hts (.fieldLink RX5 83 "LoopRegions$State" "wrong" "Z") (by decide +kernel)
  have hi_RX3 : ∀ w ∈ wsX30, w ∈ wsX5_edge := by decide +kernel
  have hi_RX5 : ∀ w ∈ wsX50, w ∈ wsX5_edge := by decide +kernel
  refine lv_aload_n hx hb dX5_edge_0 rfl (lv_at hl 0 rfl) ?_
  refine lv_iload_n hx hb dX5_edge_1 rfl (lv_at hl 1 rfl) ?_
  refine wrV (As := [.int a]) (rest := []) (wr := [(st, .inr (4, [.ref on, .ref off, .long mu, .long ba, .long bl, .long wh, .int to, .int (b2i wr)])), (on, .inr (1, [.int (nI gw), .long onr, .long onb])), (off, .inr (1, [.int (nI gw), .long ofr, .long ofb]))]) ⟨hx, hb, hml, hown, hts⟩ hE (cX5_checkEdge_ct l E s.heap.size q g ga st lg gw gh ec ce ar ab lr ma sa sd a (by first | assumption | omega | (subst_vars; assumption))) (cwV 1 hts gX5_edge_X5_checkEdge rfl rfl rfl (by decide +kernel) ⟨Nat.le_of_ble_eq_true rfl, Nat.le_of_ble_eq_true rfl⟩) hP hD hS hA [0, 1, 2] [3, 4, 5] rfl rfl (by decide) (by decide) (hP.sub (ws' := [(lr, .inr (6, [.ref g, .ref st, .ref lg, .ref q, .ref ma, .ref sa, .int sd])), (g, .inr (2, [.int (nI gw), .int (nI gh), .int (nI (gw * gh)), .int ec, .int (nI (2 * (gw * gh))), .long ce, .ref ga])), (ga, .inr (1, [.int (nI gw), .long ar, .long ab]))]) [0, 1, 2] rfl) (hD.sub (ws' := [(lr, .inr (6, [.ref g, .ref st, .ref lg, .ref q, .ref ma, .ref sa, .int sd])), (g, .inr (2, [.int (nI gw), .int (nI gh), .int (nI (gw * gh)), .int ec, .int (nI (2 * (gw * gh))), .long ce, .ref ga])), (ga, .inr (1, [.int (nI gw), .long ar, .long ab]))]) [0, 1, 2] (by decide) rfl) (va_recv hE.1 hP (ci := 6) (q0 := 0) rfl rfl) rfl hl.1 rfl (Nat.le_of_ble_eq_true rfl) dX5_edge_2 ⟨Nat.zero_le _, Nat.zero_le _⟩ (fun cs_ H locs h_1 hP hD hS => ?_)
  subst h_1
  have hP : va_P E.1 vwCl [(lr, .inr (6, [.ref g, .ref st, .ref lg, .ref q, .ref ma, .ref sa, .int sd])), (g, .inr (2, [.int (nI gw), .int (nI gh), .int (nI (gw * gh)), .int ec, .int (nI (2 * (gw * gh))), .long ce, .ref ga])), (ga, .inr (1, [.int (nI gw), .long ar, .long ab])), (st, .inr (4, [.ref on, .ref off, .long mu, .long ba, .long bl, .long wh, .int to, .int (b2i wr)])), (on, .inr (1, [.int (nI gw), .long onr, .long onb])), (off, .inr (1, [.int (nI gw), .long ofr, .long ofb]))] H := hP.sub [3, 4, 5, 0, 1, 2] rfl
  have hD : va_D A [(lr, .inr (6, [.ref g, .ref st, .ref lg, .ref q, .ref ma, .ref sa, .int sd])), (g, .inr (2, [.int (nI gw), .int (nI gh), .int (nI (gw * gh)), .int ec, .int (nI (2 * (gw * gh))), .long ce, .ref ga])), (ga, .inr (1, [.int (nI gw), .long ar, .long ab])), (st, .inr (4, [.ref on, .ref off, .long mu, .long ba, .long bl, .long wh, .int to, .int (b2i wr)])), (on, .inr (1, [.int (nI gw), .long onr, .long onb])), (off, .inr (1, [.int (nI gw), .long ofr, .long ofb]))] := hD.sub [3, 4, 5, 0, 1, 2] (by decide) rfl
  refine lv_aload_n hx hb dX5_edge_5 rfl (lv_at hl 0 rfl) ?_
  refine va_get (D := E.1) (ci := 6) (v := .ref st) (C := RX5) (T := TX5) (N := 7) hx hb hts hi_RX5 hown hE.1 hP 0 rfl rfl 1 (by decide) hf_27 (fun _ h9 => h9) rfl dX5_edge_6 ?_
  refine lv_iload_n hx hb dX5_edge_9 rfl (lv_at hl 1 rfl) ?_
  refine crVi (As := [.int a]) (rest := []) ⟨hx, hb, hml, hown, hts⟩ hE (cX3_stateOf_ct l E st on off mu ba bl wh to wr (nI gw) onr onb (nI gw) ofr ofb a) (cwV 1 hts gX5_edge_X3_stateOf rfl rfl rfl (by decide +kernel) ⟨Nat.le_of_ble_eq_true rfl, Nat.le_of_ble_eq_true rfl⟩) (hP.sub (ws' := [(st, .inr (4, [.ref on, .ref off, .long mu, .long ba, .long bl, .long wh, .int to, .int (b2i wr)])), (on, .inr (1, [.int (nI gw), .long onr, .long onb])), (off, .inr (1, [.int (nI gw), .long ofr, .long ofb]))]) [3, 4, 5] rfl) (va_recv hE.1 hP (ci := 4) (q0 := 3) rfl rfl) rfl hl.1 rfl (Nat.le_of_ble_eq_true rfl) dX5_edge_10 ⟨Nat.zero_le _, Nat.zero_le _⟩ ?_
  refine lv_if_eq (tgt := 18) hx hb dX5_edge_13 (by decide) (fun c_13 => ?_) (fun c_13 => ?_)
  · skip
    refine lv_aload_n hx hb dX5_edge_18 rfl (lv_at hl 0 rfl) ?_
    refine va_get (D := E.1) (ci := 6) (v := .ref st) (C := RX5) (T := TX5) (N := 7) hx hb hts hi_RX5 hown hE.1 hP 0 rfl rfl 1 (by decide) hf_27 (fun _ h9 => h9) rfl dX5_edge_19 ?_
    refine lv_iload_n hx hb dX5_edge_22 rfl (lv_at hl 1 rfl) ?_
    refine lv_iload_n hx hb dX5_edge_23 rfl (lv_at hl 2 rfl) ?_
    refine wrV (As := [.int a, .int (b2i z)]) (rest := []) (wr := [(lr, .inr (6, [.ref g, .ref st, .ref lg, .ref q, .ref ma, .ref sa, .int sd])), (g, .inr (2, [.int (nI gw), .int (nI gh), .int (nI (gw * gh)), .int ec, .int (nI (2 * (gw * gh))), .long ce, .ref ga])), (ga, .inr (1, [.int (nI gw), .long ar, .long ab]))]) ⟨hx, hb, hml, hown, hts⟩ hE (cX3_setEdge_ct l E H.size st on off mu ba bl wh to wr (nI gw) onr onb (nI gw) ofr ofb a z) (cwV 2 hts gX5_edge_X3_setEdge rfl rfl rfl (by decide +kernel) ⟨Nat.le_of_ble_eq_true rfl, Nat.le_of_ble_eq_true rfl⟩) hP hD hS hA [3, 4, 5] [0, 1, 2] rfl rfl (by decide) (by decide) (hP.sub (ws' := [(st, .inr (4, [.ref on, .ref off, .long mu, .long ba, .long bl, .long wh, .int to, .int (b2i wr)])), (on, .inr (1, [.int (nI gw), .long onr, .long onb])), (off, .inr (1, [.int (nI gw), .long ofr, .long ofb]))]) [3, 4, 5] rfl) (hD.sub (ws' := [(st, .inr (4, [.ref on, .ref off, .long mu, .long ba, .long bl, .long wh, .int to, .int (b2i wr)])), (on, .inr (1, [.int (nI gw), .long onr, .long onb])), (off, .inr (1, [.int (nI gw), .long ofr, .long ofb]))]) [3, 4, 5] (by decide) rfl) (va_recv hE.1 hP (ci := 4) (q0 := 3) rfl rfl) rfl hl.1 rfl (Nat.le_of_ble_eq_true rfl) dX5_edge_24 ⟨Nat.zero_le _, Nat.zero_le _⟩ (fun cs_ H locs h_2 hP hD hS => ?_)
    subst h_2
    have hP : va_P E.1 vwCl [(lr, .inr (6, [.ref g, .ref st, .ref lg, .ref q, .ref ma, .ref sa, .int sd])), (g, .inr (2, [.int (nI gw), .int (nI gh), .int (nI (gw * gh)), .int ec, .int (nI (2 * (gw * gh))), .long ce, .ref ga])), (ga, .inr (1, [.int (nI gw), .long ar, .long ab])), (st, .inr (4, [.ref on, .ref off, .long mu, .long ba, .long bl, .long wh, .int to, .int (b2i wr)])), (on, .inr (1, [.int (nI gw), .long (if z then fAddR onr a else onr), .long (if z then fAddB onb a else onb)])), (off, .inr (1, [.int (nI gw), .long (if z then ofr else fAddR ofr a), .long (if z then ofb else fAddB ofb a)]))] H := hP.sub [0, 1, 2, 3, 4, 5] rfl
    have hD : va_D A [(lr, .inr (6, [.ref g, .ref st, .ref lg, .ref q, .ref ma, .ref sa, .int sd])), (g, .inr (2, [.int (nI gw), .int (nI gh), .int (nI (gw * gh)), .int ec, .int (nI (2 * (gw * gh))), .long ce, .ref ga])), (ga, .inr (1, [.int (nI gw), .long ar, .long ab])), (st, .inr (4, [.ref on, .ref off, .long mu, .long ba, .long bl, .long wh, .int to, .int (b2i wr)])), (on, .inr (1, [.int (nI gw), .long (if z then fAddR onr a else onr), .long (if z then fAddB onb a else onb)])), (off, .inr (1, [.int (nI gw), .long (if z then ofr else fAddR ofr a), .long (if z then ofb else fAddB ofb a)]))] := hD.sub [0, 1, 2, 3, 4, 5] (by decide) rfl
    refine lv_aload_n hx hb dX5_edge_27 rfl (lv_at hl 0 rfl) ?_
    refine va_get (D := E.1) (ci := 6) (v := .ref st) (C := RX5) (T := TX5) (N := 7) hx hb hts hi_RX5 hown hE.1 hP 0 rfl rfl 1 (by decide) hf_27 (fun _ h9 => h9) rfl dX5_edge_28 ?_
    refine lv_iconst (v := 0) hx hb dX5_edge_31 (by decide) ?_
    refine va_put (D := E.1) (ci := 4) (v := .int 0) (ty := .boolean) (C := RX3) (T := TX3) (N := 8) hx hb hts hi_RX3 tyX3 tyX3_ok nmX3 hown hE.1 hP hD hS 3 rfl rfl 7 (by decide) hf_83 (fun _ h9 => h9) rfl (by decide +kernel) (rfl) (rfl) (Nat.le_of_ble_eq_true rfl) dX5_edge_32 (fun H locs hP hD hS => ?_)
    have hP : va_P E.1 vwCl [(lr, .inr (6, [.ref g, .ref st, .ref lg, .ref q, .ref ma, .ref sa, .int sd])), (g, .inr (2, [.int (nI gw), .int (nI gh), .int (nI (gw * gh)), .int ec, .int (nI (2 * (gw * gh))), .long ce, .ref ga])), (ga, .inr (1, [.int (nI gw), .long ar, .long ab])), (st, .inr (4, [.ref on, .ref off, .long mu, .long ba, .long bl, .long wh, .int to, .int (b2i false)])), (on, .inr (1, [.int (nI gw), .long (if z then fAddR onr a else onr), .long (if z then fAddB onb a else onb)])), (off, .inr (1, [.int (nI gw), .long (if z then ofr else fAddR ofr a), .long (if z then ofb else fAddB ofb a)]))] H := hP
    have hD : va_D A [(lr, .inr (6, [.ref g, .ref st, .ref lg, .ref q, .ref ma, .ref sa, .int sd])), (g, .inr (2, [.int (nI gw), .int (nI gh), .int (nI (gw * gh)), .int ec, .int (nI (2 * (gw * gh))), .long ce, .ref ga])), (ga, .inr (1, [.int (nI gw), .long ar, .long ab])), (st, .inr (4, [.ref on, .ref off, .long mu, .long ba, .long bl, .long wh, .int to, .int (b2i false)])), (on, .inr (1, [.int (nI gw), .long (if z then fAddR onr a else onr), .long (if z then fAddB onb a else onb)])), (off, .inr (1, [.int (nI gw), .long (if z then ofr else fAddR ofr a), .long (if z then ofb else fAddB ofb a)]))] := hD
    refine lv_iconst (v := 1) hx hb dX5_edge_35 (by decide) ?_
    exact W.zret (v := 1) hx hb hr (rfl) (fun t9 ht9 hW => ⟨⟨by simp only [b2i, c_13]; rfl, [(lr, .inr (6, [.ref g, .ref st, .ref lg, .ref q, .ref ma, .ref sa, .int sd])), (g, .inr (2, [.int (nI gw), .int (nI gh), .int (nI (gw * gh)), .int ec, .int (nI (2 * (gw * gh))), .long ce, .ref ga])), (ga, .inr (1, [.int (nI gw), .long ar, .long ab])), (st, .inr (4, [.ref on, .ref off, .long mu, .long ba, .long bl, .long wh, .int to, .int (b2i false)])), (on, .inr (1, [.int (nI gw), .long (if z then fAddR onr a else onr), .long (if z then fAddB onb a else onb)])), (off, .inr (1, [.int (nI gw), .long (if z then ofr else fAddR ofr a), .long (if z then ofb else fAddB ofb a)]))], by simp only [c_13, if_true, if_false], by rw [ht9]; exact hP, hD⟩, hS.F ht9⟩) hS.2.2 dX5_edge_36
  · skip
    refine lv_iconst (v := 0) hx hb dX5_edge_16 (by decide) ?_
    exact W.zret (v := 0) hx hb hr (rfl) (fun t9 ht9 hW => ⟨⟨by simp only [b2i, c_13]; rfl, [(lr, .inr (6, [.ref g, .ref st, .ref lg, .ref q, .ref ma, .ref sa, .int sd])), (g, .inr (2, [.int (nI gw), .int (nI gh), .int (nI (gw * gh)), .int ec, .int (nI (2 * (gw * gh))), .long ce, .ref ga])), (ga, .inr (1, [.int (nI gw), .long ar, .long ab])), (st, .inr (4, [.ref on, .ref off, .long mu, .long ba, .long bl, .long wh, .int to, .int (b2i wr)])), (on, .inr (1, [.int (nI gw), .long onr, .long onb])), (off, .inr (1, [.int (nI gw), .long ofr, .long ofb]))], by simp only [c_13, if_true, if_false], by rw [ht9]; exact hP, hD⟩, hS.F ht9⟩) hS.2.2 dX5_edge_17
set_option maxHeartbeats 4000000 in
set_option maxRecDepth 100000 in
theorem cX5_shade_ct (l : Launch) (E : GE) (sz : Nat) (q : Nat) (g : Nat) (ga : Nat) (st : Nat) (on : Nat) (off : Nat) (lg : Nat) (gw : Nat) (gh : Nat) (ec : Int32) (ce : Int64) (ar : Int64) (ab : Int64) (onr : Int64) (onb : Int64) (ofr : Int64) (ofb : Int64) (mu : Int64) (ba : Int64) (bl : Int64) (wh : Int64) (to : Int32) (wr : Bool) (lr : Nat) (ma : Nat) (sa : Nat) (sd : Int32) (a : Int32) (z : Bool) (hv : fHasCell (nI (gw * gh)) a = true) : wrM l yX5_shade wsX5_shade ({ frames := 3, cells := 0, slots := 0, locals := 63 }) E sz [.ref lr, .int a, .int (b2i z)] [(lr, .inr (6, [.ref g, .ref st, .ref lg, .ref q, .ref ma, .ref sa, .int sd])), (g, .inr (2, [.int (nI gw), .int (nI gh), .int (nI (gw * gh)), .int ec, .int (nI (2 * (gw * gh))), .long ce, .ref ga])), (ga, .inr (1, [.int (nI gw), .long ar, .long ab])), (st, .inr (4, [.ref on, .ref off, .long mu, .long ba, .long bl, .long wh, .int to, .int (b2i wr)])), (on, .inr (1, [.int (nI gw), .long onr, .long onb])), (off, .inr (1, [.int (nI gw), .long ofr, .long ofb]))] (some (.int (b2i (decide (fTri bl wh a = 0))))) (fun cs' => cs' = [(lr, .inr (6, [.ref g, .ref st, .ref lg, .ref q, .ref ma, .ref sa, .int sd])), (g, .inr (2, [.int (nI gw), .int (nI gh), .int (nI (gw * gh)), .int ec, .int (nI (2 * (gw * gh))), .long ce, .ref ga])), (ga, .inr (1, [.int (nI gw), .long ar, .long ab])), (st, .inr (4, [.ref on, .ref off, .long mu, .long ba, .long (if fTri bl wh a = 0 then if z then bl ||| fOnly a else bl else bl), .long (if fTri bl wh a = 0 then if z then wh else wh ||| fOnly a else wh), .int to, .int (b2i (if fTri bl wh a = 0 then false else wr))])), (on, .inr (1, [.int (nI gw), .long onr, .long onb])), (off, .inr (1, [.int (nI gw), .long ofr, .long ofb]))]) 0 0 := by
  refine Met.ofW (cc := cX5_shade) (maxL := 3) (ret := (some .boolean)) (by decide) rfl ?_
  intro p e s m args below meth c s₁ B hml hv
  obtain ⟨rfl, hsz, hE, hP, hD0⟩ := hv
  have hx := B.exec
  have hb := B.bytes
  have hr := B.returns
  have hts := atoms_spec (ws := wsX5_shade) B.pre
  have hown : s.vm.findClass RX5 = some m.cls := findClass_of_methodNamed B.named
  have hlocks := B.notSynchronized
  subst hsz
  have hD := hD0.self (sz := s.heap.size)
  generalize hAe : va_A [(lr, .inr (6, [.ref g, .ref st, .ref lg, .ref q, .ref ma, .ref sa, .int sd])), (g, .inr (2, [.int (nI gw), .int (nI gh), .int (nI (gw * gh)), .int ec, .int (nI (2 * (gw * gh))), .long ce, .ref ga])), (ga, .inr (1, [.int (nI gw), .long ar, .long ab])), (st, .inr (4, [.ref on, .ref off, .long mu, .long ba, .long bl, .long wh, .int to, .int (b2i wr)])), (on, .inr (1, [.int (nI gw), .long onr, .long onb])), (off, .inr (1, [.int (nI gw), .long ofr, .long ofb]))] s.heap.size = A at hD ⊢
  have hA : ∀ q : Nat, s.heap.size ≤ q → A q := fun q h => by rw [← hAe]; exact Or.inr h
  have hS : va_S A s.heap s.heap [] := va_S.rf
  have hP : va_P E.1 vwCl [(lr, .inr (6, [.ref g, .ref st, .ref lg, .ref q, .ref ma, .ref sa, .int sd])), (g, .inr (2, [.int (nI gw), .int (nI gh), .int (nI (gw * gh)), .int ec, .int (nI (2 * (gw * gh))), .long ce, .ref ga])), (ga, .inr (1, [.int (nI gw), .long ar, .long ab])), (st, .inr (4, [.ref on, .ref off, .long mu, .long ba, .long bl, .long wh, .int to, .int (b2i wr)])), (on, .inr (1, [.int (nI gw), .long onr, .long onb])), (off, .inr (1, [.int (nI gw), .long ofr, .long ofb]))] s.heap := hP
  have hl := lv_entry ([.ref lr, .int a, .int (b2i z)]) (n := 3) (Nat.le_of_ble_eq_true rfl)
  rw [lg_entry_eq]
  generalize (lg_sl ([.ref lr, .int a, .int (b2i z)]) ++ List.replicate (3 - (lg_sl ([.ref lr, .int a, .int (b2i z)])).length) Slot.unset).toArray = ls at hl ⊢
  have hl : lv_has ls 3 [(0, .ref lr), (1, .int a), (2, .int (b2i z))] := hl
  have hf_27 := hts (.fieldLink RX5 27 "LoopRegions" "now" "LLoopRegions$State;") (by decide +kernel)
  have hf_83 := hts (.fieldLink RX5 83 "LoopRegions$State" "wrong" "Z") (by decide +kernel)
  have hi_RX3 : ∀ w ∈ wsX30, w ∈ wsX5_shade := by decide +kernel
  have hi_RX5 : ∀ w ∈ wsX50, w ∈ wsX5_shade := by decide +kernel
  refine lv_aload_n hx hb dX5_shade_0 rfl (lv_at hl 0 rfl) ?_
  refine lv_iload_n hx hb dX5_shade_1 rfl (lv_at hl 1 rfl) ?_
  refine wrV (As := [.int a]) (rest := []) (wr := [(st, .inr (4, [.ref on, .ref off, .long mu, .long ba, .long bl, .long wh, .int to, .int (b2i wr)])), (on, .inr (1, [.int (nI gw), .long onr, .long onb])), (off, .inr (1, [.int (nI gw), .long ofr, .long ofb]))]) ⟨hx, hb, hml, hown, hts⟩ hE (cX5_checkCell_ct l E s.heap.size q g ga st lg gw gh ec ce ar ab lr ma sa sd a (by first | assumption | omega | (subst_vars; assumption))) (cwV 1 hts gX5_shade_X5_checkCell rfl rfl rfl (by decide +kernel) ⟨Nat.le_of_ble_eq_true rfl, Nat.le_of_ble_eq_true rfl⟩) hP hD hS hA [0, 1, 2] [3, 4, 5] rfl rfl (by decide) (by decide) (hP.sub (ws' := [(lr, .inr (6, [.ref g, .ref st, .ref lg, .ref q, .ref ma, .ref sa, .int sd])), (g, .inr (2, [.int (nI gw), .int (nI gh), .int (nI (gw * gh)), .int ec, .int (nI (2 * (gw * gh))), .long ce, .ref ga])), (ga, .inr (1, [.int (nI gw), .long ar, .long ab]))]) [0, 1, 2] rfl) (hD.sub (ws' := [(lr, .inr (6, [.ref g, .ref st, .ref lg, .ref q, .ref ma, .ref sa, .int sd])), (g, .inr (2, [.int (nI gw), .int (nI gh), .int (nI (gw * gh)), .int ec, .int (nI (2 * (gw * gh))), .long ce, .ref ga])), (ga, .inr (1, [.int (nI gw), .long ar, .long ab]))]) [0, 1, 2] (by decide) rfl) (va_recv hE.1 hP (ci := 6) (q0 := 0) rfl rfl) rfl hl.1 rfl (Nat.le_of_ble_eq_true rfl) dX5_shade_2 ⟨Nat.zero_le _, Nat.zero_le _⟩ (fun cs_ H locs h_1 hP hD hS => ?_)
  subst h_1
  have hP : va_P E.1 vwCl [(lr, .inr (6, [.ref g, .ref st, .ref lg, .ref q, .ref ma, .ref sa, .int sd])), (g, .inr (2, [.int (nI gw), .int (nI gh), .int (nI (gw * gh)), .int ec, .int (nI (2 * (gw * gh))), .long ce, .ref ga])), (ga, .inr (1, [.int (nI gw), .long ar, .long ab])), (st, .inr (4, [.ref on, .ref off, .long mu, .long ba, .long bl, .long wh, .int to, .int (b2i wr)])), (on, .inr (1, [.int (nI gw), .long onr, .long onb])), (off, .inr (1, [.int (nI gw), .long ofr, .long ofb]))] H := hP.sub [3, 4, 5, 0, 1, 2] rfl
  have hD : va_D A [(lr, .inr (6, [.ref g, .ref st, .ref lg, .ref q, .ref ma, .ref sa, .int sd])), (g, .inr (2, [.int (nI gw), .int (nI gh), .int (nI (gw * gh)), .int ec, .int (nI (2 * (gw * gh))), .long ce, .ref ga])), (ga, .inr (1, [.int (nI gw), .long ar, .long ab])), (st, .inr (4, [.ref on, .ref off, .long mu, .long ba, .long bl, .long wh, .int to, .int (b2i wr)])), (on, .inr (1, [.int (nI gw), .long onr, .long onb])), (off, .inr (1, [.int (nI gw), .long ofr, .long ofb]))] := hD.sub [3, 4, 5, 0, 1, 2] (by decide) rfl
  refine lv_aload_n hx hb dX5_shade_5 rfl (lv_at hl 0 rfl) ?_
  refine va_get (D := E.1) (ci := 6) (v := .ref st) (C := RX5) (T := TX5) (N := 7) hx hb hts hi_RX5 hown hE.1 hP 0 rfl rfl 1 (by decide) hf_27 (fun _ h9 => h9) rfl dX5_shade_6 ?_
  refine lv_iload_n hx hb dX5_shade_9 rfl (lv_at hl 1 rfl) ?_
  refine crVi (As := [.int a]) (rest := []) ⟨hx, hb, hml, hown, hts⟩ hE (cX3_shadeOf_ct l E st on off mu ba bl wh to wr (nI gw) onr onb (nI gw) ofr ofb a) (cwV 1 hts gX5_shade_X3_shadeOf rfl rfl rfl (by decide +kernel) ⟨Nat.le_of_ble_eq_true rfl, Nat.le_of_ble_eq_true rfl⟩) (hP.sub (ws' := [(st, .inr (4, [.ref on, .ref off, .long mu, .long ba, .long bl, .long wh, .int to, .int (b2i wr)])), (on, .inr (1, [.int (nI gw), .long onr, .long onb])), (off, .inr (1, [.int (nI gw), .long ofr, .long ofb]))]) [3, 4, 5] rfl) (va_recv hE.1 hP (ci := 4) (q0 := 3) rfl rfl) rfl hl.1 rfl (Nat.le_of_ble_eq_true rfl) dX5_shade_10 ⟨Nat.zero_le _, Nat.zero_le _⟩ ?_
  refine lv_if_eq (tgt := 18) hx hb dX5_shade_13 (by decide) (fun c_13 => ?_) (fun c_13 => ?_)
  · skip
    refine lv_aload_n hx hb dX5_shade_18 rfl (lv_at hl 0 rfl) ?_
    refine va_get (D := E.1) (ci := 6) (v := .ref st) (C := RX5) (T := TX5) (N := 7) hx hb hts hi_RX5 hown hE.1 hP 0 rfl rfl 1 (by decide) hf_27 (fun _ h9 => h9) rfl dX5_shade_19 ?_
    refine lv_iload_n hx hb dX5_shade_22 rfl (lv_at hl 1 rfl) ?_
    refine lv_iload_n hx hb dX5_shade_23 rfl (lv_at hl 2 rfl) ?_
    refine wrV (As := [.int a, .int (b2i z)]) (rest := []) (wr := [(lr, .inr (6, [.ref g, .ref st, .ref lg, .ref q, .ref ma, .ref sa, .int sd])), (g, .inr (2, [.int (nI gw), .int (nI gh), .int (nI (gw * gh)), .int ec, .int (nI (2 * (gw * gh))), .long ce, .ref ga])), (ga, .inr (1, [.int (nI gw), .long ar, .long ab]))]) ⟨hx, hb, hml, hown, hts⟩ hE (cX3_setShade_ct l E H.size st on off mu ba bl wh to wr (nI gw) onr onb (nI gw) ofr ofb a z) (cwV 2 hts gX5_shade_X3_setShade rfl rfl rfl (by decide +kernel) ⟨Nat.le_of_ble_eq_true rfl, Nat.le_of_ble_eq_true rfl⟩) hP hD hS hA [3, 4, 5] [0, 1, 2] rfl rfl (by decide) (by decide) (hP.sub (ws' := [(st, .inr (4, [.ref on, .ref off, .long mu, .long ba, .long bl, .long wh, .int to, .int (b2i wr)])), (on, .inr (1, [.int (nI gw), .long onr, .long onb])), (off, .inr (1, [.int (nI gw), .long ofr, .long ofb]))]) [3, 4, 5] rfl) (hD.sub (ws' := [(st, .inr (4, [.ref on, .ref off, .long mu, .long ba, .long bl, .long wh, .int to, .int (b2i wr)])), (on, .inr (1, [.int (nI gw), .long onr, .long onb])), (off, .inr (1, [.int (nI gw), .long ofr, .long ofb]))]) [3, 4, 5] (by decide) rfl) (va_recv hE.1 hP (ci := 4) (q0 := 3) rfl rfl) rfl hl.1 rfl (Nat.le_of_ble_eq_true rfl) dX5_shade_24 ⟨Nat.zero_le _, Nat.zero_le _⟩ (fun cs_ H locs h_2 hP hD hS => ?_)
    subst h_2
    have hP : va_P E.1 vwCl [(lr, .inr (6, [.ref g, .ref st, .ref lg, .ref q, .ref ma, .ref sa, .int sd])), (g, .inr (2, [.int (nI gw), .int (nI gh), .int (nI (gw * gh)), .int ec, .int (nI (2 * (gw * gh))), .long ce, .ref ga])), (ga, .inr (1, [.int (nI gw), .long ar, .long ab])), (st, .inr (4, [.ref on, .ref off, .long mu, .long ba, .long (if z then bl ||| fOnly a else bl), .long (if z then wh else wh ||| fOnly a), .int to, .int (b2i wr)])), (on, .inr (1, [.int (nI gw), .long onr, .long onb])), (off, .inr (1, [.int (nI gw), .long ofr, .long ofb]))] H := hP.sub [0, 1, 2, 3, 4, 5] rfl
    have hD : va_D A [(lr, .inr (6, [.ref g, .ref st, .ref lg, .ref q, .ref ma, .ref sa, .int sd])), (g, .inr (2, [.int (nI gw), .int (nI gh), .int (nI (gw * gh)), .int ec, .int (nI (2 * (gw * gh))), .long ce, .ref ga])), (ga, .inr (1, [.int (nI gw), .long ar, .long ab])), (st, .inr (4, [.ref on, .ref off, .long mu, .long ba, .long (if z then bl ||| fOnly a else bl), .long (if z then wh else wh ||| fOnly a), .int to, .int (b2i wr)])), (on, .inr (1, [.int (nI gw), .long onr, .long onb])), (off, .inr (1, [.int (nI gw), .long ofr, .long ofb]))] := hD.sub [0, 1, 2, 3, 4, 5] (by decide) rfl
    refine lv_aload_n hx hb dX5_shade_27 rfl (lv_at hl 0 rfl) ?_
    refine va_get (D := E.1) (ci := 6) (v := .ref st) (C := RX5) (T := TX5) (N := 7) hx hb hts hi_RX5 hown hE.1 hP 0 rfl rfl 1 (by decide) hf_27 (fun _ h9 => h9) rfl dX5_shade_28 ?_
    refine lv_iconst (v := 0) hx hb dX5_shade_31 (by decide) ?_
    refine va_put (D := E.1) (ci := 4) (v := .int 0) (ty := .boolean) (C := RX3) (T := TX3) (N := 8) hx hb hts hi_RX3 tyX3 tyX3_ok nmX3 hown hE.1 hP hD hS 3 rfl rfl 7 (by decide) hf_83 (fun _ h9 => h9) rfl (by decide +kernel) (rfl) (rfl) (Nat.le_of_ble_eq_true rfl) dX5_shade_32 (fun H locs hP hD hS => ?_)
    have hP : va_P E.1 vwCl [(lr, .inr (6, [.ref g, .ref st, .ref lg, .ref q, .ref ma, .ref sa, .int sd])), (g, .inr (2, [.int (nI gw), .int (nI gh), .int (nI (gw * gh)), .int ec, .int (nI (2 * (gw * gh))), .long ce, .ref ga])), (ga, .inr (1, [.int (nI gw), .long ar, .long ab])), (st, .inr (4, [.ref on, .ref off, .long mu, .long ba, .long (if z then bl ||| fOnly a else bl), .long (if z then wh else wh ||| fOnly a), .int to, .int (b2i false)])), (on, .inr (1, [.int (nI gw), .long onr, .long onb])), (off, .inr (1, [.int (nI gw), .long ofr, .long ofb]))] H := hP
    have hD : va_D A [(lr, .inr (6, [.ref g, .ref st, .ref lg, .ref q, .ref ma, .ref sa, .int sd])), (g, .inr (2, [.int (nI gw), .int (nI gh), .int (nI (gw * gh)), .int ec, .int (nI (2 * (gw * gh))), .long ce, .ref ga])), (ga, .inr (1, [.int (nI gw), .long ar, .long ab])), (st, .inr (4, [.ref on, .ref off, .long mu, .long ba, .long (if z then bl ||| fOnly a else bl), .long (if z then wh else wh ||| fOnly a), .int to, .int (b2i false)])), (on, .inr (1, [.int (nI gw), .long onr, .long onb])), (off, .inr (1, [.int (nI gw), .long ofr, .long ofb]))] := hD
    refine lv_iconst (v := 1) hx hb dX5_shade_35 (by decide) ?_
    exact W.zret (v := 1) hx hb hr (rfl) (fun t9 ht9 hW => ⟨⟨by simp only [b2i, c_13]; rfl, [(lr, .inr (6, [.ref g, .ref st, .ref lg, .ref q, .ref ma, .ref sa, .int sd])), (g, .inr (2, [.int (nI gw), .int (nI gh), .int (nI (gw * gh)), .int ec, .int (nI (2 * (gw * gh))), .long ce, .ref ga])), (ga, .inr (1, [.int (nI gw), .long ar, .long ab])), (st, .inr (4, [.ref on, .ref off, .long mu, .long ba, .long (if z then bl ||| fOnly a else bl), .long (if z then wh else wh ||| fOnly a), .int to, .int (b2i false)])), (on, .inr (1, [.int (nI gw), .long onr, .long onb])), (off, .inr (1, [.int (nI gw), .long ofr, .long ofb]))], by simp only [c_13, if_true, if_false], by rw [ht9]; exact hP, hD⟩, hS.F ht9⟩) hS.2.2 dX5_shade_36
  · skip
    refine lv_iconst (v := 0) hx hb dX5_shade_16 (by decide) ?_
    exact W.zret (v := 0) hx hb hr (rfl) (fun t9 ht9 hW => ⟨⟨by simp only [b2i, c_13]; rfl, [(lr, .inr (6, [.ref g, .ref st, .ref lg, .ref q, .ref ma, .ref sa, .int sd])), (g, .inr (2, [.int (nI gw), .int (nI gh), .int (nI (gw * gh)), .int ec, .int (nI (2 * (gw * gh))), .long ce, .ref ga])), (ga, .inr (1, [.int (nI gw), .long ar, .long ab])), (st, .inr (4, [.ref on, .ref off, .long mu, .long ba, .long bl, .long wh, .int to, .int (b2i wr)])), (on, .inr (1, [.int (nI gw), .long onr, .long onb])), (off, .inr (1, [.int (nI gw), .long ofr, .long ofb]))], by simp only [c_13, if_true, if_false], by rw [ht9]; exact hP, hD⟩, hS.F ht9⟩) hS.2.2 dX5_shade_17
set_option maxHeartbeats 4000000 in
set_option maxRecDepth 100000 in
theorem cX5_duty_ct (l : Launch) (E : GE) (sz : Nat) (q : Nat) (g : Nat) (ga : Nat) (st : Nat) (on : Nat) (off : Nat) (lg : Nat) (gw : Nat) (gh : Nat) (ec : Int32) (ce : Int64) (ar : Int64) (ab : Int64) (onr : Int64) (onb : Int64) (ofr : Int64) (ofb : Int64) (mu : Int64) (ba : Int64) (bl : Int64) (wh : Int64) (to : Int32) (wr : Bool) (lr : Nat) (ma : Nat) (sa : Nat) (sd : Int32) (a d : Int32) (hv : fHasCell (nI (gw * gh)) a = true) (hd0 : ¬ d < 0) (hd2 : d ≤ 2) : wrM l yX5_duty wsX5_duty ({ frames := 3, cells := 0, slots := 0, locals := 63 }) E sz [.ref lr, .int a, .int d] [(lr, .inr (6, [.ref g, .ref st, .ref lg, .ref q, .ref ma, .ref sa, .int sd])), (g, .inr (2, [.int (nI gw), .int (nI gh), .int (nI (gw * gh)), .int ec, .int (nI (2 * (gw * gh))), .long ce, .ref ga])), (ga, .inr (1, [.int (nI gw), .long ar, .long ab])), (st, .inr (4, [.ref on, .ref off, .long mu, .long ba, .long bl, .long wh, .int to, .int (b2i wr)])), (on, .inr (1, [.int (nI gw), .long onr, .long onb])), (off, .inr (1, [.int (nI gw), .long ofr, .long ofb]))] (some (.int (b2i (decide (¬ fTri mu ba a = d))))) (fun cs' => cs' = [(lr, .inr (6, [.ref g, .ref st, .ref lg, .ref q, .ref ma, .ref sa, .int sd])), (g, .inr (2, [.int (nI gw), .int (nI gh), .int (nI (gw * gh)), .int ec, .int (nI (2 * (gw * gh))), .long ce, .ref ga])), (ga, .inr (1, [.int (nI gw), .long ar, .long ab])), (st, .inr (4, [.ref on, .ref off, .long (if fTri mu ba a = d then mu else fMu mu a d), .long (if fTri mu ba a = d then ba else fBa ba a d), .long bl, .long wh, .int to, .int (b2i (if fTri mu ba a = d then wr else false))])), (on, .inr (1, [.int (nI gw), .long onr, .long onb])), (off, .inr (1, [.int (nI gw), .long ofr, .long ofb]))]) 0 0 := by
  refine Met.ofW (cc := cX5_duty) (maxL := 3) (ret := (some .boolean)) (by decide) rfl ?_
  intro p e s m args below meth c s₁ B hml hv
  obtain ⟨rfl, hsz, hE, hP, hD0⟩ := hv
  have hx := B.exec
  have hb := B.bytes
  have hr := B.returns
  have hts := atoms_spec (ws := wsX5_duty) B.pre
  have hown : s.vm.findClass RX5 = some m.cls := findClass_of_methodNamed B.named
  have hlocks := B.notSynchronized
  subst hsz
  have hD := hD0.self (sz := s.heap.size)
  generalize hAe : va_A [(lr, .inr (6, [.ref g, .ref st, .ref lg, .ref q, .ref ma, .ref sa, .int sd])), (g, .inr (2, [.int (nI gw), .int (nI gh), .int (nI (gw * gh)), .int ec, .int (nI (2 * (gw * gh))), .long ce, .ref ga])), (ga, .inr (1, [.int (nI gw), .long ar, .long ab])), (st, .inr (4, [.ref on, .ref off, .long mu, .long ba, .long bl, .long wh, .int to, .int (b2i wr)])), (on, .inr (1, [.int (nI gw), .long onr, .long onb])), (off, .inr (1, [.int (nI gw), .long ofr, .long ofb]))] s.heap.size = A at hD ⊢
  have hA : ∀ q : Nat, s.heap.size ≤ q → A q := fun q h => by rw [← hAe]; exact Or.inr h
  have hS : va_S A s.heap s.heap [] := va_S.rf
  have hP : va_P E.1 vwCl [(lr, .inr (6, [.ref g, .ref st, .ref lg, .ref q, .ref ma, .ref sa, .int sd])), (g, .inr (2, [.int (nI gw), .int (nI gh), .int (nI (gw * gh)), .int ec, .int (nI (2 * (gw * gh))), .long ce, .ref ga])), (ga, .inr (1, [.int (nI gw), .long ar, .long ab])), (st, .inr (4, [.ref on, .ref off, .long mu, .long ba, .long bl, .long wh, .int to, .int (b2i wr)])), (on, .inr (1, [.int (nI gw), .long onr, .long onb])), (off, .inr (1, [.int (nI gw), .long ofr, .long ofb]))] s.heap := hP
  have hl := lv_entry ([.ref lr, .int a, .int d]) (n := 3) (Nat.le_of_ble_eq_true rfl)
  rw [lg_entry_eq]
  generalize (lg_sl ([.ref lr, .int a, .int d]) ++ List.replicate (3 - (lg_sl ([.ref lr, .int a, .int d])).length) Slot.unset).toArray = ls at hl ⊢
  have hl : lv_has ls 3 [(0, .ref lr), (1, .int a), (2, .int d)] := hl
  have hf_27 := hts (.fieldLink RX5 27 "LoopRegions" "now" "LLoopRegions$State;") (by decide +kernel)
  have hf_83 := hts (.fieldLink RX5 83 "LoopRegions$State" "wrong" "Z") (by decide +kernel)
  have hi_RX3 : ∀ w ∈ wsX30, w ∈ wsX5_duty := by decide +kernel
  have hi_RX5 : ∀ w ∈ wsX50, w ∈ wsX5_duty := by decide +kernel
  refine lv_aload_n hx hb dX5_duty_0 rfl (lv_at hl 0 rfl) ?_
  refine lv_iload_n hx hb dX5_duty_1 rfl (lv_at hl 1 rfl) ?_
  refine wrV (As := [.int a]) (rest := []) (wr := [(st, .inr (4, [.ref on, .ref off, .long mu, .long ba, .long bl, .long wh, .int to, .int (b2i wr)])), (on, .inr (1, [.int (nI gw), .long onr, .long onb])), (off, .inr (1, [.int (nI gw), .long ofr, .long ofb]))]) ⟨hx, hb, hml, hown, hts⟩ hE (cX5_checkCell_ct l E s.heap.size q g ga st lg gw gh ec ce ar ab lr ma sa sd a (by first | assumption | omega | (subst_vars; assumption))) (cwV 1 hts gX5_duty_X5_checkCell rfl rfl rfl (by decide +kernel) ⟨Nat.le_of_ble_eq_true rfl, Nat.le_of_ble_eq_true rfl⟩) hP hD hS hA [0, 1, 2] [3, 4, 5] rfl rfl (by decide) (by decide) (hP.sub (ws' := [(lr, .inr (6, [.ref g, .ref st, .ref lg, .ref q, .ref ma, .ref sa, .int sd])), (g, .inr (2, [.int (nI gw), .int (nI gh), .int (nI (gw * gh)), .int ec, .int (nI (2 * (gw * gh))), .long ce, .ref ga])), (ga, .inr (1, [.int (nI gw), .long ar, .long ab]))]) [0, 1, 2] rfl) (hD.sub (ws' := [(lr, .inr (6, [.ref g, .ref st, .ref lg, .ref q, .ref ma, .ref sa, .int sd])), (g, .inr (2, [.int (nI gw), .int (nI gh), .int (nI (gw * gh)), .int ec, .int (nI (2 * (gw * gh))), .long ce, .ref ga])), (ga, .inr (1, [.int (nI gw), .long ar, .long ab]))]) [0, 1, 2] (by decide) rfl) (va_recv hE.1 hP (ci := 6) (q0 := 0) rfl rfl) rfl hl.1 rfl (Nat.le_of_ble_eq_true rfl) dX5_duty_2 ⟨Nat.zero_le _, Nat.zero_le _⟩ (fun cs_ H locs h_1 hP hD hS => ?_)
  subst h_1
  have hP : va_P E.1 vwCl [(lr, .inr (6, [.ref g, .ref st, .ref lg, .ref q, .ref ma, .ref sa, .int sd])), (g, .inr (2, [.int (nI gw), .int (nI gh), .int (nI (gw * gh)), .int ec, .int (nI (2 * (gw * gh))), .long ce, .ref ga])), (ga, .inr (1, [.int (nI gw), .long ar, .long ab])), (st, .inr (4, [.ref on, .ref off, .long mu, .long ba, .long bl, .long wh, .int to, .int (b2i wr)])), (on, .inr (1, [.int (nI gw), .long onr, .long onb])), (off, .inr (1, [.int (nI gw), .long ofr, .long ofb]))] H := hP.sub [3, 4, 5, 0, 1, 2] rfl
  have hD : va_D A [(lr, .inr (6, [.ref g, .ref st, .ref lg, .ref q, .ref ma, .ref sa, .int sd])), (g, .inr (2, [.int (nI gw), .int (nI gh), .int (nI (gw * gh)), .int ec, .int (nI (2 * (gw * gh))), .long ce, .ref ga])), (ga, .inr (1, [.int (nI gw), .long ar, .long ab])), (st, .inr (4, [.ref on, .ref off, .long mu, .long ba, .long bl, .long wh, .int to, .int (b2i wr)])), (on, .inr (1, [.int (nI gw), .long onr, .long onb])), (off, .inr (1, [.int (nI gw), .long ofr, .long ofb]))] := hD.sub [3, 4, 5, 0, 1, 2] (by decide) rfl
  refine lv_iload_n hx hb dX5_duty_5 rfl (lv_at hl 2 rfl) ?_
  refine lv_if_lt (tgt := 14) hx hb dX5_duty_6 (by decide) (fun c_6 => ?_) (fun c_6 => ?_)
  · skip
    exact absurd c_6 hd0
  · skip
    refine lv_iload_n hx hb dX5_duty_9 rfl (lv_at hl 2 rfl) ?_
    refine lv_iconst (v := 2) hx hb dX5_duty_10 (by decide) ?_
    refine lv_icmp_le (tgt := 24) hx hb dX5_duty_11 (by decide) (fun c_11 => ?_) (fun c_11 => ?_)
    · skip
      refine lv_aload_n hx hb dX5_duty_24 rfl (lv_at hl 0 rfl) ?_
      refine va_get (D := E.1) (ci := 6) (v := .ref st) (C := RX5) (T := TX5) (N := 7) hx hb hts hi_RX5 hown hE.1 hP 0 rfl rfl 1 (by decide) hf_27 (fun _ h9 => h9) rfl dX5_duty_25 ?_
      refine lv_iload_n hx hb dX5_duty_28 rfl (lv_at hl 1 rfl) ?_
      refine crVi (As := [.int a]) (rest := []) ⟨hx, hb, hml, hown, hts⟩ hE (cX3_dutyOf_ct l E st on off mu ba bl wh to wr (nI gw) onr onb (nI gw) ofr ofb a) (cwV 1 hts gX5_duty_X3_dutyOf rfl rfl rfl (by decide +kernel) ⟨Nat.le_of_ble_eq_true rfl, Nat.le_of_ble_eq_true rfl⟩) (hP.sub (ws' := [(st, .inr (4, [.ref on, .ref off, .long mu, .long ba, .long bl, .long wh, .int to, .int (b2i wr)])), (on, .inr (1, [.int (nI gw), .long onr, .long onb])), (off, .inr (1, [.int (nI gw), .long ofr, .long ofb]))]) [3, 4, 5] rfl) (va_recv hE.1 hP (ci := 4) (q0 := 3) rfl rfl) rfl hl.1 rfl (Nat.le_of_ble_eq_true rfl) dX5_duty_29 ⟨Nat.zero_le _, Nat.zero_le _⟩ ?_
      refine lv_iload_n hx hb dX5_duty_32 rfl (lv_at hl 2 rfl) ?_
      refine lv_icmp_ne (tgt := 38) hx hb dX5_duty_33 (by decide) (fun c_33 => ?_) (fun c_33 => ?_)
      · skip
        refine lv_aload_n hx hb dX5_duty_38 rfl (lv_at hl 0 rfl) ?_
        refine va_get (D := E.1) (ci := 6) (v := .ref st) (C := RX5) (T := TX5) (N := 7) hx hb hts hi_RX5 hown hE.1 hP 0 rfl rfl 1 (by decide) hf_27 (fun _ h9 => h9) rfl dX5_duty_39 ?_
        refine lv_iload_n hx hb dX5_duty_42 rfl (lv_at hl 1 rfl) ?_
        refine lv_iload_n hx hb dX5_duty_43 rfl (lv_at hl 2 rfl) ?_
        refine wrV (As := [.int a, .int d]) (rest := []) (wr := [(lr, .inr (6, [.ref g, .ref st, .ref lg, .ref q, .ref ma, .ref sa, .int sd])), (g, .inr (2, [.int (nI gw), .int (nI gh), .int (nI (gw * gh)), .int ec, .int (nI (2 * (gw * gh))), .long ce, .ref ga])), (ga, .inr (1, [.int (nI gw), .long ar, .long ab]))]) ⟨hx, hb, hml, hown, hts⟩ hE (cX3_setDuty_ct l E H.size st on off mu ba bl wh to wr (nI gw) onr onb (nI gw) ofr ofb a d) (cwV 2 hts gX5_duty_X3_setDuty rfl rfl rfl (by decide +kernel) ⟨Nat.le_of_ble_eq_true rfl, Nat.le_of_ble_eq_true rfl⟩) hP hD hS hA [3, 4, 5] [0, 1, 2] rfl rfl (by decide) (by decide) (hP.sub (ws' := [(st, .inr (4, [.ref on, .ref off, .long mu, .long ba, .long bl, .long wh, .int to, .int (b2i wr)])), (on, .inr (1, [.int (nI gw), .long onr, .long onb])), (off, .inr (1, [.int (nI gw), .long ofr, .long ofb]))]) [3, 4, 5] rfl) (hD.sub (ws' := [(st, .inr (4, [.ref on, .ref off, .long mu, .long ba, .long bl, .long wh, .int to, .int (b2i wr)])), (on, .inr (1, [.int (nI gw), .long onr, .long onb])), (off, .inr (1, [.int (nI gw), .long ofr, .long ofb]))]) [3, 4, 5] (by decide) rfl) (va_recv hE.1 hP (ci := 4) (q0 := 3) rfl rfl) rfl hl.1 rfl (Nat.le_of_ble_eq_true rfl) dX5_duty_44 ⟨Nat.zero_le _, Nat.zero_le _⟩ (fun cs_ H locs h_2 hP hD hS => ?_)
        subst h_2
        have hP : va_P E.1 vwCl [(lr, .inr (6, [.ref g, .ref st, .ref lg, .ref q, .ref ma, .ref sa, .int sd])), (g, .inr (2, [.int (nI gw), .int (nI gh), .int (nI (gw * gh)), .int ec, .int (nI (2 * (gw * gh))), .long ce, .ref ga])), (ga, .inr (1, [.int (nI gw), .long ar, .long ab])), (st, .inr (4, [.ref on, .ref off, .long (fMu mu a d), .long (fBa ba a d), .long bl, .long wh, .int to, .int (b2i wr)])), (on, .inr (1, [.int (nI gw), .long onr, .long onb])), (off, .inr (1, [.int (nI gw), .long ofr, .long ofb]))] H := hP.sub [0, 1, 2, 3, 4, 5] rfl
        have hD : va_D A [(lr, .inr (6, [.ref g, .ref st, .ref lg, .ref q, .ref ma, .ref sa, .int sd])), (g, .inr (2, [.int (nI gw), .int (nI gh), .int (nI (gw * gh)), .int ec, .int (nI (2 * (gw * gh))), .long ce, .ref ga])), (ga, .inr (1, [.int (nI gw), .long ar, .long ab])), (st, .inr (4, [.ref on, .ref off, .long (fMu mu a d), .long (fBa ba a d), .long bl, .long wh, .int to, .int (b2i wr)])), (on, .inr (1, [.int (nI gw), .long onr, .long onb])), (off, .inr (1, [.int (nI gw), .long ofr, .long ofb]))] := hD.sub [0, 1, 2, 3, 4, 5] (by decide) rfl
        refine lv_aload_n hx hb dX5_duty_47 rfl (lv_at hl 0 rfl) ?_
        refine va_get (D := E.1) (ci := 6) (v := .ref st) (C := RX5) (T := TX5) (N := 7) hx hb hts hi_RX5 hown hE.1 hP 0 rfl rfl 1 (by decide) hf_27 (fun _ h9 => h9) rfl dX5_duty_48 ?_
        refine lv_iconst (v := 0) hx hb dX5_duty_51 (by decide) ?_
        refine va_put (D := E.1) (ci := 4) (v := .int 0) (ty := .boolean) (C := RX3) (T := TX3) (N := 8) hx hb hts hi_RX3 tyX3 tyX3_ok nmX3 hown hE.1 hP hD hS 3 rfl rfl 7 (by decide) hf_83 (fun _ h9 => h9) rfl (by decide +kernel) (rfl) (rfl) (Nat.le_of_ble_eq_true rfl) dX5_duty_52 (fun H locs hP hD hS => ?_)
        have hP : va_P E.1 vwCl [(lr, .inr (6, [.ref g, .ref st, .ref lg, .ref q, .ref ma, .ref sa, .int sd])), (g, .inr (2, [.int (nI gw), .int (nI gh), .int (nI (gw * gh)), .int ec, .int (nI (2 * (gw * gh))), .long ce, .ref ga])), (ga, .inr (1, [.int (nI gw), .long ar, .long ab])), (st, .inr (4, [.ref on, .ref off, .long (fMu mu a d), .long (fBa ba a d), .long bl, .long wh, .int to, .int (b2i false)])), (on, .inr (1, [.int (nI gw), .long onr, .long onb])), (off, .inr (1, [.int (nI gw), .long ofr, .long ofb]))] H := hP
        have hD : va_D A [(lr, .inr (6, [.ref g, .ref st, .ref lg, .ref q, .ref ma, .ref sa, .int sd])), (g, .inr (2, [.int (nI gw), .int (nI gh), .int (nI (gw * gh)), .int ec, .int (nI (2 * (gw * gh))), .long ce, .ref ga])), (ga, .inr (1, [.int (nI gw), .long ar, .long ab])), (st, .inr (4, [.ref on, .ref off, .long (fMu mu a d), .long (fBa ba a d), .long bl, .long wh, .int to, .int (b2i false)])), (on, .inr (1, [.int (nI gw), .long onr, .long onb])), (off, .inr (1, [.int (nI gw), .long ofr, .long ofb]))] := hD
        refine lv_iconst (v := 1) hx hb dX5_duty_55 (by decide) ?_
        exact W.zret (v := 1) hx hb hr (rfl) (fun t9 ht9 hW => ⟨⟨by simp only [b2i, c_33]; rfl, [(lr, .inr (6, [.ref g, .ref st, .ref lg, .ref q, .ref ma, .ref sa, .int sd])), (g, .inr (2, [.int (nI gw), .int (nI gh), .int (nI (gw * gh)), .int ec, .int (nI (2 * (gw * gh))), .long ce, .ref ga])), (ga, .inr (1, [.int (nI gw), .long ar, .long ab])), (st, .inr (4, [.ref on, .ref off, .long (fMu mu a d), .long (fBa ba a d), .long bl, .long wh, .int to, .int (b2i false)])), (on, .inr (1, [.int (nI gw), .long onr, .long onb])), (off, .inr (1, [.int (nI gw), .long ofr, .long ofb]))], by simp only [c_33, if_true, if_false], by rw [ht9]; exact hP, hD⟩, hS.F ht9⟩) hS.2.2 dX5_duty_56
      · skip
        refine lv_iconst (v := 0) hx hb dX5_duty_36 (by decide) ?_
        exact W.zret (v := 0) hx hb hr (rfl) (fun t9 ht9 hW => ⟨⟨by simp only [b2i, c_33]; rfl, [(lr, .inr (6, [.ref g, .ref st, .ref lg, .ref q, .ref ma, .ref sa, .int sd])), (g, .inr (2, [.int (nI gw), .int (nI gh), .int (nI (gw * gh)), .int ec, .int (nI (2 * (gw * gh))), .long ce, .ref ga])), (ga, .inr (1, [.int (nI gw), .long ar, .long ab])), (st, .inr (4, [.ref on, .ref off, .long mu, .long ba, .long bl, .long wh, .int to, .int (b2i wr)])), (on, .inr (1, [.int (nI gw), .long onr, .long onb])), (off, .inr (1, [.int (nI gw), .long ofr, .long ofb]))], by simp only [c_33, if_true, if_false], by rw [ht9]; exact hP, hD⟩, hS.F ht9⟩) hS.2.2 dX5_duty_37
    · skip
      exact absurd hd2 c_11
set_option maxHeartbeats 4000000 in
set_option maxRecDepth 100000 in
theorem cX5_told_ct (l : Launch) (E : GE) (sz : Nat) (q : Nat) (g : Nat) (st : Nat) (on : Nat) (off : Nat) (lg : Nat) (mu : Int64) (ba : Int64) (bl : Int64) (wh : Int64) (to : Int32) (wr : Bool) (lr : Nat) (ma : Nat) (sa : Nat) (sd : Int32) (a : Int32) (h1 : ¬ a < -1) (h2 : a ≤ 64) : wrM l yX5_told wsX5_told ({ frames := 0, cells := 0, slots := 0, locals := 0 }) E sz [.ref lr, .int a] [(lr, .inr (6, [.ref g, .ref st, .ref lg, .ref q, .ref ma, .ref sa, .int sd])), (st, .inr (4, [.ref on, .ref off, .long mu, .long ba, .long bl, .long wh, .int to, .int (b2i wr)]))] none (fun cs' => cs' = [(lr, .inr (6, [.ref g, .ref st, .ref lg, .ref q, .ref ma, .ref sa, .int sd])), (st, .inr (4, [.ref on, .ref off, .long mu, .long ba, .long bl, .long wh, .int a, .int (b2i false)]))]) 0 0 := by
  refine Met.ofW (cc := cX5_told) (maxL := 2) (ret := none) (by decide) rfl ?_
  intro p e s m args below meth c s₁ B hml hv
  obtain ⟨rfl, hsz, hE, hP, hD0⟩ := hv
  have hx := B.exec
  have hb := B.bytes
  have hr := B.returns
  have hts := atoms_spec (ws := wsX5_told) B.pre
  have hown : s.vm.findClass RX5 = some m.cls := findClass_of_methodNamed B.named
  have hlocks := B.notSynchronized
  subst hsz
  have hD := hD0.self (sz := s.heap.size)
  generalize hAe : va_A [(lr, .inr (6, [.ref g, .ref st, .ref lg, .ref q, .ref ma, .ref sa, .int sd])), (st, .inr (4, [.ref on, .ref off, .long mu, .long ba, .long bl, .long wh, .int to, .int (b2i wr)]))] s.heap.size = A at hD ⊢
  have hA : ∀ q : Nat, s.heap.size ≤ q → A q := fun q h => by rw [← hAe]; exact Or.inr h
  have hS : va_S A s.heap s.heap [] := va_S.rf
  have hP : va_P E.1 vwCl [(lr, .inr (6, [.ref g, .ref st, .ref lg, .ref q, .ref ma, .ref sa, .int sd])), (st, .inr (4, [.ref on, .ref off, .long mu, .long ba, .long bl, .long wh, .int to, .int (b2i wr)]))] s.heap := hP
  have hl := lv_entry ([.ref lr, .int a]) (n := 2) (Nat.le_of_ble_eq_true rfl)
  rw [lg_entry_eq]
  generalize (lg_sl ([.ref lr, .int a]) ++ List.replicate (2 - (lg_sl ([.ref lr, .int a])).length) Slot.unset).toArray = ls at hl ⊢
  have hl : lv_has ls 2 [(0, .ref lr), (1, .int a)] := hl
  have hf_111 := hts (.fieldLink RX5 111 "LoopRegions$State" "told" "I") (by decide +kernel)
  have hf_27 := hts (.fieldLink RX5 27 "LoopRegions" "now" "LLoopRegions$State;") (by decide +kernel)
  have hf_83 := hts (.fieldLink RX5 83 "LoopRegions$State" "wrong" "Z") (by decide +kernel)
  have hi_RX3 : ∀ w ∈ wsX30, w ∈ wsX5_told := by decide +kernel
  have hi_RX5 : ∀ w ∈ wsX50, w ∈ wsX5_told := by decide +kernel
  refine lv_iload_n hx hb dX5_told_0 rfl (lv_at hl 1 rfl) ?_
  refine lv_iconst (v := (-1)) hx hb dX5_told_1 (by decide) ?_
  refine lv_icmp_lt (tgt := 11) hx hb dX5_told_2 (by decide) (fun c_2 => ?_) (fun c_2 => ?_)
  · skip
    exact absurd c_2 h1
  · skip
    refine lv_iload_n hx hb dX5_told_5 rfl (lv_at hl 1 rfl) ?_
    refine lv_bipush (v := 64) hx hb dX5_told_6 (by decide) ?_
    refine lv_icmp_le (tgt := 21) hx hb dX5_told_8 (by decide) (fun c_8 => ?_) (fun c_8 => ?_)
    · skip
      refine lv_aload_n hx hb dX5_told_21 rfl (lv_at hl 0 rfl) ?_
      refine va_get (D := E.1) (ci := 6) (v := .ref st) (C := RX5) (T := TX5) (N := 7) hx hb hts hi_RX5 hown hE.1 hP 0 rfl rfl 1 (by decide) hf_27 (fun _ h9 => h9) rfl dX5_told_22 ?_
      refine lv_iload_n hx hb dX5_told_25 rfl (lv_at hl 1 rfl) ?_
      refine va_put (D := E.1) (ci := 4) (v := .int a) (ty := .int) (C := RX3) (T := TX3) (N := 8) hx hb hts hi_RX3 tyX3 tyX3_ok nmX3 hown hE.1 hP hD hS 1 rfl rfl 6 (by decide) hf_111 (fun _ h9 => h9) rfl (by decide +kernel) (rfl) (rfl) (Nat.le_of_ble_eq_true rfl) dX5_told_26 (fun H locs hP hD hS => ?_)
      have hP : va_P E.1 vwCl [(lr, .inr (6, [.ref g, .ref st, .ref lg, .ref q, .ref ma, .ref sa, .int sd])), (st, .inr (4, [.ref on, .ref off, .long mu, .long ba, .long bl, .long wh, .int a, .int (b2i wr)]))] H := hP
      have hD : va_D A [(lr, .inr (6, [.ref g, .ref st, .ref lg, .ref q, .ref ma, .ref sa, .int sd])), (st, .inr (4, [.ref on, .ref off, .long mu, .long ba, .long bl, .long wh, .int a, .int (b2i wr)]))] := hD
      refine lv_aload_n hx hb dX5_told_29 rfl (lv_at hl 0 rfl) ?_
      refine va_get (D := E.1) (ci := 6) (v := .ref st) (C := RX5) (T := TX5) (N := 7) hx hb hts hi_RX5 hown hE.1 hP 0 rfl rfl 1 (by decide) hf_27 (fun _ h9 => h9) rfl dX5_told_30 ?_
      refine lv_iconst (v := 0) hx hb dX5_told_33 (by decide) ?_
      refine va_put (D := E.1) (ci := 4) (v := .int 0) (ty := .boolean) (C := RX3) (T := TX3) (N := 8) hx hb hts hi_RX3 tyX3 tyX3_ok nmX3 hown hE.1 hP hD hS 1 rfl rfl 7 (by decide) hf_83 (fun _ h9 => h9) rfl (by decide +kernel) (rfl) (rfl) (Nat.le_of_ble_eq_true rfl) dX5_told_34 (fun H locs hP hD hS => ?_)
      have hP : va_P E.1 vwCl [(lr, .inr (6, [.ref g, .ref st, .ref lg, .ref q, .ref ma, .ref sa, .int sd])), (st, .inr (4, [.ref on, .ref off, .long mu, .long ba, .long bl, .long wh, .int a, .int (b2i false)]))] H := hP
      have hD : va_D A [(lr, .inr (6, [.ref g, .ref st, .ref lg, .ref q, .ref ma, .ref sa, .int sd])), (st, .inr (4, [.ref on, .ref off, .long mu, .long ba, .long bl, .long wh, .int a, .int (b2i false)]))] := hD
      exact W.vret hx hb hr (fun t9 ht9 hW => ⟨⟨rfl, [(lr, .inr (6, [.ref g, .ref st, .ref lg, .ref q, .ref ma, .ref sa, .int sd])), (st, .inr (4, [.ref on, .ref off, .long mu, .long ba, .long bl, .long wh, .int a, .int (b2i false)]))], rfl, by rw [ht9]; exact hP, hD⟩, hS.F ht9⟩) hS.2.2 dX5_told_37
    · skip
      exact absurd h2 c_8
set_option maxHeartbeats 4000000 in
set_option maxRecDepth 100000 in
theorem cX5_wrong_ct (l : Launch) (E : GE) (q : Nat) (g : Nat) (st : Nat) (on : Nat) (off : Nat) (lg : Nat) (mu : Int64) (ba : Int64) (bl : Int64) (wh : Int64) (to : Int32) (wr : Bool) (lr : Nat) (ma : Nat) (sa : Nat) (sd : Int32)   : rdI l yX5_wrong wsX5_wrong ({ frames := 0, cells := 0, slots := 0, locals := 0 }) E [.ref lr] [(lr, .inr (6, [.ref g, .ref st, .ref lg, .ref q, .ref ma, .ref sa, .int sd])), (st, .inr (4, [.ref on, .ref off, .long mu, .long ba, .long bl, .long wh, .int to, .int (b2i wr)]))] (b2i wr) := by
  refine Met.ofW (cc := cX5_wrong) (maxL := 1) (ret := (some .boolean)) (by decide) rfl ?_
  intro p e s m args below meth c s₁ B hml hv
  obtain ⟨rfl, hE, hP⟩ := hv
  have hx := B.exec
  have hb := B.bytes
  have hr := B.returns
  have hts := atoms_spec (ws := wsX5_wrong) B.pre
  have hown : s.vm.findClass RX5 = some m.cls := findClass_of_methodNamed B.named
  have hlocks := B.notSynchronized
  have hP : va_P E.1 vwCl [(lr, .inr (6, [.ref g, .ref st, .ref lg, .ref q, .ref ma, .ref sa, .int sd])), (st, .inr (4, [.ref on, .ref off, .long mu, .long ba, .long bl, .long wh, .int to, .int (b2i wr)]))] s.heap := hP
  have hl := lv_entry ([.ref lr]) (n := 1) (Nat.le_of_ble_eq_true rfl)
  rw [lg_entry_eq]
  generalize (lg_sl ([.ref lr]) ++ List.replicate (1 - (lg_sl ([.ref lr])).length) Slot.unset).toArray = ls at hl ⊢
  have hl : lv_has ls 1 [(0, .ref lr)] := hl
  have hf_27 := hts (.fieldLink RX5 27 "LoopRegions" "now" "LLoopRegions$State;") (by decide +kernel)
  have hf_83 := hts (.fieldLink RX5 83 "LoopRegions$State" "wrong" "Z") (by decide +kernel)
  have hi_RX3 : ∀ w ∈ wsX30, w ∈ wsX5_wrong := by decide +kernel
  have hi_RX5 : ∀ w ∈ wsX50, w ∈ wsX5_wrong := by decide +kernel
  refine lv_aload_n hx hb dX5_wrong_0 rfl (lv_at hl 0 rfl) ?_
  refine va_get (D := E.1) (ci := 6) (v := .ref st) (C := RX5) (T := TX5) (N := 7) hx hb hts hi_RX5 hown hE.1 hP 0 rfl rfl 1 (by decide) hf_27 (fun _ h9 => h9) rfl dX5_wrong_1 ?_
  refine va_get (D := E.1) (ci := 4) (v := .int (b2i wr)) (C := RX3) (T := TX3) (N := 8) hx hb hts hi_RX3 hown hE.1 hP 1 rfl rfl 7 (by decide) hf_83 (fun _ h9 => h9) rfl dX5_wrong_4 ?_
  exact W.zret (v := b2i wr) hx hb hr (by first | exact b2i_nar _ | (subst_vars; exact b2i_nar _)) (fun t9 ht9 _ => ⟨b2i wr, rfl, rfl, ht9⟩) (fun q h => absurd h List.not_mem_nil) dX5_wrong_7
set_option maxHeartbeats 4000000 in
set_option maxRecDepth 100000 in
theorem cX5_steps_ct (l : Launch) (E : GE) (q : Nat) (g : Nat) (st : Nat) (lg : Nat) (a1 : Nat) (a2 : Nat) (a3 : Nat) (a4 : Nat) (n : Nat) (mm : Nat) (nu : Nat → Int32) (pl : Nat → Int32) (en : Nat → Int32) (ch : Nat → Int32) (k : Nat) (lr : Nat) (ma : Nat) (sa : Nat) (sd : Int32)   : rdI l yX5_steps wsX5_steps ({ frames := 0, cells := 0, slots := 0, locals := 0 }) E [.ref lr] [(lr, .inr (6, [.ref g, .ref st, .ref lg, .ref q, .ref ma, .ref sa, .int sd])), (lg, .inr (5, [.ref a1, .ref a2, .ref a3, .ref a4, .int (nI k)])), (a1, .inl (E.2 0, n, .inl nu)), (a2, .inl (E.2 0, n, .inl pl)), (a3, .inl (E.2 0, n, .inl en)), (a4, .inl (E.2 0, mm, .inl ch))] (nI k) := by
  refine Met.ofW (cc := cX5_steps) (maxL := 1) (ret := (some .int)) (by decide) rfl ?_
  intro p e s m args below meth c s₁ B hml hv
  obtain ⟨rfl, hE, hP⟩ := hv
  have hx := B.exec
  have hb := B.bytes
  have hr := B.returns
  have hts := atoms_spec (ws := wsX5_steps) B.pre
  have hown : s.vm.findClass RX5 = some m.cls := findClass_of_methodNamed B.named
  have hlocks := B.notSynchronized
  have hP : va_P E.1 vwCl [(lr, .inr (6, [.ref g, .ref st, .ref lg, .ref q, .ref ma, .ref sa, .int sd])), (lg, .inr (5, [.ref a1, .ref a2, .ref a3, .ref a4, .int (nI k)])), (a1, .inl (E.2 0, n, .inl nu)), (a2, .inl (E.2 0, n, .inl pl)), (a3, .inl (E.2 0, n, .inl en)), (a4, .inl (E.2 0, mm, .inl ch))] s.heap := hP
  have hl := lv_entry ([.ref lr]) (n := 1) (Nat.le_of_ble_eq_true rfl)
  rw [lg_entry_eq]
  generalize (lg_sl ([.ref lr]) ++ List.replicate (1 - (lg_sl ([.ref lr])).length) Slot.unset).toArray = ls at hl ⊢
  have hl : lv_has ls 1 [(0, .ref lr)] := hl
  have hf_114 := hts (.fieldLink RX5 114 "LoopRegions$StepLog" "count" "I") (by decide +kernel)
  have hf_43 := hts (.fieldLink RX5 43 "LoopRegions" "log" "LLoopRegions$StepLog;") (by decide +kernel)
  have hi_RX4 : ∀ w ∈ wsX40, w ∈ wsX5_steps := by decide +kernel
  have hi_RX5 : ∀ w ∈ wsX50, w ∈ wsX5_steps := by decide +kernel
  refine lv_aload_n hx hb dX5_steps_0 rfl (lv_at hl 0 rfl) ?_
  refine va_get (D := E.1) (ci := 6) (v := .ref lg) (C := RX5) (T := TX5) (N := 7) hx hb hts hi_RX5 hown hE.1 hP 0 rfl rfl 2 (by decide) hf_43 (fun _ h9 => h9) rfl dX5_steps_1 ?_
  refine va_get (D := E.1) (ci := 5) (v := .int (nI k)) (C := RX4) (T := TX4) (N := 5) hx hb hts hi_RX4 hown hE.1 hP 1 rfl rfl 4 (by decide) hf_114 (fun _ h9 => h9) rfl dX5_steps_4 ?_
  exact W.iret (v := nI k) hx hb hr (fun t9 ht9 _ => ⟨nI k, rfl, rfl, ht9⟩) (fun q h => absurd h List.not_mem_nil) dX5_steps_7
set_option maxHeartbeats 4000000 in
set_option maxRecDepth 100000 in
theorem cX5_is_ct (l : Launch) (E : GE) (sz : Nat) (q : Nat) (g : Nat) (ga : Nat) (st : Nat) (on : Nat) (off : Nat) (lg : Nat) (gw : Nat) (gh : Nat) (ec : Int32) (ce : Int64) (ar : Int64) (ab : Int64) (onr : Int64) (onb : Int64) (ofr : Int64) (ofb : Int64) (mu : Int64) (ba : Int64) (bl : Int64) (wh : Int64) (to : Int32) (wr : Bool) (lr : Nat) (ma : Nat) (sa : Nat) (sd : Int32) (a : Int32) (hv : fHasEdge (nI (2 * (gw * gh))) ar ab a = true) : wrM l yX5_is wsX5_is ({ frames := 5, cells := 0, slots := 0, locals := 105 }) E sz [.ref lr, .int a] [(lr, .inr (6, [.ref g, .ref st, .ref lg, .ref q, .ref ma, .ref sa, .int sd])), (g, .inr (2, [.int (nI gw), .int (nI gh), .int (nI (gw * gh)), .int ec, .int (nI (2 * (gw * gh))), .long ce, .ref ga])), (ga, .inr (1, [.int (nI gw), .long ar, .long ab])), (st, .inr (4, [.ref on, .ref off, .long mu, .long ba, .long bl, .long wh, .int to, .int (b2i wr)])), (on, .inr (1, [.int (nI gw), .long onr, .long onb])), (off, .inr (1, [.int (nI gw), .long ofr, .long ofb]))] (some (.int (fState onr onb ofr ofb a))) (fun cs' => cs' = [(lr, .inr (6, [.ref g, .ref st, .ref lg, .ref q, .ref ma, .ref sa, .int sd])), (g, .inr (2, [.int (nI gw), .int (nI gh), .int (nI (gw * gh)), .int ec, .int (nI (2 * (gw * gh))), .long ce, .ref ga])), (ga, .inr (1, [.int (nI gw), .long ar, .long ab])), (st, .inr (4, [.ref on, .ref off, .long mu, .long ba, .long bl, .long wh, .int to, .int (b2i wr)])), (on, .inr (1, [.int (nI gw), .long onr, .long onb])), (off, .inr (1, [.int (nI gw), .long ofr, .long ofb]))]) 0 0 := by
  refine Met.ofW (cc := cX5_is) (maxL := 2) (ret := (some .int)) (by decide) rfl ?_
  intro p e s m args below meth c s₁ B hml hv
  obtain ⟨rfl, hsz, hE, hP, hD0⟩ := hv
  have hx := B.exec
  have hb := B.bytes
  have hr := B.returns
  have hts := atoms_spec (ws := wsX5_is) B.pre
  have hown : s.vm.findClass RX5 = some m.cls := findClass_of_methodNamed B.named
  have hlocks := B.notSynchronized
  subst hsz
  have hD := hD0.self (sz := s.heap.size)
  generalize hAe : va_A [(lr, .inr (6, [.ref g, .ref st, .ref lg, .ref q, .ref ma, .ref sa, .int sd])), (g, .inr (2, [.int (nI gw), .int (nI gh), .int (nI (gw * gh)), .int ec, .int (nI (2 * (gw * gh))), .long ce, .ref ga])), (ga, .inr (1, [.int (nI gw), .long ar, .long ab])), (st, .inr (4, [.ref on, .ref off, .long mu, .long ba, .long bl, .long wh, .int to, .int (b2i wr)])), (on, .inr (1, [.int (nI gw), .long onr, .long onb])), (off, .inr (1, [.int (nI gw), .long ofr, .long ofb]))] s.heap.size = A at hD ⊢
  have hA : ∀ q : Nat, s.heap.size ≤ q → A q := fun q h => by rw [← hAe]; exact Or.inr h
  have hS : va_S A s.heap s.heap [] := va_S.rf
  have hP : va_P E.1 vwCl [(lr, .inr (6, [.ref g, .ref st, .ref lg, .ref q, .ref ma, .ref sa, .int sd])), (g, .inr (2, [.int (nI gw), .int (nI gh), .int (nI (gw * gh)), .int ec, .int (nI (2 * (gw * gh))), .long ce, .ref ga])), (ga, .inr (1, [.int (nI gw), .long ar, .long ab])), (st, .inr (4, [.ref on, .ref off, .long mu, .long ba, .long bl, .long wh, .int to, .int (b2i wr)])), (on, .inr (1, [.int (nI gw), .long onr, .long onb])), (off, .inr (1, [.int (nI gw), .long ofr, .long ofb]))] s.heap := hP
  have hl := lv_entry ([.ref lr, .int a]) (n := 2) (Nat.le_of_ble_eq_true rfl)
  rw [lg_entry_eq]
  generalize (lg_sl ([.ref lr, .int a]) ++ List.replicate (2 - (lg_sl ([.ref lr, .int a])).length) Slot.unset).toArray = ls at hl ⊢
  have hl : lv_has ls 2 [(0, .ref lr), (1, .int a)] := hl
  have hf_27 := hts (.fieldLink RX5 27 "LoopRegions" "now" "LLoopRegions$State;") (by decide +kernel)
  have hi_RX5 : ∀ w ∈ wsX50, w ∈ wsX5_is := by decide +kernel
  refine lv_aload_n hx hb dX5_is_0 rfl (lv_at hl 0 rfl) ?_
  refine lv_iload_n hx hb dX5_is_1 rfl (lv_at hl 1 rfl) ?_
  refine wrV (As := [.int a]) (rest := []) (wr := [(st, .inr (4, [.ref on, .ref off, .long mu, .long ba, .long bl, .long wh, .int to, .int (b2i wr)])), (on, .inr (1, [.int (nI gw), .long onr, .long onb])), (off, .inr (1, [.int (nI gw), .long ofr, .long ofb]))]) ⟨hx, hb, hml, hown, hts⟩ hE (cX5_checkEdge_ct l E s.heap.size q g ga st lg gw gh ec ce ar ab lr ma sa sd a (by first | assumption | omega | (subst_vars; assumption))) (cwV 1 hts gX5_is_X5_checkEdge rfl rfl rfl (by decide +kernel) ⟨Nat.le_of_ble_eq_true rfl, Nat.le_of_ble_eq_true rfl⟩) hP hD hS hA [0, 1, 2] [3, 4, 5] rfl rfl (by decide) (by decide) (hP.sub (ws' := [(lr, .inr (6, [.ref g, .ref st, .ref lg, .ref q, .ref ma, .ref sa, .int sd])), (g, .inr (2, [.int (nI gw), .int (nI gh), .int (nI (gw * gh)), .int ec, .int (nI (2 * (gw * gh))), .long ce, .ref ga])), (ga, .inr (1, [.int (nI gw), .long ar, .long ab]))]) [0, 1, 2] rfl) (hD.sub (ws' := [(lr, .inr (6, [.ref g, .ref st, .ref lg, .ref q, .ref ma, .ref sa, .int sd])), (g, .inr (2, [.int (nI gw), .int (nI gh), .int (nI (gw * gh)), .int ec, .int (nI (2 * (gw * gh))), .long ce, .ref ga])), (ga, .inr (1, [.int (nI gw), .long ar, .long ab]))]) [0, 1, 2] (by decide) rfl) (va_recv hE.1 hP (ci := 6) (q0 := 0) rfl rfl) rfl hl.1 rfl (Nat.le_of_ble_eq_true rfl) dX5_is_2 ⟨Nat.zero_le _, Nat.zero_le _⟩ (fun cs_ H locs h_1 hP hD hS => ?_)
  subst h_1
  have hP : va_P E.1 vwCl [(lr, .inr (6, [.ref g, .ref st, .ref lg, .ref q, .ref ma, .ref sa, .int sd])), (g, .inr (2, [.int (nI gw), .int (nI gh), .int (nI (gw * gh)), .int ec, .int (nI (2 * (gw * gh))), .long ce, .ref ga])), (ga, .inr (1, [.int (nI gw), .long ar, .long ab])), (st, .inr (4, [.ref on, .ref off, .long mu, .long ba, .long bl, .long wh, .int to, .int (b2i wr)])), (on, .inr (1, [.int (nI gw), .long onr, .long onb])), (off, .inr (1, [.int (nI gw), .long ofr, .long ofb]))] H := hP.sub [3, 4, 5, 0, 1, 2] rfl
  have hD : va_D A [(lr, .inr (6, [.ref g, .ref st, .ref lg, .ref q, .ref ma, .ref sa, .int sd])), (g, .inr (2, [.int (nI gw), .int (nI gh), .int (nI (gw * gh)), .int ec, .int (nI (2 * (gw * gh))), .long ce, .ref ga])), (ga, .inr (1, [.int (nI gw), .long ar, .long ab])), (st, .inr (4, [.ref on, .ref off, .long mu, .long ba, .long bl, .long wh, .int to, .int (b2i wr)])), (on, .inr (1, [.int (nI gw), .long onr, .long onb])), (off, .inr (1, [.int (nI gw), .long ofr, .long ofb]))] := hD.sub [3, 4, 5, 0, 1, 2] (by decide) rfl
  refine lv_aload_n hx hb dX5_is_5 rfl (lv_at hl 0 rfl) ?_
  refine va_get (D := E.1) (ci := 6) (v := .ref st) (C := RX5) (T := TX5) (N := 7) hx hb hts hi_RX5 hown hE.1 hP 0 rfl rfl 1 (by decide) hf_27 (fun _ h9 => h9) rfl dX5_is_6 ?_
  refine lv_iload_n hx hb dX5_is_9 rfl (lv_at hl 1 rfl) ?_
  refine crVi (As := [.int a]) (rest := []) ⟨hx, hb, hml, hown, hts⟩ hE (cX3_stateOf_ct l E st on off mu ba bl wh to wr (nI gw) onr onb (nI gw) ofr ofb a) (cwV 1 hts gX5_is_X3_stateOf rfl rfl rfl (by decide +kernel) ⟨Nat.le_of_ble_eq_true rfl, Nat.le_of_ble_eq_true rfl⟩) (hP.sub (ws' := [(st, .inr (4, [.ref on, .ref off, .long mu, .long ba, .long bl, .long wh, .int to, .int (b2i wr)])), (on, .inr (1, [.int (nI gw), .long onr, .long onb])), (off, .inr (1, [.int (nI gw), .long ofr, .long ofb]))]) [3, 4, 5] rfl) (va_recv hE.1 hP (ci := 4) (q0 := 3) rfl rfl) rfl hl.1 rfl (Nat.le_of_ble_eq_true rfl) dX5_is_10 ⟨Nat.zero_le _, Nat.zero_le _⟩ ?_
  exact W.iret (v := fState onr onb ofr ofb a) hx hb hr (fun t9 ht9 hW => ⟨⟨rfl, [(lr, .inr (6, [.ref g, .ref st, .ref lg, .ref q, .ref ma, .ref sa, .int sd])), (g, .inr (2, [.int (nI gw), .int (nI gh), .int (nI (gw * gh)), .int ec, .int (nI (2 * (gw * gh))), .long ce, .ref ga])), (ga, .inr (1, [.int (nI gw), .long ar, .long ab])), (st, .inr (4, [.ref on, .ref off, .long mu, .long ba, .long bl, .long wh, .int to, .int (b2i wr)])), (on, .inr (1, [.int (nI gw), .long onr, .long onb])), (off, .inr (1, [.int (nI gw), .long ofr, .long ofb]))], rfl, by rw [ht9]; exact hP, hD⟩, hS.F ht9⟩) hS.2.2 dX5_is_13
set_option maxHeartbeats 4000000 in
set_option maxRecDepth 100000 in
theorem cX5_reason_ct (l : Launch) (E : GE) (sz : Nat) (q : Nat) (g : Nat) (ga : Nat) (st : Nat) (lg : Nat) (a1 : Nat) (a2 : Nat) (a3 : Nat) (a4 : Nat) (gw : Nat) (gh : Nat) (ec : Int32) (ce : Int64) (ar : Int64) (ab : Int64) (n : Nat) (mm : Nat) (nu : Nat → Int32) (pl : Nat → Int32) (en : Nat → Int32) (ch : Nat → Int32) (k : Nat) (lr : Nat) (ma : Nat) (sa : Nat) (sd : Int32) (a : Int32) (hv : fHasEdge (nI (2 * (gw * gh))) ar ab a = true) (hn : n < 2 ^ 31) (hm : mm < 2 ^ 31) : wrM l yX5_reason wsX5_reason ({ frames := 5, cells := 0, slots := 0, locals := 113 }) E sz [.ref lr, .int a] [(lr, .inr (6, [.ref g, .ref st, .ref lg, .ref q, .ref ma, .ref sa, .int sd])), (g, .inr (2, [.int (nI gw), .int (nI gh), .int (nI (gw * gh)), .int ec, .int (nI (2 * (gw * gh))), .long ce, .ref ga])), (ga, .inr (1, [.int (nI gw), .long ar, .long ab])), (lg, .inr (5, [.ref a1, .ref a2, .ref a3, .ref a4, .int (nI k)])), (a1, .inl (E.2 0, n, .inl nu)), (a2, .inl (E.2 0, n, .inl pl)), (a3, .inl (E.2 0, n, .inl en)), (a4, .inl (E.2 0, mm, .inl ch))] (some (.int (fStepTh (nI k) n mm nu en ch a false (nI k).toNatClampNeg 0))) (fun cs' => cs' = [(lr, .inr (6, [.ref g, .ref st, .ref lg, .ref q, .ref ma, .ref sa, .int sd])), (g, .inr (2, [.int (nI gw), .int (nI gh), .int (nI (gw * gh)), .int ec, .int (nI (2 * (gw * gh))), .long ce, .ref ga])), (ga, .inr (1, [.int (nI gw), .long ar, .long ab])), (lg, .inr (5, [.ref a1, .ref a2, .ref a3, .ref a4, .int (nI k)])), (a1, .inl (E.2 0, n, .inl nu)), (a2, .inl (E.2 0, n, .inl pl)), (a3, .inl (E.2 0, n, .inl en)), (a4, .inl (E.2 0, mm, .inl ch))]) 0 0 := by
  refine Met.ofW (cc := cX5_reason) (maxL := 2) (ret := (some .int)) (by decide) rfl ?_
  intro p e s m args below meth c s₁ B hml hv
  obtain ⟨rfl, hsz, hE, hP, hD0⟩ := hv
  have hx := B.exec
  have hb := B.bytes
  have hr := B.returns
  have hts := atoms_spec (ws := wsX5_reason) B.pre
  have hown : s.vm.findClass RX5 = some m.cls := findClass_of_methodNamed B.named
  have hlocks := B.notSynchronized
  subst hsz
  have hD := hD0.self (sz := s.heap.size)
  generalize hAe : va_A [(lr, .inr (6, [.ref g, .ref st, .ref lg, .ref q, .ref ma, .ref sa, .int sd])), (g, .inr (2, [.int (nI gw), .int (nI gh), .int (nI (gw * gh)), .int ec, .int (nI (2 * (gw * gh))), .long ce, .ref ga])), (ga, .inr (1, [.int (nI gw), .long ar, .long ab])), (lg, .inr (5, [.ref a1, .ref a2, .ref a3, .ref a4, .int (nI k)])), (a1, .inl (E.2 0, n, .inl nu)), (a2, .inl (E.2 0, n, .inl pl)), (a3, .inl (E.2 0, n, .inl en)), (a4, .inl (E.2 0, mm, .inl ch))] s.heap.size = A at hD ⊢
  have hA : ∀ q : Nat, s.heap.size ≤ q → A q := fun q h => by rw [← hAe]; exact Or.inr h
  have hS : va_S A s.heap s.heap [] := va_S.rf
  have hP : va_P E.1 vwCl [(lr, .inr (6, [.ref g, .ref st, .ref lg, .ref q, .ref ma, .ref sa, .int sd])), (g, .inr (2, [.int (nI gw), .int (nI gh), .int (nI (gw * gh)), .int ec, .int (nI (2 * (gw * gh))), .long ce, .ref ga])), (ga, .inr (1, [.int (nI gw), .long ar, .long ab])), (lg, .inr (5, [.ref a1, .ref a2, .ref a3, .ref a4, .int (nI k)])), (a1, .inl (E.2 0, n, .inl nu)), (a2, .inl (E.2 0, n, .inl pl)), (a3, .inl (E.2 0, n, .inl en)), (a4, .inl (E.2 0, mm, .inl ch))] s.heap := hP
  have hl := lv_entry ([.ref lr, .int a]) (n := 2) (Nat.le_of_ble_eq_true rfl)
  rw [lg_entry_eq]
  generalize (lg_sl ([.ref lr, .int a]) ++ List.replicate (2 - (lg_sl ([.ref lr, .int a])).length) Slot.unset).toArray = ls at hl ⊢
  have hl : lv_has ls 2 [(0, .ref lr), (1, .int a)] := hl
  have hf_43 := hts (.fieldLink RX5 43 "LoopRegions" "log" "LLoopRegions$StepLog;") (by decide +kernel)
  have hi_RX5 : ∀ w ∈ wsX50, w ∈ wsX5_reason := by decide +kernel
  refine lv_aload_n hx hb dX5_reason_0 rfl (lv_at hl 0 rfl) ?_
  refine lv_iload_n hx hb dX5_reason_1 rfl (lv_at hl 1 rfl) ?_
  refine wrV (As := [.int a]) (rest := []) (wr := [(lg, .inr (5, [.ref a1, .ref a2, .ref a3, .ref a4, .int (nI k)])), (a1, .inl (E.2 0, n, .inl nu)), (a2, .inl (E.2 0, n, .inl pl)), (a3, .inl (E.2 0, n, .inl en)), (a4, .inl (E.2 0, mm, .inl ch))]) ⟨hx, hb, hml, hown, hts⟩ hE (cX5_checkEdge_ct l E s.heap.size q g ga st lg gw gh ec ce ar ab lr ma sa sd a (by first | assumption | omega | (subst_vars; assumption))) (cwV 1 hts gX5_reason_X5_checkEdge rfl rfl rfl (by decide +kernel) ⟨Nat.le_of_ble_eq_true rfl, Nat.le_of_ble_eq_true rfl⟩) hP hD hS hA [0, 1, 2] [3, 4, 5, 6, 7] rfl rfl (by decide) (by decide) (hP.sub (ws' := [(lr, .inr (6, [.ref g, .ref st, .ref lg, .ref q, .ref ma, .ref sa, .int sd])), (g, .inr (2, [.int (nI gw), .int (nI gh), .int (nI (gw * gh)), .int ec, .int (nI (2 * (gw * gh))), .long ce, .ref ga])), (ga, .inr (1, [.int (nI gw), .long ar, .long ab]))]) [0, 1, 2] rfl) (hD.sub (ws' := [(lr, .inr (6, [.ref g, .ref st, .ref lg, .ref q, .ref ma, .ref sa, .int sd])), (g, .inr (2, [.int (nI gw), .int (nI gh), .int (nI (gw * gh)), .int ec, .int (nI (2 * (gw * gh))), .long ce, .ref ga])), (ga, .inr (1, [.int (nI gw), .long ar, .long ab]))]) [0, 1, 2] (by decide) rfl) (va_recv hE.1 hP (ci := 6) (q0 := 0) rfl rfl) rfl hl.1 rfl (Nat.le_of_ble_eq_true rfl) dX5_reason_2 ⟨Nat.zero_le _, Nat.zero_le _⟩ (fun cs_ H locs h_1 hP hD hS => ?_)
  subst h_1
  have hP : va_P E.1 vwCl [(lr, .inr (6, [.ref g, .ref st, .ref lg, .ref q, .ref ma, .ref sa, .int sd])), (g, .inr (2, [.int (nI gw), .int (nI gh), .int (nI (gw * gh)), .int ec, .int (nI (2 * (gw * gh))), .long ce, .ref ga])), (ga, .inr (1, [.int (nI gw), .long ar, .long ab])), (lg, .inr (5, [.ref a1, .ref a2, .ref a3, .ref a4, .int (nI k)])), (a1, .inl (E.2 0, n, .inl nu)), (a2, .inl (E.2 0, n, .inl pl)), (a3, .inl (E.2 0, n, .inl en)), (a4, .inl (E.2 0, mm, .inl ch))] H := hP.sub [5, 6, 7, 0, 1, 2, 3, 4] rfl
  have hD : va_D A [(lr, .inr (6, [.ref g, .ref st, .ref lg, .ref q, .ref ma, .ref sa, .int sd])), (g, .inr (2, [.int (nI gw), .int (nI gh), .int (nI (gw * gh)), .int ec, .int (nI (2 * (gw * gh))), .long ce, .ref ga])), (ga, .inr (1, [.int (nI gw), .long ar, .long ab])), (lg, .inr (5, [.ref a1, .ref a2, .ref a3, .ref a4, .int (nI k)])), (a1, .inl (E.2 0, n, .inl nu)), (a2, .inl (E.2 0, n, .inl pl)), (a3, .inl (E.2 0, n, .inl en)), (a4, .inl (E.2 0, mm, .inl ch))] := hD.sub [5, 6, 7, 0, 1, 2, 3, 4] (by decide) rfl
  refine lv_aload_n hx hb dX5_reason_5 rfl (lv_at hl 0 rfl) ?_
  refine va_get (D := E.1) (ci := 6) (v := .ref lg) (C := RX5) (T := TX5) (N := 7) hx hb hts hi_RX5 hown hE.1 hP 0 rfl rfl 2 (by decide) hf_43 (fun _ h9 => h9) rfl dX5_reason_6 ?_
  refine lv_iload_n hx hb dX5_reason_9 rfl (lv_at hl 1 rfl) ?_
  refine lv_iconst (v := 0) hx hb dX5_reason_10 (by decide) ?_
  refine crVi (As := [.int a, .int 0]) (rest := []) ⟨hx, hb, hml, hown, hts⟩ hE (cX4_stepThatChanged_ct l E lg a1 a2 a3 a4 n mm nu pl en ch (nI k) hn hm a false) (cwV 2 hts gX5_reason_X4_stepThatChanged rfl rfl rfl (by decide +kernel) ⟨Nat.le_of_ble_eq_true rfl, Nat.le_of_ble_eq_true rfl⟩) (hP.sub (ws' := [(lg, .inr (5, [.ref a1, .ref a2, .ref a3, .ref a4, .int (nI k)])), (a1, .inl (E.2 0, n, .inl nu)), (a2, .inl (E.2 0, n, .inl pl)), (a3, .inl (E.2 0, n, .inl en)), (a4, .inl (E.2 0, mm, .inl ch))]) [3, 4, 5, 6, 7] rfl) (va_recv hE.1 hP (ci := 5) (q0 := 3) rfl rfl) rfl hl.1 rfl (Nat.le_of_ble_eq_true rfl) dX5_reason_11 ⟨Nat.zero_le _, Nat.zero_le _⟩ ?_
  exact W.iret (v := fStepTh (nI k) n mm nu en ch a false (nI k : Int32).toNatClampNeg 0) hx hb hr (fun t9 ht9 hW => ⟨⟨rfl, [(lr, .inr (6, [.ref g, .ref st, .ref lg, .ref q, .ref ma, .ref sa, .int sd])), (g, .inr (2, [.int (nI gw), .int (nI gh), .int (nI (gw * gh)), .int ec, .int (nI (2 * (gw * gh))), .long ce, .ref ga])), (ga, .inr (1, [.int (nI gw), .long ar, .long ab])), (lg, .inr (5, [.ref a1, .ref a2, .ref a3, .ref a4, .int (nI k)])), (a1, .inl (E.2 0, n, .inl nu)), (a2, .inl (E.2 0, n, .inl pl)), (a3, .inl (E.2 0, n, .inl en)), (a4, .inl (E.2 0, mm, .inl ch))], rfl, by rw [ht9]; exact hP, hD⟩, hS.F ht9⟩) hS.2.2 dX5_reason_14
set_option maxHeartbeats 4000000 in
set_option maxRecDepth 100000 in
theorem cX5_cell_ct (l : Launch) (E : GE) (sz : Nat) (q : Nat) (g : Nat) (ga : Nat) (st : Nat) (on : Nat) (off : Nat) (lg : Nat) (a1 : Nat) (a2 : Nat) (a3 : Nat) (a4 : Nat) (gw : Nat) (gh : Nat) (ec : Int32) (ce : Int64) (ar : Int64) (ab : Int64) (onr : Int64) (onb : Int64) (ofr : Int64) (ofb : Int64) (mu : Int64) (ba : Int64) (bl : Int64) (wh : Int64) (to : Int32) (wr : Bool) (n : Nat) (mm : Nat) (nu : Nat → Int32) (pl : Nat → Int32) (en : Nat → Int32) (ch : Nat → Int32) (k : Nat) (lr : Nat) (ma : Nat) (sa : Nat) (sd : Int32) (a d : Int32) (hv : fHasCell (nI (gw * gh)) a = true) (hn : n < 2 ^ 31) (hm : mm < 2 ^ 31) : wrM l yX5_cell wsX5_cell ({ frames := 5, cells := 0, slots := 0, locals := 113 }) E sz [.ref lr, .int a, .int d] [(lr, .inr (6, [.ref g, .ref st, .ref lg, .ref q, .ref ma, .ref sa, .int sd])), (g, .inr (2, [.int (nI gw), .int (nI gh), .int (nI (gw * gh)), .int ec, .int (nI (2 * (gw * gh))), .long ce, .ref ga])), (ga, .inr (1, [.int (nI gw), .long ar, .long ab])), (st, .inr (4, [.ref on, .ref off, .long mu, .long ba, .long bl, .long wh, .int to, .int (b2i wr)])), (on, .inr (1, [.int (nI gw), .long onr, .long onb])), (off, .inr (1, [.int (nI gw), .long ofr, .long ofb])), (lg, .inr (5, [.ref a1, .ref a2, .ref a3, .ref a4, .int (nI k)])), (a1, .inl (E.2 0, n, .inl nu)), (a2, .inl (E.2 0, n, .inl pl)), (a3, .inl (E.2 0, n, .inl en)), (a4, .inl (E.2 0, mm, .inl ch))] (some (.int (if d = 0 then fTri bl wh a else if d = 1 then fTri mu ba a else if d = 2 then fCount (nI gw) onr onb a else if d = 3 then fCount (nI gw) ar ab a - fCount (nI gw) onr onb a - fCount (nI gw) ofr ofb a else if d = 4 then fStepTh (nI k) n mm nu en ch a true (nI k).toNatClampNeg 0 else -1))) (fun cs' => cs' = [(lr, .inr (6, [.ref g, .ref st, .ref lg, .ref q, .ref ma, .ref sa, .int sd])), (g, .inr (2, [.int (nI gw), .int (nI gh), .int (nI (gw * gh)), .int ec, .int (nI (2 * (gw * gh))), .long ce, .ref ga])), (ga, .inr (1, [.int (nI gw), .long ar, .long ab])), (st, .inr (4, [.ref on, .ref off, .long mu, .long ba, .long bl, .long wh, .int to, .int (b2i wr)])), (on, .inr (1, [.int (nI gw), .long onr, .long onb])), (off, .inr (1, [.int (nI gw), .long ofr, .long ofb])), (lg, .inr (5, [.ref a1, .ref a2, .ref a3, .ref a4, .int (nI k)])), (a1, .inl (E.2 0, n, .inl nu)), (a2, .inl (E.2 0, n, .inl pl)), (a3, .inl (E.2 0, n, .inl en)), (a4, .inl (E.2 0, mm, .inl ch))]) 0 0 := by
  refine Met.ofW (cc := cX5_cell) (maxL := 3) (ret := (some .int)) (by decide) rfl ?_
  intro p e s m args below meth c s₁ B hml hv
  obtain ⟨rfl, hsz, hE, hP, hD0⟩ := hv
  have hx := B.exec
  have hb := B.bytes
  have hr := B.returns
  have hts := atoms_spec (ws := wsX5_cell) B.pre
  have hown : s.vm.findClass RX5 = some m.cls := findClass_of_methodNamed B.named
  have hlocks := B.notSynchronized
  subst hsz
  have hD := hD0.self (sz := s.heap.size)
  generalize hAe : va_A [(lr, .inr (6, [.ref g, .ref st, .ref lg, .ref q, .ref ma, .ref sa, .int sd])), (g, .inr (2, [.int (nI gw), .int (nI gh), .int (nI (gw * gh)), .int ec, .int (nI (2 * (gw * gh))), .long ce, .ref ga])), (ga, .inr (1, [.int (nI gw), .long ar, .long ab])), (st, .inr (4, [.ref on, .ref off, .long mu, .long ba, .long bl, .long wh, .int to, .int (b2i wr)])), (on, .inr (1, [.int (nI gw), .long onr, .long onb])), (off, .inr (1, [.int (nI gw), .long ofr, .long ofb])), (lg, .inr (5, [.ref a1, .ref a2, .ref a3, .ref a4, .int (nI k)])), (a1, .inl (E.2 0, n, .inl nu)), (a2, .inl (E.2 0, n, .inl pl)), (a3, .inl (E.2 0, n, .inl en)), (a4, .inl (E.2 0, mm, .inl ch))] s.heap.size = A at hD ⊢
  have hA : ∀ q : Nat, s.heap.size ≤ q → A q := fun q h => by rw [← hAe]; exact Or.inr h
  have hS : va_S A s.heap s.heap [] := va_S.rf
  have hP : va_P E.1 vwCl [(lr, .inr (6, [.ref g, .ref st, .ref lg, .ref q, .ref ma, .ref sa, .int sd])), (g, .inr (2, [.int (nI gw), .int (nI gh), .int (nI (gw * gh)), .int ec, .int (nI (2 * (gw * gh))), .long ce, .ref ga])), (ga, .inr (1, [.int (nI gw), .long ar, .long ab])), (st, .inr (4, [.ref on, .ref off, .long mu, .long ba, .long bl, .long wh, .int to, .int (b2i wr)])), (on, .inr (1, [.int (nI gw), .long onr, .long onb])), (off, .inr (1, [.int (nI gw), .long ofr, .long ofb])), (lg, .inr (5, [.ref a1, .ref a2, .ref a3, .ref a4, .int (nI k)])), (a1, .inl (E.2 0, n, .inl nu)), (a2, .inl (E.2 0, n, .inl pl)), (a3, .inl (E.2 0, n, .inl en)), (a4, .inl (E.2 0, mm, .inl ch))] s.heap := hP
  have hl := lv_entry ([.ref lr, .int a, .int d]) (n := 3) (Nat.le_of_ble_eq_true rfl)
  rw [lg_entry_eq]
  generalize (lg_sl ([.ref lr, .int a, .int d]) ++ List.replicate (3 - (lg_sl ([.ref lr, .int a, .int d])).length) Slot.unset).toArray = ls at hl ⊢
  have hl : lv_has ls 3 [(0, .ref lr), (1, .int a), (2, .int d)] := hl
  have hf_145 := hts (.fieldLink RX5 145 "LoopRegions$State" "on" "LLoopRegions$Edges;") (by decide +kernel)
  have hf_154 := hts (.fieldLink RX5 154 "LoopRegions$Grid" "all" "LLoopRegions$Edges;") (by decide +kernel)
  have hf_157 := hts (.fieldLink RX5 157 "LoopRegions$State" "off" "LLoopRegions$Edges;") (by decide +kernel)
  have hf_18 := hts (.fieldLink RX5 18 "LoopRegions" "grid" "LLoopRegions$Grid;") (by decide +kernel)
  have hf_27 := hts (.fieldLink RX5 27 "LoopRegions" "now" "LLoopRegions$State;") (by decide +kernel)
  have hf_43 := hts (.fieldLink RX5 43 "LoopRegions" "log" "LLoopRegions$StepLog;") (by decide +kernel)
  have hi_RX1 : ∀ w ∈ wsX10, w ∈ wsX5_cell := by decide +kernel
  have hi_RX3 : ∀ w ∈ wsX30, w ∈ wsX5_cell := by decide +kernel
  have hi_RX5 : ∀ w ∈ wsX50, w ∈ wsX5_cell := by decide +kernel
  refine lv_aload_n hx hb dX5_cell_0 rfl (lv_at hl 0 rfl) ?_
  refine lv_iload_n hx hb dX5_cell_1 rfl (lv_at hl 1 rfl) ?_
  refine wrV (As := [.int a]) (rest := []) (wr := [(st, .inr (4, [.ref on, .ref off, .long mu, .long ba, .long bl, .long wh, .int to, .int (b2i wr)])), (on, .inr (1, [.int (nI gw), .long onr, .long onb])), (off, .inr (1, [.int (nI gw), .long ofr, .long ofb])), (lg, .inr (5, [.ref a1, .ref a2, .ref a3, .ref a4, .int (nI k)])), (a1, .inl (E.2 0, n, .inl nu)), (a2, .inl (E.2 0, n, .inl pl)), (a3, .inl (E.2 0, n, .inl en)), (a4, .inl (E.2 0, mm, .inl ch))]) ⟨hx, hb, hml, hown, hts⟩ hE (cX5_checkCell_ct l E s.heap.size q g ga st lg gw gh ec ce ar ab lr ma sa sd a (by first | assumption | omega | (subst_vars; assumption))) (cwV 1 hts gX5_cell_X5_checkCell rfl rfl rfl (by decide +kernel) ⟨Nat.le_of_ble_eq_true rfl, Nat.le_of_ble_eq_true rfl⟩) hP hD hS hA [0, 1, 2] [3, 4, 5, 6, 7, 8, 9, 10] rfl rfl (by decide) (by decide) (hP.sub (ws' := [(lr, .inr (6, [.ref g, .ref st, .ref lg, .ref q, .ref ma, .ref sa, .int sd])), (g, .inr (2, [.int (nI gw), .int (nI gh), .int (nI (gw * gh)), .int ec, .int (nI (2 * (gw * gh))), .long ce, .ref ga])), (ga, .inr (1, [.int (nI gw), .long ar, .long ab]))]) [0, 1, 2] rfl) (hD.sub (ws' := [(lr, .inr (6, [.ref g, .ref st, .ref lg, .ref q, .ref ma, .ref sa, .int sd])), (g, .inr (2, [.int (nI gw), .int (nI gh), .int (nI (gw * gh)), .int ec, .int (nI (2 * (gw * gh))), .long ce, .ref ga])), (ga, .inr (1, [.int (nI gw), .long ar, .long ab]))]) [0, 1, 2] (by decide) rfl) (va_recv hE.1 hP (ci := 6) (q0 := 0) rfl rfl) rfl hl.1 rfl (Nat.le_of_ble_eq_true rfl) dX5_cell_2 ⟨Nat.zero_le _, Nat.zero_le _⟩ (fun cs_ H locs h_1 hP hD hS => ?_)
  subst h_1
  have hP : va_P E.1 vwCl [(lr, .inr (6, [.ref g, .ref st, .ref lg, .ref q, .ref ma, .ref sa, .int sd])), (g, .inr (2, [.int (nI gw), .int (nI gh), .int (nI (gw * gh)), .int ec, .int (nI (2 * (gw * gh))), .long ce, .ref ga])), (ga, .inr (1, [.int (nI gw), .long ar, .long ab])), (st, .inr (4, [.ref on, .ref off, .long mu, .long ba, .long bl, .long wh, .int to, .int (b2i wr)])), (on, .inr (1, [.int (nI gw), .long onr, .long onb])), (off, .inr (1, [.int (nI gw), .long ofr, .long ofb])), (lg, .inr (5, [.ref a1, .ref a2, .ref a3, .ref a4, .int (nI k)])), (a1, .inl (E.2 0, n, .inl nu)), (a2, .inl (E.2 0, n, .inl pl)), (a3, .inl (E.2 0, n, .inl en)), (a4, .inl (E.2 0, mm, .inl ch))] H := hP.sub [8, 9, 10, 0, 1, 2, 3, 4, 5, 6, 7] rfl
  have hD : va_D A [(lr, .inr (6, [.ref g, .ref st, .ref lg, .ref q, .ref ma, .ref sa, .int sd])), (g, .inr (2, [.int (nI gw), .int (nI gh), .int (nI (gw * gh)), .int ec, .int (nI (2 * (gw * gh))), .long ce, .ref ga])), (ga, .inr (1, [.int (nI gw), .long ar, .long ab])), (st, .inr (4, [.ref on, .ref off, .long mu, .long ba, .long bl, .long wh, .int to, .int (b2i wr)])), (on, .inr (1, [.int (nI gw), .long onr, .long onb])), (off, .inr (1, [.int (nI gw), .long ofr, .long ofb])), (lg, .inr (5, [.ref a1, .ref a2, .ref a3, .ref a4, .int (nI k)])), (a1, .inl (E.2 0, n, .inl nu)), (a2, .inl (E.2 0, n, .inl pl)), (a3, .inl (E.2 0, n, .inl en)), (a4, .inl (E.2 0, mm, .inl ch))] := hD.sub [8, 9, 10, 0, 1, 2, 3, 4, 5, 6, 7] (by decide) rfl
  refine lv_iload_n hx hb dX5_cell_5 rfl (lv_at hl 2 rfl) ?_
  by_cases t_6_0 : d = 0
  · skip
    refine lv_tableIn (tgt := 40) hx hb dX5_cell_6 (by rw [t_6_0]; decide) (by rw [t_6_0]; decide) (by rw [t_6_0]; rfl) (by decide) ?_
    refine lv_aload_n hx hb dX5_cell_40 rfl (lv_at hl 0 rfl) ?_
    refine va_get (D := E.1) (ci := 6) (v := .ref st) (C := RX5) (T := TX5) (N := 7) hx hb hts hi_RX5 hown hE.1 hP 0 rfl rfl 1 (by decide) hf_27 (fun _ h9 => h9) rfl dX5_cell_41 ?_
    refine lv_iload_n hx hb dX5_cell_44 rfl (lv_at hl 1 rfl) ?_
    refine crVi (As := [.int a]) (rest := []) ⟨hx, hb, hml, hown, hts⟩ hE (cX3_shadeOf_ct l E st on off mu ba bl wh to wr (nI gw) onr onb (nI gw) ofr ofb a) (cwV 1 hts gX5_cell_X3_shadeOf rfl rfl rfl (by decide +kernel) ⟨Nat.le_of_ble_eq_true rfl, Nat.le_of_ble_eq_true rfl⟩) (hP.sub (ws' := [(st, .inr (4, [.ref on, .ref off, .long mu, .long ba, .long bl, .long wh, .int to, .int (b2i wr)])), (on, .inr (1, [.int (nI gw), .long onr, .long onb])), (off, .inr (1, [.int (nI gw), .long ofr, .long ofb]))]) [3, 4, 5] rfl) (va_recv hE.1 hP (ci := 4) (q0 := 3) rfl rfl) rfl hl.1 rfl (Nat.le_of_ble_eq_true rfl) dX5_cell_45 ⟨Nat.zero_le _, Nat.zero_le _⟩ ?_
    exact W.iret (v := fTri bl wh a) hx hb hr (fun t9 ht9 hW => ⟨⟨by subst t_6_0; rfl, [(lr, .inr (6, [.ref g, .ref st, .ref lg, .ref q, .ref ma, .ref sa, .int sd])), (g, .inr (2, [.int (nI gw), .int (nI gh), .int (nI (gw * gh)), .int ec, .int (nI (2 * (gw * gh))), .long ce, .ref ga])), (ga, .inr (1, [.int (nI gw), .long ar, .long ab])), (st, .inr (4, [.ref on, .ref off, .long mu, .long ba, .long bl, .long wh, .int to, .int (b2i wr)])), (on, .inr (1, [.int (nI gw), .long onr, .long onb])), (off, .inr (1, [.int (nI gw), .long ofr, .long ofb])), (lg, .inr (5, [.ref a1, .ref a2, .ref a3, .ref a4, .int (nI k)])), (a1, .inl (E.2 0, n, .inl nu)), (a2, .inl (E.2 0, n, .inl pl)), (a3, .inl (E.2 0, n, .inl en)), (a4, .inl (E.2 0, mm, .inl ch))], rfl, by rw [ht9]; exact hP, hD⟩, hS.F ht9⟩) hS.2.2 dX5_cell_48
  by_cases t_6_1 : d = 1
  · skip
    refine lv_tableIn (tgt := 49) hx hb dX5_cell_6 (by rw [t_6_1]; decide) (by rw [t_6_1]; decide) (by rw [t_6_1]; rfl) (by decide) ?_
    refine lv_aload_n hx hb dX5_cell_49 rfl (lv_at hl 0 rfl) ?_
    refine va_get (D := E.1) (ci := 6) (v := .ref st) (C := RX5) (T := TX5) (N := 7) hx hb hts hi_RX5 hown hE.1 hP 0 rfl rfl 1 (by decide) hf_27 (fun _ h9 => h9) rfl dX5_cell_50 ?_
    refine lv_iload_n hx hb dX5_cell_53 rfl (lv_at hl 1 rfl) ?_
    refine crVi (As := [.int a]) (rest := []) ⟨hx, hb, hml, hown, hts⟩ hE (cX3_dutyOf_ct l E st on off mu ba bl wh to wr (nI gw) onr onb (nI gw) ofr ofb a) (cwV 1 hts gX5_cell_X3_dutyOf rfl rfl rfl (by decide +kernel) ⟨Nat.le_of_ble_eq_true rfl, Nat.le_of_ble_eq_true rfl⟩) (hP.sub (ws' := [(st, .inr (4, [.ref on, .ref off, .long mu, .long ba, .long bl, .long wh, .int to, .int (b2i wr)])), (on, .inr (1, [.int (nI gw), .long onr, .long onb])), (off, .inr (1, [.int (nI gw), .long ofr, .long ofb]))]) [3, 4, 5] rfl) (va_recv hE.1 hP (ci := 4) (q0 := 3) rfl rfl) rfl hl.1 rfl (Nat.le_of_ble_eq_true rfl) dX5_cell_54 ⟨Nat.zero_le _, Nat.zero_le _⟩ ?_
    exact W.iret (v := fTri mu ba a) hx hb hr (fun t9 ht9 hW => ⟨⟨by subst t_6_1; rfl, [(lr, .inr (6, [.ref g, .ref st, .ref lg, .ref q, .ref ma, .ref sa, .int sd])), (g, .inr (2, [.int (nI gw), .int (nI gh), .int (nI (gw * gh)), .int ec, .int (nI (2 * (gw * gh))), .long ce, .ref ga])), (ga, .inr (1, [.int (nI gw), .long ar, .long ab])), (st, .inr (4, [.ref on, .ref off, .long mu, .long ba, .long bl, .long wh, .int to, .int (b2i wr)])), (on, .inr (1, [.int (nI gw), .long onr, .long onb])), (off, .inr (1, [.int (nI gw), .long ofr, .long ofb])), (lg, .inr (5, [.ref a1, .ref a2, .ref a3, .ref a4, .int (nI k)])), (a1, .inl (E.2 0, n, .inl nu)), (a2, .inl (E.2 0, n, .inl pl)), (a3, .inl (E.2 0, n, .inl en)), (a4, .inl (E.2 0, mm, .inl ch))], rfl, by rw [ht9]; exact hP, hD⟩, hS.F ht9⟩) hS.2.2 dX5_cell_57
  by_cases t_6_2 : d = 2
  · skip
    refine lv_tableIn (tgt := 58) hx hb dX5_cell_6 (by rw [t_6_2]; decide) (by rw [t_6_2]; decide) (by rw [t_6_2]; rfl) (by decide) ?_
    refine lv_aload_n hx hb dX5_cell_58 rfl (lv_at hl 0 rfl) ?_
    refine va_get (D := E.1) (ci := 6) (v := .ref st) (C := RX5) (T := TX5) (N := 7) hx hb hts hi_RX5 hown hE.1 hP 0 rfl rfl 1 (by decide) hf_27 (fun _ h9 => h9) rfl dX5_cell_59 ?_
    refine va_get (D := E.1) (ci := 4) (v := .ref on) (C := RX3) (T := TX3) (N := 8) hx hb hts hi_RX3 hown hE.1 hP 3 rfl rfl 0 (by decide) hf_145 (fun _ h9 => h9) rfl dX5_cell_62 ?_
    refine lv_iload_n hx hb dX5_cell_65 rfl (lv_at hl 1 rfl) ?_
    refine crVi (As := [.int a]) (rest := []) ⟨hx, hb, hml, hown, hts⟩ hE (cX0_countAt_ct l E on (nI gw) onr onb a) (cwV 1 hts gX5_cell_X0_countAt rfl rfl rfl (by decide +kernel) ⟨Nat.le_of_ble_eq_true rfl, Nat.le_of_ble_eq_true rfl⟩) (hP.sub (ws' := [(on, .inr (1, [.int (nI gw), .long onr, .long onb]))]) [4] rfl) (va_recv hE.1 hP (ci := 1) (q0 := 4) rfl rfl) rfl hl.1 rfl (Nat.le_of_ble_eq_true rfl) dX5_cell_66 ⟨Nat.zero_le _, Nat.zero_le _⟩ ?_
    exact W.iret (v := fCount (nI gw) onr onb a) hx hb hr (fun t9 ht9 hW => ⟨⟨by subst t_6_2; rfl, [(lr, .inr (6, [.ref g, .ref st, .ref lg, .ref q, .ref ma, .ref sa, .int sd])), (g, .inr (2, [.int (nI gw), .int (nI gh), .int (nI (gw * gh)), .int ec, .int (nI (2 * (gw * gh))), .long ce, .ref ga])), (ga, .inr (1, [.int (nI gw), .long ar, .long ab])), (st, .inr (4, [.ref on, .ref off, .long mu, .long ba, .long bl, .long wh, .int to, .int (b2i wr)])), (on, .inr (1, [.int (nI gw), .long onr, .long onb])), (off, .inr (1, [.int (nI gw), .long ofr, .long ofb])), (lg, .inr (5, [.ref a1, .ref a2, .ref a3, .ref a4, .int (nI k)])), (a1, .inl (E.2 0, n, .inl nu)), (a2, .inl (E.2 0, n, .inl pl)), (a3, .inl (E.2 0, n, .inl en)), (a4, .inl (E.2 0, mm, .inl ch))], rfl, by rw [ht9]; exact hP, hD⟩, hS.F ht9⟩) hS.2.2 dX5_cell_69
  by_cases t_6_3 : d = 3
  · skip
    refine lv_tableIn (tgt := 70) hx hb dX5_cell_6 (by rw [t_6_3]; decide) (by rw [t_6_3]; decide) (by rw [t_6_3]; rfl) (by decide) ?_
    refine lv_aload_n hx hb dX5_cell_70 rfl (lv_at hl 0 rfl) ?_
    refine va_get (D := E.1) (ci := 6) (v := .ref g) (C := RX5) (T := TX5) (N := 7) hx hb hts hi_RX5 hown hE.1 hP 0 rfl rfl 0 (by decide) hf_18 (fun _ h9 => h9) rfl dX5_cell_71 ?_
    refine va_get (D := E.1) (ci := 2) (v := .ref ga) (C := RX1) (T := TX1) (N := 7) hx hb hts hi_RX1 hown hE.1 hP 1 rfl rfl 6 (by decide) hf_154 (fun _ h9 => h9) rfl dX5_cell_74 ?_
    refine lv_iload_n hx hb dX5_cell_77 rfl (lv_at hl 1 rfl) ?_
    refine crVi (As := [.int a]) (rest := []) ⟨hx, hb, hml, hown, hts⟩ hE (cX0_countAt_ct l E ga (nI gw) ar ab a) (cwV 1 hts gX5_cell_X0_countAt rfl rfl rfl (by decide +kernel) ⟨Nat.le_of_ble_eq_true rfl, Nat.le_of_ble_eq_true rfl⟩) (hP.sub (ws' := [(ga, .inr (1, [.int (nI gw), .long ar, .long ab]))]) [2] rfl) (va_recv hE.1 hP (ci := 1) (q0 := 2) rfl rfl) rfl hl.1 rfl (Nat.le_of_ble_eq_true rfl) dX5_cell_78 ⟨Nat.zero_le _, Nat.zero_le _⟩ ?_
    refine lv_aload_n hx hb dX5_cell_81 rfl (lv_at hl 0 rfl) ?_
    refine va_get (D := E.1) (ci := 6) (v := .ref st) (C := RX5) (T := TX5) (N := 7) hx hb hts hi_RX5 hown hE.1 hP 0 rfl rfl 1 (by decide) hf_27 (fun _ h9 => h9) rfl dX5_cell_82 ?_
    refine va_get (D := E.1) (ci := 4) (v := .ref on) (C := RX3) (T := TX3) (N := 8) hx hb hts hi_RX3 hown hE.1 hP 3 rfl rfl 0 (by decide) hf_145 (fun _ h9 => h9) rfl dX5_cell_85 ?_
    refine lv_iload_n hx hb dX5_cell_88 rfl (lv_at hl 1 rfl) ?_
    refine crVi (As := [.int a]) (rest := [.int (fCount (nI gw) ar ab a)]) ⟨hx, hb, hml, hown, hts⟩ hE (cX0_countAt_ct l E on (nI gw) onr onb a) (cwV 1 hts gX5_cell_X0_countAt rfl rfl rfl (by decide +kernel) ⟨Nat.le_of_ble_eq_true rfl, Nat.le_of_ble_eq_true rfl⟩) (hP.sub (ws' := [(on, .inr (1, [.int (nI gw), .long onr, .long onb]))]) [4] rfl) (va_recv hE.1 hP (ci := 1) (q0 := 4) rfl rfl) rfl hl.1 rfl (Nat.le_of_ble_eq_true rfl) dX5_cell_89 ⟨Nat.zero_le _, Nat.zero_le _⟩ ?_
    refine lv_isub hx hb dX5_cell_92 ?_
    refine lv_aload_n hx hb dX5_cell_93 rfl (lv_at hl 0 rfl) ?_
    refine va_get (D := E.1) (ci := 6) (v := .ref st) (C := RX5) (T := TX5) (N := 7) hx hb hts hi_RX5 hown hE.1 hP 0 rfl rfl 1 (by decide) hf_27 (fun _ h9 => h9) rfl dX5_cell_94 ?_
    refine va_get (D := E.1) (ci := 4) (v := .ref off) (C := RX3) (T := TX3) (N := 8) hx hb hts hi_RX3 hown hE.1 hP 3 rfl rfl 1 (by decide) hf_157 (fun _ h9 => h9) rfl dX5_cell_97 ?_
    refine lv_iload_n hx hb dX5_cell_100 rfl (lv_at hl 1 rfl) ?_
    refine crVi (As := [.int a]) (rest := [.int ((fCount (nI gw) ar ab a) - (fCount (nI gw) onr onb a))]) ⟨hx, hb, hml, hown, hts⟩ hE (cX0_countAt_ct l E off (nI gw) ofr ofb a) (cwV 1 hts gX5_cell_X0_countAt rfl rfl rfl (by decide +kernel) ⟨Nat.le_of_ble_eq_true rfl, Nat.le_of_ble_eq_true rfl⟩) (hP.sub (ws' := [(off, .inr (1, [.int (nI gw), .long ofr, .long ofb]))]) [5] rfl) (va_recv hE.1 hP (ci := 1) (q0 := 5) rfl rfl) rfl hl.1 rfl (Nat.le_of_ble_eq_true rfl) dX5_cell_101 ⟨Nat.zero_le _, Nat.zero_le _⟩ ?_
    refine lv_isub hx hb dX5_cell_104 ?_
    exact W.iret (v := ((fCount (nI gw) ar ab a) - (fCount (nI gw) onr onb a)) - (fCount (nI gw) ofr ofb a)) hx hb hr (fun t9 ht9 hW => ⟨⟨by subst t_6_3; rfl, [(lr, .inr (6, [.ref g, .ref st, .ref lg, .ref q, .ref ma, .ref sa, .int sd])), (g, .inr (2, [.int (nI gw), .int (nI gh), .int (nI (gw * gh)), .int ec, .int (nI (2 * (gw * gh))), .long ce, .ref ga])), (ga, .inr (1, [.int (nI gw), .long ar, .long ab])), (st, .inr (4, [.ref on, .ref off, .long mu, .long ba, .long bl, .long wh, .int to, .int (b2i wr)])), (on, .inr (1, [.int (nI gw), .long onr, .long onb])), (off, .inr (1, [.int (nI gw), .long ofr, .long ofb])), (lg, .inr (5, [.ref a1, .ref a2, .ref a3, .ref a4, .int (nI k)])), (a1, .inl (E.2 0, n, .inl nu)), (a2, .inl (E.2 0, n, .inl pl)), (a3, .inl (E.2 0, n, .inl en)), (a4, .inl (E.2 0, mm, .inl ch))], rfl, by rw [ht9]; exact hP, hD⟩, hS.F ht9⟩) hS.2.2 dX5_cell_105
  by_cases t_6_4 : d = 4
  · skip
    refine lv_tableIn (tgt := 106) hx hb dX5_cell_6 (by rw [t_6_4]; decide) (by rw [t_6_4]; decide) (by rw [t_6_4]; rfl) (by decide) ?_
    refine lv_aload_n hx hb dX5_cell_106 rfl (lv_at hl 0 rfl) ?_
    refine va_get (D := E.1) (ci := 6) (v := .ref lg) (C := RX5) (T := TX5) (N := 7) hx hb hts hi_RX5 hown hE.1 hP 0 rfl rfl 2 (by decide) hf_43 (fun _ h9 => h9) rfl dX5_cell_107 ?_
    refine lv_iload_n hx hb dX5_cell_110 rfl (lv_at hl 1 rfl) ?_
    refine lv_iconst (v := 1) hx hb dX5_cell_111 (by decide) ?_
    refine crVi (As := [.int a, .int 1]) (rest := []) ⟨hx, hb, hml, hown, hts⟩ hE (cX4_stepThatChanged_ct l E lg a1 a2 a3 a4 n mm nu pl en ch (nI k) hn hm a true) (cwV 2 hts gX5_cell_X4_stepThatChanged rfl rfl rfl (by decide +kernel) ⟨Nat.le_of_ble_eq_true rfl, Nat.le_of_ble_eq_true rfl⟩) (hP.sub (ws' := [(lg, .inr (5, [.ref a1, .ref a2, .ref a3, .ref a4, .int (nI k)])), (a1, .inl (E.2 0, n, .inl nu)), (a2, .inl (E.2 0, n, .inl pl)), (a3, .inl (E.2 0, n, .inl en)), (a4, .inl (E.2 0, mm, .inl ch))]) [6, 7, 8, 9, 10] rfl) (va_recv hE.1 hP (ci := 5) (q0 := 6) rfl rfl) rfl hl.1 rfl (Nat.le_of_ble_eq_true rfl) dX5_cell_112 ⟨Nat.zero_le _, Nat.zero_le _⟩ ?_
    exact W.iret (v := fStepTh (nI k) n mm nu en ch a true (nI k : Int32).toNatClampNeg 0) hx hb hr (fun t9 ht9 hW => ⟨⟨by subst t_6_4; rfl, [(lr, .inr (6, [.ref g, .ref st, .ref lg, .ref q, .ref ma, .ref sa, .int sd])), (g, .inr (2, [.int (nI gw), .int (nI gh), .int (nI (gw * gh)), .int ec, .int (nI (2 * (gw * gh))), .long ce, .ref ga])), (ga, .inr (1, [.int (nI gw), .long ar, .long ab])), (st, .inr (4, [.ref on, .ref off, .long mu, .long ba, .long bl, .long wh, .int to, .int (b2i wr)])), (on, .inr (1, [.int (nI gw), .long onr, .long onb])), (off, .inr (1, [.int (nI gw), .long ofr, .long ofb])), (lg, .inr (5, [.ref a1, .ref a2, .ref a3, .ref a4, .int (nI k)])), (a1, .inl (E.2 0, n, .inl nu)), (a2, .inl (E.2 0, n, .inl pl)), (a3, .inl (E.2 0, n, .inl en)), (a4, .inl (E.2 0, mm, .inl ch))], rfl, by rw [ht9]; exact hP, hD⟩, hS.F ht9⟩) hS.2.2 dX5_cell_115
  refine lv_tableOut (tgt := 116) hx hb dX5_cell_6 (by have q_0 := lv_neT t_6_0 (a := 0) rfl; have q_1 := lv_neT t_6_1 (a := 1) rfl; have q_2 := lv_neT t_6_2 (a := 2) rfl; have q_3 := lv_neT t_6_3 (a := 3) rfl; have q_4 := lv_neT t_6_4 (a := 4) rfl; omega) (by decide) ?_
  refine lv_iconst (v := (-1)) hx hb dX5_cell_116 (by decide) ?_
  exact W.iret (v := (-1)) hx hb hr (fun t9 ht9 hW => ⟨⟨by rw [if_neg t_6_0, if_neg t_6_1, if_neg t_6_2, if_neg t_6_3, if_neg t_6_4], [(lr, .inr (6, [.ref g, .ref st, .ref lg, .ref q, .ref ma, .ref sa, .int sd])), (g, .inr (2, [.int (nI gw), .int (nI gh), .int (nI (gw * gh)), .int ec, .int (nI (2 * (gw * gh))), .long ce, .ref ga])), (ga, .inr (1, [.int (nI gw), .long ar, .long ab])), (st, .inr (4, [.ref on, .ref off, .long mu, .long ba, .long bl, .long wh, .int to, .int (b2i wr)])), (on, .inr (1, [.int (nI gw), .long onr, .long onb])), (off, .inr (1, [.int (nI gw), .long ofr, .long ofb])), (lg, .inr (5, [.ref a1, .ref a2, .ref a3, .ref a4, .int (nI k)])), (a1, .inl (E.2 0, n, .inl nu)), (a2, .inl (E.2 0, n, .inl pl)), (a3, .inl (E.2 0, n, .inl en)), (a4, .inl (E.2 0, mm, .inl ch))], rfl, by rw [ht9]; exact hP, hD⟩, hS.F ht9⟩) hS.2.2 dX5_cell_117
set_option maxHeartbeats 4000000 in
set_option maxRecDepth 100000 in
theorem cX5_step_ct (l : Launch) (E : GE) (q : Nat) (g : Nat) (st : Nat) (lg : Nat) (a1 : Nat) (a2 : Nat) (a3 : Nat) (a4 : Nat) (n : Nat) (mm : Nat) (nu : Nat → Int32) (pl : Nat → Int32) (en : Nat → Int32) (ch : Nat → Int32) (k : Nat) (lr : Nat) (ma : Nat) (sa : Nat) (sd : Int32) (a d : Int32) (h0 : ¬ a < 0) (h1 : a < nI k) (h2 : 0 ≤ d) (hn : n < 2 ^ 31) (hm : mm < 2 ^ 31) : rdI l yX5_step wsX5_step ({ frames := 3, cells := 0, slots := 0, locals := 65 }) E [.ref lr, .int a, .int d] [(lr, .inr (6, [.ref g, .ref st, .ref lg, .ref q, .ref ma, .ref sa, .int sd])), (lg, .inr (5, [.ref a1, .ref a2, .ref a3, .ref a4, .int (nI k)])), (a1, .inl (E.2 0, n, .inl nu)), (a2, .inl (E.2 0, n, .inl pl)), (a3, .inl (E.2 0, n, .inl en)), (a4, .inl (E.2 0, mm, .inl ch))] (if d = 0 then fNumberOf (nI k) n nu a else if d = 1 then fNumberOf (nI k) n pl a else if d = 2 then fChanges (nI k) n en a else fChange (nI k) n mm en ch a (d - 3)) := by
  refine Met.ofW (cc := cX5_step) (maxL := 3) (ret := (some .int)) (by decide) rfl ?_
  intro p e s m args below meth c s₁ B hml hv
  obtain ⟨rfl, hE, hP⟩ := hv
  have hx := B.exec
  have hb := B.bytes
  have hr := B.returns
  have hts := atoms_spec (ws := wsX5_step) B.pre
  have hown : s.vm.findClass RX5 = some m.cls := findClass_of_methodNamed B.named
  have hlocks := B.notSynchronized
  have hP : va_P E.1 vwCl [(lr, .inr (6, [.ref g, .ref st, .ref lg, .ref q, .ref ma, .ref sa, .int sd])), (lg, .inr (5, [.ref a1, .ref a2, .ref a3, .ref a4, .int (nI k)])), (a1, .inl (E.2 0, n, .inl nu)), (a2, .inl (E.2 0, n, .inl pl)), (a3, .inl (E.2 0, n, .inl en)), (a4, .inl (E.2 0, mm, .inl ch))] s.heap := hP
  have hl := lv_entry ([.ref lr, .int a, .int d]) (n := 3) (Nat.le_of_ble_eq_true rfl)
  rw [lg_entry_eq]
  generalize (lg_sl ([.ref lr, .int a, .int d]) ++ List.replicate (3 - (lg_sl ([.ref lr, .int a, .int d])).length) Slot.unset).toArray = ls at hl ⊢
  have hl : lv_has ls 3 [(0, .ref lr), (1, .int a), (2, .int d)] := hl
  have hf_114 := hts (.fieldLink RX5 114 "LoopRegions$StepLog" "count" "I") (by decide +kernel)
  have hf_43 := hts (.fieldLink RX5 43 "LoopRegions" "log" "LLoopRegions$StepLog;") (by decide +kernel)
  have hi_RX4 : ∀ w ∈ wsX40, w ∈ wsX5_step := by decide +kernel
  have hi_RX5 : ∀ w ∈ wsX50, w ∈ wsX5_step := by decide +kernel
  refine lv_iload_n hx hb dX5_step_0 rfl (lv_at hl 1 rfl) ?_
  refine lv_if_lt (tgt := 15) hx hb dX5_step_1 (by decide) (fun c_1 => ?_) (fun c_1 => ?_)
  · skip
    exact absurd c_1 h0
  · skip
    refine lv_iload_n hx hb dX5_step_4 rfl (lv_at hl 1 rfl) ?_
    refine lv_aload_n hx hb dX5_step_5 rfl (lv_at hl 0 rfl) ?_
    refine va_get (D := E.1) (ci := 6) (v := .ref lg) (C := RX5) (T := TX5) (N := 7) hx hb hts hi_RX5 hown hE.1 hP 0 rfl rfl 2 (by decide) hf_43 (fun _ h9 => h9) rfl dX5_step_6 ?_
    refine va_get (D := E.1) (ci := 5) (v := .int (nI k)) (C := RX4) (T := TX4) (N := 5) hx hb hts hi_RX4 hown hE.1 hP 1 rfl rfl 4 (by decide) hf_114 (fun _ h9 => h9) rfl dX5_step_9 ?_
    refine lv_icmp_lt (tgt := 25) hx hb dX5_step_12 (by decide) (fun c_12 => ?_) (fun c_12 => ?_)
    · skip
      refine lv_iload_n hx hb dX5_step_25 rfl (lv_at hl 2 rfl) ?_
      refine lv_if_ge (tgt := 39) hx hb dX5_step_26 (by decide) (fun c_26 => ?_) (fun c_26 => ?_)
      · skip
        refine lv_iload_n hx hb dX5_step_39 rfl (lv_at hl 2 rfl) ?_
        by_cases t_40_0 : d = 0
        · skip
          refine lv_tableIn (tgt := 68) hx hb dX5_step_40 (by rw [t_40_0]; decide) (by rw [t_40_0]; decide) (by rw [t_40_0]; rfl) (by decide) ?_
          refine lv_aload_n hx hb dX5_step_68 rfl (lv_at hl 0 rfl) ?_
          refine va_get (D := E.1) (ci := 6) (v := .ref lg) (C := RX5) (T := TX5) (N := 7) hx hb hts hi_RX5 hown hE.1 hP 0 rfl rfl 2 (by decide) hf_43 (fun _ h9 => h9) rfl dX5_step_69 ?_
          refine lv_iload_n hx hb dX5_step_72 rfl (lv_at hl 1 rfl) ?_
          refine crVi (As := [.int a]) (rest := []) ⟨hx, hb, hml, hown, hts⟩ hE (cX4_numberOf_ct l E lg a1 a2 a3 a4 n mm nu pl en ch (nI k) hn a) (cwV 1 hts gX5_step_X4_numberOf rfl rfl rfl (by decide +kernel) ⟨Nat.le_of_ble_eq_true rfl, Nat.le_of_ble_eq_true rfl⟩) (hP.sub (ws' := [(lg, .inr (5, [.ref a1, .ref a2, .ref a3, .ref a4, .int (nI k)])), (a1, .inl (E.2 0, n, .inl nu)), (a2, .inl (E.2 0, n, .inl pl)), (a3, .inl (E.2 0, n, .inl en)), (a4, .inl (E.2 0, mm, .inl ch))]) [1, 2, 3, 4, 5] rfl) (va_recv hE.1 hP (ci := 5) (q0 := 1) rfl rfl) rfl hl.1 rfl (Nat.le_of_ble_eq_true rfl) dX5_step_73 ⟨Nat.zero_le _, Nat.zero_le _⟩ ?_
          exact W.iret (v := fNumberOf (nI k) n nu a) hx hb hr (fun t9 ht9 _ => ⟨fNumberOf (nI k) n nu a, rfl, by subst t_40_0; rfl, ht9⟩) (fun q h => absurd h List.not_mem_nil) dX5_step_76
        by_cases t_40_1 : d = 1
        · skip
          refine lv_tableIn (tgt := 77) hx hb dX5_step_40 (by rw [t_40_1]; decide) (by rw [t_40_1]; decide) (by rw [t_40_1]; rfl) (by decide) ?_
          refine lv_aload_n hx hb dX5_step_77 rfl (lv_at hl 0 rfl) ?_
          refine va_get (D := E.1) (ci := 6) (v := .ref lg) (C := RX5) (T := TX5) (N := 7) hx hb hts hi_RX5 hown hE.1 hP 0 rfl rfl 2 (by decide) hf_43 (fun _ h9 => h9) rfl dX5_step_78 ?_
          refine lv_iload_n hx hb dX5_step_81 rfl (lv_at hl 1 rfl) ?_
          refine crVi (As := [.int a]) (rest := []) ⟨hx, hb, hml, hown, hts⟩ hE (cX4_placeOf_ct l E lg a1 a2 a3 a4 n mm nu pl en ch (nI k) hn a) (cwV 1 hts gX5_step_X4_placeOf rfl rfl rfl (by decide +kernel) ⟨Nat.le_of_ble_eq_true rfl, Nat.le_of_ble_eq_true rfl⟩) (hP.sub (ws' := [(lg, .inr (5, [.ref a1, .ref a2, .ref a3, .ref a4, .int (nI k)])), (a1, .inl (E.2 0, n, .inl nu)), (a2, .inl (E.2 0, n, .inl pl)), (a3, .inl (E.2 0, n, .inl en)), (a4, .inl (E.2 0, mm, .inl ch))]) [1, 2, 3, 4, 5] rfl) (va_recv hE.1 hP (ci := 5) (q0 := 1) rfl rfl) rfl hl.1 rfl (Nat.le_of_ble_eq_true rfl) dX5_step_82 ⟨Nat.zero_le _, Nat.zero_le _⟩ ?_
          exact W.iret (v := fNumberOf (nI k) n pl a) hx hb hr (fun t9 ht9 _ => ⟨fNumberOf (nI k) n pl a, rfl, by subst t_40_1; rfl, ht9⟩) (fun q h => absurd h List.not_mem_nil) dX5_step_85
        by_cases t_40_2 : d = 2
        · skip
          refine lv_tableIn (tgt := 86) hx hb dX5_step_40 (by rw [t_40_2]; decide) (by rw [t_40_2]; decide) (by rw [t_40_2]; rfl) (by decide) ?_
          refine lv_aload_n hx hb dX5_step_86 rfl (lv_at hl 0 rfl) ?_
          refine va_get (D := E.1) (ci := 6) (v := .ref lg) (C := RX5) (T := TX5) (N := 7) hx hb hts hi_RX5 hown hE.1 hP 0 rfl rfl 2 (by decide) hf_43 (fun _ h9 => h9) rfl dX5_step_87 ?_
          refine lv_iload_n hx hb dX5_step_90 rfl (lv_at hl 1 rfl) ?_
          refine crVi (As := [.int a]) (rest := []) ⟨hx, hb, hml, hown, hts⟩ hE (cX4_changesOf_ct l E lg a1 a2 a3 a4 n mm nu pl en ch (nI k) hn a) (cwV 1 hts gX5_step_X4_changesOf rfl rfl rfl (by decide +kernel) ⟨Nat.le_of_ble_eq_true rfl, Nat.le_of_ble_eq_true rfl⟩) (hP.sub (ws' := [(lg, .inr (5, [.ref a1, .ref a2, .ref a3, .ref a4, .int (nI k)])), (a1, .inl (E.2 0, n, .inl nu)), (a2, .inl (E.2 0, n, .inl pl)), (a3, .inl (E.2 0, n, .inl en)), (a4, .inl (E.2 0, mm, .inl ch))]) [1, 2, 3, 4, 5] rfl) (va_recv hE.1 hP (ci := 5) (q0 := 1) rfl rfl) rfl hl.1 rfl (Nat.le_of_ble_eq_true rfl) dX5_step_91 ⟨Nat.zero_le _, Nat.zero_le _⟩ ?_
          exact W.iret (v := fChanges (nI k) n en a) hx hb hr (fun t9 ht9 _ => ⟨fChanges (nI k) n en a, rfl, by subst t_40_2; rfl, ht9⟩) (fun q h => absurd h List.not_mem_nil) dX5_step_94
        refine lv_tableOut (tgt := 95) hx hb dX5_step_40 (by have q_0 := lv_neT t_40_0 (a := 0) rfl; have q_1 := lv_neT t_40_1 (a := 1) rfl; have q_2 := lv_neT t_40_2 (a := 2) rfl; omega) (by decide) ?_
        refine lv_aload_n hx hb dX5_step_95 rfl (lv_at hl 0 rfl) ?_
        refine va_get (D := E.1) (ci := 6) (v := .ref lg) (C := RX5) (T := TX5) (N := 7) hx hb hts hi_RX5 hown hE.1 hP 0 rfl rfl 2 (by decide) hf_43 (fun _ h9 => h9) rfl dX5_step_96 ?_
        refine lv_iload_n hx hb dX5_step_99 rfl (lv_at hl 1 rfl) ?_
        refine lv_iload_n hx hb dX5_step_100 rfl (lv_at hl 2 rfl) ?_
        refine lv_iconst (v := 3) hx hb dX5_step_101 (by decide) ?_
        refine lv_isub hx hb dX5_step_102 ?_
        refine crVi (As := [.int a, .int (d - 3)]) (rest := []) ⟨hx, hb, hml, hown, hts⟩ hE (cX4_changeOf_ct l E lg a1 a2 a3 a4 n mm nu pl en ch (nI k) hn hm a (d - 3)) (cwV 2 hts gX5_step_X4_changeOf rfl rfl rfl (by decide +kernel) ⟨Nat.le_of_ble_eq_true rfl, Nat.le_of_ble_eq_true rfl⟩) (hP.sub (ws' := [(lg, .inr (5, [.ref a1, .ref a2, .ref a3, .ref a4, .int (nI k)])), (a1, .inl (E.2 0, n, .inl nu)), (a2, .inl (E.2 0, n, .inl pl)), (a3, .inl (E.2 0, n, .inl en)), (a4, .inl (E.2 0, mm, .inl ch))]) [1, 2, 3, 4, 5] rfl) (va_recv hE.1 hP (ci := 5) (q0 := 1) rfl rfl) rfl hl.1 rfl (Nat.le_of_ble_eq_true rfl) dX5_step_103 ⟨Nat.zero_le _, Nat.zero_le _⟩ ?_
        exact W.iret (v := fChange (nI k) n mm en ch a (d - 3)) hx hb hr (fun t9 ht9 _ => ⟨fChange (nI k) n mm en ch a (d - 3), rfl, by show _ = if _ then _ else _; rw [if_neg t_40_0, if_neg t_40_1, if_neg t_40_2], ht9⟩) (fun q h => absurd h List.not_mem_nil) dX5_step_106
      · skip
        exact absurd h2 c_26
    · skip
      exact absurd h1 c_12
