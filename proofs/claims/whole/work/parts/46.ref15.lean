theorem rIsE_some {gw gh : Nat} {a : Int32} (hg : gw ≤ 8) (hh : gh ≤ 8) (h : rIsE gw gh a = true) : ∃ j, j < 128 ∧ a = nI j ∧ isEn gw gh j = true := by
  unfold rIsE at h
  by_cases h0 : a < 0
  · rw [if_pos h0] at h; cases h
  · rw [if_neg h0] at h
    obtain ⟨j, hj, rfl⟩ := nI_of h0
    rw [nI_clamp hj] at h
    have hN : gw * gh ≤ 64 := Nat.mul_le_mul hg hh
    have hl := isEn_lt h
    exact ⟨j, by omega, rfl, h⟩
theorem rIsC_some {gw gh : Nat} {a : Int32} (hN : gw * gh ≤ 64) (h : rIsC gw gh a = true) : ∃ j, j < gw * gh ∧ a = nI j := by
  simp only [rIsC, Bool.and_eq_true, decide_eq_true_eq] at h
  obtain ⟨j, hj, rfl⟩ := nI_of h.1
  refine ⟨j, ?_, rfl⟩
  rcases Nat.lt_or_ge j (gw * gh) with q | q
  · exact q
  · exact absurd (nI_le q hj) h.2
set_option maxHeartbeats 4000000 in
set_option maxRecDepth 100000 in
theorem cX6_size_ct (l : Launch) (E : GE) (sz : Nat) (q : Nat) (y1 : Nat) (y2 : Nat) (y3 : Nat) (y4 : Nat) (y5 : Nat) (y6 : Nat) (y7 : Nat) (y8 : Nat) (y9 : Nat) (y10 : Nat) (y11 : Nat) (y12 : Nat) (y13 : Nat) (y14 : Nat) (y15 : Nat) (y16 : Nat) (y17 : Nat) (y18 : Nat) (gw : Nat) (gh : Nat) (th : Int32) (to : Int32) (wr : Bool) (k : Nat) (mk : Nat)   : wrM l yX6_size wsX6_size ({ frames := 1, cells := 0, slots := 0, locals := 20 }) E sz [.ref q] [(q, .inr (7, [.int th, .int (nI gw), .int (nI gh), .ref y1, .ref y2, .ref y3, .int to, .int (b2i wr), .ref y4, .ref y5, .int (nI k), .ref y6, .ref y7, .ref y8, .ref y9, .int (nI mk), .ref y10, .ref y11, .ref y12, .ref y13, .ref y14, .ref y15, .ref y16, .ref y17, .ref y18]))] (some (.int (nI (gw * gh)))) (fun cs' => cs' = [(q, .inr (7, [.int 0, .int (nI gw), .int (nI gh), .ref y1, .ref y2, .ref y3, .int to, .int (b2i wr), .ref y4, .ref y5, .int (nI k), .ref y6, .ref y7, .ref y8, .ref y9, .int (nI mk), .ref y10, .ref y11, .ref y12, .ref y13, .ref y14, .ref y15, .ref y16, .ref y17, .ref y18]))]) 0 0 := by
  refine Met.ofW (cc := cX6_size) (maxL := 1) (ret := (some .int)) (by decide) rfl ?_
  intro p e s m args below meth c s₁ B hml hv
  obtain ⟨rfl, hsz, hE, hP, hD0⟩ := hv
  have hx := B.exec
  have hb := B.bytes
  have hr := B.returns
  have hts := atoms_spec (ws := wsX6_size) B.pre
  have hown : s.vm.findClass RX6 = some m.cls := findClass_of_methodNamed B.named
  have hlocks := B.notSynchronized
  subst hsz
  have hD := hD0.self (sz := s.heap.size)
  generalize hAe : va_A [(q, .inr (7, [.int th, .int (nI gw), .int (nI gh), .ref y1, .ref y2, .ref y3, .int to, .int (b2i wr), .ref y4, .ref y5, .int (nI k), .ref y6, .ref y7, .ref y8, .ref y9, .int (nI mk), .ref y10, .ref y11, .ref y12, .ref y13, .ref y14, .ref y15, .ref y16, .ref y17, .ref y18]))] s.heap.size = A at hD ⊢
  have hA : ∀ q : Nat, s.heap.size ≤ q → A q := fun q h => by rw [← hAe]; exact Or.inr h
  have hS : va_S A s.heap s.heap [] := va_S.rf
  have hP : va_P E.1 vwCl [(q, .inr (7, [.int th, .int (nI gw), .int (nI gh), .ref y1, .ref y2, .ref y3, .int to, .int (b2i wr), .ref y4, .ref y5, .int (nI k), .ref y6, .ref y7, .ref y8, .ref y9, .int (nI mk), .ref y10, .ref y11, .ref y12, .ref y13, .ref y14, .ref y15, .ref y16, .ref y17, .ref y18]))] s.heap := hP
  have hl := lv_entry ([.ref q]) (n := 1) (Nat.le_of_ble_eq_true rfl)
  rw [lg_entry_eq]
  generalize (lg_sl ([.ref q]) ++ List.replicate (1 - (lg_sl ([.ref q])).length) Slot.unset).toArray = ls at hl ⊢
  have hl : lv_has ls 1 [(0, .ref q)] := hl
  have hf_75 := hts (.fieldLink RX6 75 "LoopRegionsModel" "thrown" "I") (by decide +kernel)
  have hi_RX6 : ∀ w ∈ wsX60, w ∈ wsX6_size := by decide +kernel
  refine lv_aload_n hx hb dX6_size_0 rfl (lv_at hl 0 rfl) ?_
  refine lv_iconst (v := 0) hx hb dX6_size_1 (by decide) ?_
  refine va_put (D := E.1) (ci := 7) (v := .int 0) (ty := .int) (C := RX6) (T := TX6) (N := 25) hx hb hts hi_RX6 tyX6 tyX6_ok nmX6 hown hE.1 hP hD hS 0 rfl rfl 0 (by decide) hf_75 (fun _ h9 => h9) rfl (by decide +kernel) (rfl) (rfl) (Nat.le_of_ble_eq_true rfl) dX6_size_2 (fun H locs hP hD hS => ?_)
  have hP : va_P E.1 vwCl [(q, .inr (7, [.int 0, .int (nI gw), .int (nI gh), .ref y1, .ref y2, .ref y3, .int to, .int (b2i wr), .ref y4, .ref y5, .int (nI k), .ref y6, .ref y7, .ref y8, .ref y9, .int (nI mk), .ref y10, .ref y11, .ref y12, .ref y13, .ref y14, .ref y15, .ref y16, .ref y17, .ref y18]))] H := hP
  have hD : va_D A [(q, .inr (7, [.int 0, .int (nI gw), .int (nI gh), .ref y1, .ref y2, .ref y3, .int to, .int (b2i wr), .ref y4, .ref y5, .int (nI k), .ref y6, .ref y7, .ref y8, .ref y9, .int (nI mk), .ref y10, .ref y11, .ref y12, .ref y13, .ref y14, .ref y15, .ref y16, .ref y17, .ref y18]))] := hD
  refine lv_aload_n hx hb dX6_size_5 rfl (lv_at hl 0 rfl) ?_
  refine crVi (As := []) (rest := []) ⟨hx, hb, hml, hown, hts⟩ hE (cX6_all_ct l E q y1 y2 y3 y4 y5 y6 y7 y8 y9 y10 y11 y12 y13 y14 y15 y16 y17 y18 gw gh 0 to wr k mk) (cwV 0 hts gX6_size_X6_all rfl rfl rfl (by decide +kernel) ⟨Nat.le_of_ble_eq_true rfl, Nat.le_of_ble_eq_true rfl⟩) (hP.sub (ws' := [(q, .inr (7, [.int 0, .int (nI gw), .int (nI gh), .ref y1, .ref y2, .ref y3, .int to, .int (b2i wr), .ref y4, .ref y5, .int (nI k), .ref y6, .ref y7, .ref y8, .ref y9, .int (nI mk), .ref y10, .ref y11, .ref y12, .ref y13, .ref y14, .ref y15, .ref y16, .ref y17, .ref y18]))]) [0] rfl) (va_recv hE.1 hP (ci := 7) (q0 := 0) rfl rfl) rfl hl.1 rfl (Nat.le_of_ble_eq_true rfl) dX6_size_6 ⟨Nat.zero_le _, Nat.zero_le _⟩ ?_
  exact W.iret (v := nI (gw * gh)) hx hb hr (fun t9 ht9 hW => ⟨⟨rfl, [(q, .inr (7, [.int 0, .int (nI gw), .int (nI gh), .ref y1, .ref y2, .ref y3, .int to, .int (b2i wr), .ref y4, .ref y5, .int (nI k), .ref y6, .ref y7, .ref y8, .ref y9, .int (nI mk), .ref y10, .ref y11, .ref y12, .ref y13, .ref y14, .ref y15, .ref y16, .ref y17, .ref y18]))], rfl, by rw [ht9]; exact hP, hD⟩, hS.F ht9⟩) hS.2.2 dX6_size_9
set_option maxHeartbeats 4000000 in
set_option maxRecDepth 100000 in
theorem cX6_wrong_ct (l : Launch) (E : GE) (sz : Nat) (q : Nat) (y1 : Nat) (y2 : Nat) (y3 : Nat) (y4 : Nat) (y5 : Nat) (y6 : Nat) (y7 : Nat) (y8 : Nat) (y9 : Nat) (y10 : Nat) (y11 : Nat) (y12 : Nat) (y13 : Nat) (y14 : Nat) (y15 : Nat) (y16 : Nat) (y17 : Nat) (y18 : Nat) (gw : Nat) (gh : Nat) (th : Int32) (to : Int32) (wr : Bool) (k : Nat) (mk : Nat)   : wrM l yX6_wrong wsX6_wrong ({ frames := 0, cells := 0, slots := 0, locals := 0 }) E sz [.ref q] [(q, .inr (7, [.int th, .int (nI gw), .int (nI gh), .ref y1, .ref y2, .ref y3, .int to, .int (b2i wr), .ref y4, .ref y5, .int (nI k), .ref y6, .ref y7, .ref y8, .ref y9, .int (nI mk), .ref y10, .ref y11, .ref y12, .ref y13, .ref y14, .ref y15, .ref y16, .ref y17, .ref y18]))] (some (.int (b2i wr))) (fun cs' => cs' = [(q, .inr (7, [.int 0, .int (nI gw), .int (nI gh), .ref y1, .ref y2, .ref y3, .int to, .int (b2i wr), .ref y4, .ref y5, .int (nI k), .ref y6, .ref y7, .ref y8, .ref y9, .int (nI mk), .ref y10, .ref y11, .ref y12, .ref y13, .ref y14, .ref y15, .ref y16, .ref y17, .ref y18]))]) 0 0 := by
  refine Met.ofW (cc := cX6_wrong) (maxL := 1) (ret := (some .boolean)) (by decide) rfl ?_
  intro p e s m args below meth c s₁ B hml hv
  obtain ⟨rfl, hsz, hE, hP, hD0⟩ := hv
  have hx := B.exec
  have hb := B.bytes
  have hr := B.returns
  have hts := atoms_spec (ws := wsX6_wrong) B.pre
  have hown : s.vm.findClass RX6 = some m.cls := findClass_of_methodNamed B.named
  have hlocks := B.notSynchronized
  subst hsz
  have hD := hD0.self (sz := s.heap.size)
  generalize hAe : va_A [(q, .inr (7, [.int th, .int (nI gw), .int (nI gh), .ref y1, .ref y2, .ref y3, .int to, .int (b2i wr), .ref y4, .ref y5, .int (nI k), .ref y6, .ref y7, .ref y8, .ref y9, .int (nI mk), .ref y10, .ref y11, .ref y12, .ref y13, .ref y14, .ref y15, .ref y16, .ref y17, .ref y18]))] s.heap.size = A at hD ⊢
  have hA : ∀ q : Nat, s.heap.size ≤ q → A q := fun q h => by rw [← hAe]; exact Or.inr h
  have hS : va_S A s.heap s.heap [] := va_S.rf
  have hP : va_P E.1 vwCl [(q, .inr (7, [.int th, .int (nI gw), .int (nI gh), .ref y1, .ref y2, .ref y3, .int to, .int (b2i wr), .ref y4, .ref y5, .int (nI k), .ref y6, .ref y7, .ref y8, .ref y9, .int (nI mk), .ref y10, .ref y11, .ref y12, .ref y13, .ref y14, .ref y15, .ref y16, .ref y17, .ref y18]))] s.heap := hP
  have hl := lv_entry ([.ref q]) (n := 1) (Nat.le_of_ble_eq_true rfl)
  rw [lg_entry_eq]
  generalize (lg_sl ([.ref q]) ++ List.replicate (1 - (lg_sl ([.ref q])).length) Slot.unset).toArray = ls at hl ⊢
  have hl : lv_has ls 1 [(0, .ref q)] := hl
  have hf_75 := hts (.fieldLink RX6 75 "LoopRegionsModel" "thrown" "I") (by decide +kernel)
  have hf_98 := hts (.fieldLink RX6 98 "LoopRegionsModel" "isWrong" "Z") (by decide +kernel)
  have hi_RX6 : ∀ w ∈ wsX60, w ∈ wsX6_wrong := by decide +kernel
  refine lv_aload_n hx hb dX6_wrong_0 rfl (lv_at hl 0 rfl) ?_
  refine lv_iconst (v := 0) hx hb dX6_wrong_1 (by decide) ?_
  refine va_put (D := E.1) (ci := 7) (v := .int 0) (ty := .int) (C := RX6) (T := TX6) (N := 25) hx hb hts hi_RX6 tyX6 tyX6_ok nmX6 hown hE.1 hP hD hS 0 rfl rfl 0 (by decide) hf_75 (fun _ h9 => h9) rfl (by decide +kernel) (rfl) (rfl) (Nat.le_of_ble_eq_true rfl) dX6_wrong_2 (fun H locs hP hD hS => ?_)
  have hP : va_P E.1 vwCl [(q, .inr (7, [.int 0, .int (nI gw), .int (nI gh), .ref y1, .ref y2, .ref y3, .int to, .int (b2i wr), .ref y4, .ref y5, .int (nI k), .ref y6, .ref y7, .ref y8, .ref y9, .int (nI mk), .ref y10, .ref y11, .ref y12, .ref y13, .ref y14, .ref y15, .ref y16, .ref y17, .ref y18]))] H := hP
  have hD : va_D A [(q, .inr (7, [.int 0, .int (nI gw), .int (nI gh), .ref y1, .ref y2, .ref y3, .int to, .int (b2i wr), .ref y4, .ref y5, .int (nI k), .ref y6, .ref y7, .ref y8, .ref y9, .int (nI mk), .ref y10, .ref y11, .ref y12, .ref y13, .ref y14, .ref y15, .ref y16, .ref y17, .ref y18]))] := hD
  refine lv_aload_n hx hb dX6_wrong_5 rfl (lv_at hl 0 rfl) ?_
  refine va_get (D := E.1) (ci := 7) (v := .int (b2i wr)) (C := RX6) (T := TX6) (N := 25) hx hb hts hi_RX6 hown hE.1 hP 0 rfl rfl 7 (by decide) hf_98 (fun _ h9 => h9) rfl dX6_wrong_6 ?_
  exact W.zret (v := b2i wr) hx hb hr (by first | exact b2i_nar _ | (subst_vars; exact b2i_nar _)) (fun t9 ht9 hW => ⟨⟨rfl, [(q, .inr (7, [.int 0, .int (nI gw), .int (nI gh), .ref y1, .ref y2, .ref y3, .int to, .int (b2i wr), .ref y4, .ref y5, .int (nI k), .ref y6, .ref y7, .ref y8, .ref y9, .int (nI mk), .ref y10, .ref y11, .ref y12, .ref y13, .ref y14, .ref y15, .ref y16, .ref y17, .ref y18]))], rfl, by rw [ht9]; exact hP, hD⟩, hS.F ht9⟩) hS.2.2 dX6_wrong_9
set_option maxHeartbeats 4000000 in
set_option maxRecDepth 100000 in
theorem cX6_steps_ct (l : Launch) (E : GE) (sz : Nat) (q : Nat) (y1 : Nat) (y2 : Nat) (y3 : Nat) (y4 : Nat) (y5 : Nat) (y6 : Nat) (y7 : Nat) (y8 : Nat) (y9 : Nat) (y10 : Nat) (y11 : Nat) (y12 : Nat) (y13 : Nat) (y14 : Nat) (y15 : Nat) (y16 : Nat) (y17 : Nat) (y18 : Nat) (gw : Nat) (gh : Nat) (th : Int32) (to : Int32) (wr : Bool) (k : Nat) (mk : Nat)   : wrM l yX6_steps wsX6_steps ({ frames := 0, cells := 0, slots := 0, locals := 0 }) E sz [.ref q] [(q, .inr (7, [.int th, .int (nI gw), .int (nI gh), .ref y1, .ref y2, .ref y3, .int to, .int (b2i wr), .ref y4, .ref y5, .int (nI k), .ref y6, .ref y7, .ref y8, .ref y9, .int (nI mk), .ref y10, .ref y11, .ref y12, .ref y13, .ref y14, .ref y15, .ref y16, .ref y17, .ref y18]))] (some (.int (nI k))) (fun cs' => cs' = [(q, .inr (7, [.int 0, .int (nI gw), .int (nI gh), .ref y1, .ref y2, .ref y3, .int to, .int (b2i wr), .ref y4, .ref y5, .int (nI k), .ref y6, .ref y7, .ref y8, .ref y9, .int (nI mk), .ref y10, .ref y11, .ref y12, .ref y13, .ref y14, .ref y15, .ref y16, .ref y17, .ref y18]))]) 0 0 := by
  refine Met.ofW (cc := cX6_steps) (maxL := 1) (ret := (some .int)) (by decide) rfl ?_
  intro p e s m args below meth c s₁ B hml hv
  obtain ⟨rfl, hsz, hE, hP, hD0⟩ := hv
  have hx := B.exec
  have hb := B.bytes
  have hr := B.returns
  have hts := atoms_spec (ws := wsX6_steps) B.pre
  have hown : s.vm.findClass RX6 = some m.cls := findClass_of_methodNamed B.named
  have hlocks := B.notSynchronized
  subst hsz
  have hD := hD0.self (sz := s.heap.size)
  generalize hAe : va_A [(q, .inr (7, [.int th, .int (nI gw), .int (nI gh), .ref y1, .ref y2, .ref y3, .int to, .int (b2i wr), .ref y4, .ref y5, .int (nI k), .ref y6, .ref y7, .ref y8, .ref y9, .int (nI mk), .ref y10, .ref y11, .ref y12, .ref y13, .ref y14, .ref y15, .ref y16, .ref y17, .ref y18]))] s.heap.size = A at hD ⊢
  have hA : ∀ q : Nat, s.heap.size ≤ q → A q := fun q h => by rw [← hAe]; exact Or.inr h
  have hS : va_S A s.heap s.heap [] := va_S.rf
  have hP : va_P E.1 vwCl [(q, .inr (7, [.int th, .int (nI gw), .int (nI gh), .ref y1, .ref y2, .ref y3, .int to, .int (b2i wr), .ref y4, .ref y5, .int (nI k), .ref y6, .ref y7, .ref y8, .ref y9, .int (nI mk), .ref y10, .ref y11, .ref y12, .ref y13, .ref y14, .ref y15, .ref y16, .ref y17, .ref y18]))] s.heap := hP
  have hl := lv_entry ([.ref q]) (n := 1) (Nat.le_of_ble_eq_true rfl)
  rw [lg_entry_eq]
  generalize (lg_sl ([.ref q]) ++ List.replicate (1 - (lg_sl ([.ref q])).length) Slot.unset).toArray = ls at hl ⊢
  have hl : lv_has ls 1 [(0, .ref q)] := hl
  have hf_105 := hts (.fieldLink RX6 105 "LoopRegionsModel" "steps" "I") (by decide +kernel)
  have hf_75 := hts (.fieldLink RX6 75 "LoopRegionsModel" "thrown" "I") (by decide +kernel)
  have hi_RX6 : ∀ w ∈ wsX60, w ∈ wsX6_steps := by decide +kernel
  refine lv_aload_n hx hb dX6_steps_0 rfl (lv_at hl 0 rfl) ?_
  refine lv_iconst (v := 0) hx hb dX6_steps_1 (by decide) ?_
  refine va_put (D := E.1) (ci := 7) (v := .int 0) (ty := .int) (C := RX6) (T := TX6) (N := 25) hx hb hts hi_RX6 tyX6 tyX6_ok nmX6 hown hE.1 hP hD hS 0 rfl rfl 0 (by decide) hf_75 (fun _ h9 => h9) rfl (by decide +kernel) (rfl) (rfl) (Nat.le_of_ble_eq_true rfl) dX6_steps_2 (fun H locs hP hD hS => ?_)
  have hP : va_P E.1 vwCl [(q, .inr (7, [.int 0, .int (nI gw), .int (nI gh), .ref y1, .ref y2, .ref y3, .int to, .int (b2i wr), .ref y4, .ref y5, .int (nI k), .ref y6, .ref y7, .ref y8, .ref y9, .int (nI mk), .ref y10, .ref y11, .ref y12, .ref y13, .ref y14, .ref y15, .ref y16, .ref y17, .ref y18]))] H := hP
  have hD : va_D A [(q, .inr (7, [.int 0, .int (nI gw), .int (nI gh), .ref y1, .ref y2, .ref y3, .int to, .int (b2i wr), .ref y4, .ref y5, .int (nI k), .ref y6, .ref y7, .ref y8, .ref y9, .int (nI mk), .ref y10, .ref y11, .ref y12, .ref y13, .ref y14, .ref y15, .ref y16, .ref y17, .ref y18]))] := hD
  refine lv_aload_n hx hb dX6_steps_5 rfl (lv_at hl 0 rfl) ?_
  refine va_get (D := E.1) (ci := 7) (v := .int (nI k)) (C := RX6) (T := TX6) (N := 25) hx hb hts hi_RX6 hown hE.1 hP 0 rfl rfl 10 (by decide) hf_105 (fun _ h9 => h9) rfl dX6_steps_6 ?_
  exact W.iret (v := nI k) hx hb hr (fun t9 ht9 hW => ⟨⟨rfl, [(q, .inr (7, [.int 0, .int (nI gw), .int (nI gh), .ref y1, .ref y2, .ref y3, .int to, .int (b2i wr), .ref y4, .ref y5, .int (nI k), .ref y6, .ref y7, .ref y8, .ref y9, .int (nI mk), .ref y10, .ref y11, .ref y12, .ref y13, .ref y14, .ref y15, .ref y16, .ref y17, .ref y18]))], rfl, by rw [ht9]; exact hP, hD⟩, hS.F ht9⟩) hS.2.2 dX6_steps_9
set_option maxHeartbeats 4000000 in
set_option maxRecDepth 100000 in
theorem cX6_end_ct (l : Launch) (E : GE) (sz : Nat) (q : Nat) (y1 : Nat) (y2 : Nat) (y3 : Nat) (y4 : Nat) (y5 : Nat) (y6 : Nat) (y7 : Nat) (y8 : Nat) (y9 : Nat) (y10 : Nat) (y11 : Nat) (y12 : Nat) (y13 : Nat) (y14 : Nat) (y15 : Nat) (y16 : Nat) (y17 : Nat) (y18 : Nat) (gw : Nat) (gh : Nat) (th : Int32) (to : Int32) (wr : Bool) (k : Nat) (mk : Nat) (a : Int32) (z : Bool) (hg1 : 1 ≤ gw) (hh1 : 1 ≤ gh) (hg8 : gw ≤ 8) (hh8 : gh ≤ 8) : wrM l yX6_end wsX6_end ({ frames := 2, cells := 0, slots := 0, locals := 41 }) E sz [.ref q, .int a, .int (b2i z)] [(q, .inr (7, [.int th, .int (nI gw), .int (nI gh), .ref y1, .ref y2, .ref y3, .int to, .int (b2i wr), .ref y4, .ref y5, .int (nI k), .ref y6, .ref y7, .ref y8, .ref y9, .int (nI mk), .ref y10, .ref y11, .ref y12, .ref y13, .ref y14, .ref y15, .ref y16, .ref y17, .ref y18]))] (some (.int (if rIsE gw gh a then (if z then nI (oth gw a.toNatClampNeg) else nI (a.toNatClampNeg / 2)) else 0))) (fun cs' => cs' = [(q, .inr (7, [.int (if !rIsE gw gh a then 1 else 0), .int (nI gw), .int (nI gh), .ref y1, .ref y2, .ref y3, .int to, .int (b2i wr), .ref y4, .ref y5, .int (nI k), .ref y6, .ref y7, .ref y8, .ref y9, .int (nI mk), .ref y10, .ref y11, .ref y12, .ref y13, .ref y14, .ref y15, .ref y16, .ref y17, .ref y18]))]) 0 0 := by
  refine Met.ofW (cc := cX6_end) (maxL := 3) (ret := (some .int)) (by decide) rfl ?_
  intro p e s m args below meth c s₁ B hml hv
  obtain ⟨rfl, hsz, hE, hP, hD0⟩ := hv
  have hx := B.exec
  have hb := B.bytes
  have hr := B.returns
  have hts := atoms_spec (ws := wsX6_end) B.pre
  have hown : s.vm.findClass RX6 = some m.cls := findClass_of_methodNamed B.named
  have hlocks := B.notSynchronized
  subst hsz
  have hD := hD0.self (sz := s.heap.size)
  generalize hAe : va_A [(q, .inr (7, [.int th, .int (nI gw), .int (nI gh), .ref y1, .ref y2, .ref y3, .int to, .int (b2i wr), .ref y4, .ref y5, .int (nI k), .ref y6, .ref y7, .ref y8, .ref y9, .int (nI mk), .ref y10, .ref y11, .ref y12, .ref y13, .ref y14, .ref y15, .ref y16, .ref y17, .ref y18]))] s.heap.size = A at hD ⊢
  have hA : ∀ q : Nat, s.heap.size ≤ q → A q := fun q h => by rw [← hAe]; exact Or.inr h
  have hS : va_S A s.heap s.heap [] := va_S.rf
  have hP : va_P E.1 vwCl [(q, .inr (7, [.int th, .int (nI gw), .int (nI gh), .ref y1, .ref y2, .ref y3, .int to, .int (b2i wr), .ref y4, .ref y5, .int (nI k), .ref y6, .ref y7, .ref y8, .ref y9, .int (nI mk), .ref y10, .ref y11, .ref y12, .ref y13, .ref y14, .ref y15, .ref y16, .ref y17, .ref y18]))] s.heap := hP
  have hl := lv_entry ([.ref q, .int a, .int (b2i z)]) (n := 3) (Nat.le_of_ble_eq_true rfl)
  rw [lg_entry_eq]
  generalize (lg_sl ([.ref q, .int a, .int (b2i z)]) ++ List.replicate (3 - (lg_sl ([.ref q, .int a, .int (b2i z)])).length) Slot.unset).toArray = ls at hl ⊢
  have hl : lv_has ls 3 [(0, .ref q), (1, .int a), (2, .int (b2i z))] := hl
  have hN : gw * gh ≤ 64 := Nat.mul_le_mul hg8 hh8
  have hN1 : 1 ≤ gw * gh := Nat.mul_le_mul hg1 hh1
  refine lv_aload_n hx hb dX6_end_0 rfl (lv_at hl 0 rfl) ?_
  refine lv_iconst (v := 1) hx hb dX6_end_1 (by decide) ?_
  refine lv_aload_n hx hb dX6_end_2 rfl (lv_at hl 0 rfl) ?_
  refine lv_iload_n hx hb dX6_end_3 rfl (lv_at hl 1 rfl) ?_
  refine crVi (As := [.int a]) (rest := [.int 1, .ref q]) ⟨hx, hb, hml, hown, hts⟩ hE (cX6_isEdge_ct l E q y1 y2 y3 y4 y5 y6 y7 y8 y9 y10 y11 y12 y13 y14 y15 y16 y17 y18 gw gh th to wr k mk a (by first | assumption | omega | (subst_vars; assumption)) (by first | assumption | omega | (subst_vars; assumption)) (by first | assumption | omega | (subst_vars; assumption)) (by first | assumption | omega | (subst_vars; assumption))) (cwV 1 hts gX6_end_X6_isEdge rfl rfl rfl (by decide +kernel) ⟨Nat.le_of_ble_eq_true rfl, Nat.le_of_ble_eq_true rfl⟩) (hP.sub (ws' := [(q, .inr (7, [.int th, .int (nI gw), .int (nI gh), .ref y1, .ref y2, .ref y3, .int to, .int (b2i wr), .ref y4, .ref y5, .int (nI k), .ref y6, .ref y7, .ref y8, .ref y9, .int (nI mk), .ref y10, .ref y11, .ref y12, .ref y13, .ref y14, .ref y15, .ref y16, .ref y17, .ref y18]))]) [0] rfl) (va_recv hE.1 hP (ci := 7) (q0 := 0) rfl rfl) rfl hl.1 rfl (Nat.le_of_ble_eq_true rfl) dX6_end_4 ⟨Nat.zero_le _, Nat.zero_le _⟩ ?_
  refine W_joinI (J := 15) (rest := [.int 1, .ref q]) (fun z9 => z9 = b2i (!rIsE gw gh a)) (fun v_1 ev_1 => ?_) (fun K_7 => ?_)
  · skip
    subst ev_1
    refine wrV (As := [.int 1, .int (b2i (!rIsE gw gh a))]) (rest := []) (wr := []) ⟨hx, hb, hml, hown, hts⟩ hE (cX6_fails_ct l E s.heap.size q y1 y2 y3 y4 y5 y6 y7 y8 y9 y10 y11 y12 y13 y14 y15 y16 y17 y18 gw gh th to wr k mk 1 (!rIsE gw gh a)) (cwV 2 hts gX6_end_X6_fails rfl rfl rfl (by decide +kernel) ⟨Nat.le_of_ble_eq_true rfl, Nat.le_of_ble_eq_true rfl⟩) hP hD hS hA [0] [] rfl rfl (by decide) (by decide) (hP.sub (ws' := [(q, .inr (7, [.int th, .int (nI gw), .int (nI gh), .ref y1, .ref y2, .ref y3, .int to, .int (b2i wr), .ref y4, .ref y5, .int (nI k), .ref y6, .ref y7, .ref y8, .ref y9, .int (nI mk), .ref y10, .ref y11, .ref y12, .ref y13, .ref y14, .ref y15, .ref y16, .ref y17, .ref y18]))]) [0] rfl) (hD.sub (ws' := [(q, .inr (7, [.int th, .int (nI gw), .int (nI gh), .ref y1, .ref y2, .ref y3, .int to, .int (b2i wr), .ref y4, .ref y5, .int (nI k), .ref y6, .ref y7, .ref y8, .ref y9, .int (nI mk), .ref y10, .ref y11, .ref y12, .ref y13, .ref y14, .ref y15, .ref y16, .ref y17, .ref y18]))]) [0] (by decide) rfl) (va_recv hE.1 hP (ci := 7) (q0 := 0) rfl rfl) rfl hl.1 rfl (Nat.le_of_ble_eq_true rfl) dX6_end_15 ⟨Nat.zero_le _, Nat.zero_le _⟩ (fun cs_ H locs h_2 hP hD hS => ?_)
    subst h_2
    have hP : va_P E.1 vwCl [(q, .inr (7, [.int (if (!rIsE gw gh a) then 1 else 0), .int (nI gw), .int (nI gh), .ref y1, .ref y2, .ref y3, .int to, .int (b2i wr), .ref y4, .ref y5, .int (nI k), .ref y6, .ref y7, .ref y8, .ref y9, .int (nI mk), .ref y10, .ref y11, .ref y12, .ref y13, .ref y14, .ref y15, .ref y16, .ref y17, .ref y18]))] H := hP.sub [0] rfl
    have hD : va_D A [(q, .inr (7, [.int (if (!rIsE gw gh a) then 1 else 0), .int (nI gw), .int (nI gh), .ref y1, .ref y2, .ref y3, .int to, .int (b2i wr), .ref y4, .ref y5, .int (nI k), .ref y6, .ref y7, .ref y8, .ref y9, .int (nI mk), .ref y10, .ref y11, .ref y12, .ref y13, .ref y14, .ref y15, .ref y16, .ref y17, .ref y18]))] := hD.sub [0] (by decide) rfl
    refine lv_if_eq (tgt := 23) hx hb dX6_end_18 (by decide) (fun c_18 => ?_) (fun c_18 => ?_)
    · skip
      have hok : rIsE gw gh a = true := by rw [b2i_eq0] at c_18; simpa using c_18
      obtain ⟨j, hj, rfl, he⟩ := rIsE_some hg8 hh8 hok
      refine lv_iload_n hx hb dX6_end_23 rfl (lv_at hl 2 rfl) ?_
      refine lv_if_eq (tgt := 35) hx hb dX6_end_24 (by decide) (fun c_24 => ?_) (fun c_24 => ?_)
      · skip
        refine lv_iload_n hx hb dX6_end_35 rfl (lv_at hl 1 rfl) ?_
        refine lv_iconst (v := 2) hx hb dX6_end_36 (by decide) ?_
        refine lv_idiv hx hb dX6_end_37 (by decide) ?_
        refine lv_eqi (show ((nI j) / 2 : Int32) = nI (j / 2) from pk_div (a := j) (d := 2) (by omega) (by omega) (by omega)) ?_
        exact W.iret (v := nI (j / 2)) hx hb hr (fun t9 ht9 hW => ⟨⟨by rw [b2i_eq0] at c_24; rw [if_pos hok, nI_clamp (by omega)]; simp [c_24], [(q, .inr (7, [.int (if (!rIsE gw gh (nI j)) then 1 else 0), .int (nI gw), .int (nI gh), .ref y1, .ref y2, .ref y3, .int to, .int (b2i wr), .ref y4, .ref y5, .int (nI k), .ref y6, .ref y7, .ref y8, .ref y9, .int (nI mk), .ref y10, .ref y11, .ref y12, .ref y13, .ref y14, .ref y15, .ref y16, .ref y17, .ref y18]))], rfl, by rw [ht9]; exact hP, hD⟩, hS.F ht9⟩) hS.2.2 dX6_end_38
      · skip
        refine lv_aload_n hx hb dX6_end_27 rfl (lv_at hl 0 rfl) ?_
        refine lv_iload_n hx hb dX6_end_28 rfl (lv_at hl 1 rfl) ?_
        refine crVi (As := [.int (nI j)]) (rest := []) ⟨hx, hb, hml, hown, hts⟩ hE (cX6_other_ct l E q y1 y2 y3 y4 y5 y6 y7 y8 y9 y10 y11 y12 y13 y14 y15 y16 y17 y18 gw gh (if (!rIsE gw gh (nI j)) then 1 else 0) to wr k mk j (by first | assumption | omega | (subst_vars; assumption)) (by first | assumption | omega | (subst_vars; assumption)) (by first | assumption | omega | (subst_vars; assumption)) (by first | assumption | omega | (subst_vars; assumption)) (by first | assumption | omega | (subst_vars; assumption))) (cwV 1 hts gX6_end_X6_other rfl rfl rfl (by decide +kernel) ⟨Nat.le_of_ble_eq_true rfl, Nat.le_of_ble_eq_true rfl⟩) (hP.sub (ws' := [(q, .inr (7, [.int (if (!rIsE gw gh (nI j)) then 1 else 0), .int (nI gw), .int (nI gh), .ref y1, .ref y2, .ref y3, .int to, .int (b2i wr), .ref y4, .ref y5, .int (nI k), .ref y6, .ref y7, .ref y8, .ref y9, .int (nI mk), .ref y10, .ref y11, .ref y12, .ref y13, .ref y14, .ref y15, .ref y16, .ref y17, .ref y18]))]) [0] rfl) (va_recv hE.1 hP (ci := 7) (q0 := 0) rfl rfl) rfl hl.1 rfl (Nat.le_of_ble_eq_true rfl) dX6_end_29 ⟨Nat.zero_le _, Nat.zero_le _⟩ ?_
        refine lv_goto (tgt := 38) hx hb dX6_end_32 (by decide) ?_
        exact W.iret (v := nI (oth gw j)) hx hb hr (fun t9 ht9 hW => ⟨⟨by rw [b2i_eq0] at c_24; rw [if_pos hok, nI_clamp (by omega)]; simp [c_24], [(q, .inr (7, [.int (if (!rIsE gw gh (nI j)) then 1 else 0), .int (nI gw), .int (nI gh), .ref y1, .ref y2, .ref y3, .int to, .int (b2i wr), .ref y4, .ref y5, .int (nI k), .ref y6, .ref y7, .ref y8, .ref y9, .int (nI mk), .ref y10, .ref y11, .ref y12, .ref y13, .ref y14, .ref y15, .ref y16, .ref y17, .ref y18]))], rfl, by rw [ht9]; exact hP, hD⟩, hS.F ht9⟩) hS.2.2 dX6_end_38
    · skip
      refine lv_iconst (v := 0) hx hb dX6_end_21 (by decide) ?_
      exact W.iret (v := 0) hx hb hr (fun t9 ht9 hW => ⟨⟨by rw [b2i_eq0] at c_18; have hbad : rIsE gw gh a = false := (by simpa using c_18); rw [hbad]; rfl, [(q, .inr (7, [.int (if (!rIsE gw gh a) then 1 else 0), .int (nI gw), .int (nI gh), .ref y1, .ref y2, .ref y3, .int to, .int (b2i wr), .ref y4, .ref y5, .int (nI k), .ref y6, .ref y7, .ref y8, .ref y9, .int (nI mk), .ref y10, .ref y11, .ref y12, .ref y13, .ref y14, .ref y15, .ref y16, .ref y17, .ref y18]))], rfl, by rw [ht9]; exact hP, hD⟩, hS.F ht9⟩) hS.2.2 dX6_end_22
  · skip
    refine lv_if_ne (tgt := 14) hx hb dX6_end_7 (by decide) (fun c_7 => ?_) (fun c_7 => ?_)
    · skip
      refine lv_iconst (v := 0) hx hb dX6_end_14 (by decide) ?_
      exact K_7 _ (by rw [b2i_eq0] at c_7; simp [b2i, c_7])
    · skip
      refine lv_iconst (v := 1) hx hb dX6_end_10 (by decide) ?_
      refine lv_goto (tgt := 15) hx hb dX6_end_11 (by decide) ?_
      exact K_7 _ (by rw [b2i_eq0] at c_7; simp [b2i, c_7])
set_option maxHeartbeats 4000000 in
set_option maxRecDepth 100000 in
theorem cX6_edge_ct (l : Launch) (E : GE) (sz : Nat) (q : Nat) (y1 : Nat) (y2 : Nat) (y3 : Nat) (y4 : Nat) (y5 : Nat) (y6 : Nat) (y7 : Nat) (y8 : Nat) (y9 : Nat) (y10 : Nat) (y11 : Nat) (y12 : Nat) (y13 : Nat) (y14 : Nat) (y15 : Nat) (y16 : Nat) (y17 : Nat) (y18 : Nat) (gw : Nat) (gh : Nat) (th : Int32) (to : Int32) (wr : Bool) (k : Nat) (mk : Nat) (ed : Nat → Int32) (a : Int32) (z : Bool) (hg1 : 1 ≤ gw) (hh1 : 1 ≤ gh) (hg8 : gw ≤ 8) (hh8 : gh ≤ 8) : wrM l yX6_edge wsX6_edge ({ frames := 2, cells := 0, slots := 0, locals := 41 }) E sz [.ref q, .int a, .int (b2i z)] [(q, .inr (7, [.int th, .int (nI gw), .int (nI gh), .ref y1, .ref y2, .ref y3, .int to, .int (b2i wr), .ref y4, .ref y5, .int (nI k), .ref y6, .ref y7, .ref y8, .ref y9, .int (nI mk), .ref y10, .ref y11, .ref y12, .ref y13, .ref y14, .ref y15, .ref y16, .ref y17, .ref y18])), (y1, .inl (E.2 0, 128, .inl ed))] (some (.int (b2i (rIsE gw gh a && decide (ed a.toNatClampNeg = 0))))) (fun cs' => cs' = [(q, .inr (7, [.int (if !rIsE gw gh a then 1 else 0), .int (nI gw), .int (nI gh), .ref y1, .ref y2, .ref y3, .int to, .int (b2i (if (rIsE gw gh a && decide (ed a.toNatClampNeg = 0)) = true then false else wr)), .ref y4, .ref y5, .int (nI k), .ref y6, .ref y7, .ref y8, .ref y9, .int (nI mk), .ref y10, .ref y11, .ref y12, .ref y13, .ref y14, .ref y15, .ref y16, .ref y17, .ref y18])), (y1, .inl (E.2 0, 128, .inl (if (rIsE gw gh a && decide (ed a.toNatClampNeg = 0)) = true then upd ed a.toNatClampNeg (sv z) else ed)))]) 0 0 := by
  refine Met.ofW (cc := cX6_edge) (maxL := 3) (ret := (some .boolean)) (by decide) rfl ?_
  intro p e s m args below meth c s₁ B hml hv
  obtain ⟨rfl, hsz, hE, hP, hD0⟩ := hv
  have hx := B.exec
  have hb := B.bytes
  have hr := B.returns
  have hts := atoms_spec (ws := wsX6_edge) B.pre
  have hown : s.vm.findClass RX6 = some m.cls := findClass_of_methodNamed B.named
  have hlocks := B.notSynchronized
  subst hsz
  have hD := hD0.self (sz := s.heap.size)
  generalize hAe : va_A [(q, .inr (7, [.int th, .int (nI gw), .int (nI gh), .ref y1, .ref y2, .ref y3, .int to, .int (b2i wr), .ref y4, .ref y5, .int (nI k), .ref y6, .ref y7, .ref y8, .ref y9, .int (nI mk), .ref y10, .ref y11, .ref y12, .ref y13, .ref y14, .ref y15, .ref y16, .ref y17, .ref y18])), (y1, .inl (E.2 0, 128, .inl ed))] s.heap.size = A at hD ⊢
  have hA : ∀ q : Nat, s.heap.size ≤ q → A q := fun q h => by rw [← hAe]; exact Or.inr h
  have hS : va_S A s.heap s.heap [] := va_S.rf
  have hP : va_P E.1 vwCl [(q, .inr (7, [.int th, .int (nI gw), .int (nI gh), .ref y1, .ref y2, .ref y3, .int to, .int (b2i wr), .ref y4, .ref y5, .int (nI k), .ref y6, .ref y7, .ref y8, .ref y9, .int (nI mk), .ref y10, .ref y11, .ref y12, .ref y13, .ref y14, .ref y15, .ref y16, .ref y17, .ref y18])), (y1, .inl (E.2 0, 128, .inl ed))] s.heap := hP
  have hl := lv_entry ([.ref q, .int a, .int (b2i z)]) (n := 3) (Nat.le_of_ble_eq_true rfl)
  rw [lg_entry_eq]
  generalize (lg_sl ([.ref q, .int a, .int (b2i z)]) ++ List.replicate (3 - (lg_sl ([.ref q, .int a, .int (b2i z)])).length) Slot.unset).toArray = ls at hl ⊢
  have hl : lv_has ls 3 [(0, .ref q), (1, .int a), (2, .int (b2i z))] := hl
  have hf_7 := hts (.fieldLink RX6 7 "LoopRegionsModel" "edges" "[I") (by decide +kernel)
  have hf_98 := hts (.fieldLink RX6 98 "LoopRegionsModel" "isWrong" "Z") (by decide +kernel)
  have hi_RX6 : ∀ w ∈ wsX60, w ∈ wsX6_edge := by decide +kernel
  have hN : gw * gh ≤ 64 := Nat.mul_le_mul hg8 hh8
  have hN1 : 1 ≤ gw * gh := Nat.mul_le_mul hg1 hh1
  refine lv_aload_n hx hb dX6_edge_0 rfl (lv_at hl 0 rfl) ?_
  refine lv_iconst (v := 1) hx hb dX6_edge_1 (by decide) ?_
  refine lv_aload_n hx hb dX6_edge_2 rfl (lv_at hl 0 rfl) ?_
  refine lv_iload_n hx hb dX6_edge_3 rfl (lv_at hl 1 rfl) ?_
  refine crVi (As := [.int a]) (rest := [.int 1, .ref q]) ⟨hx, hb, hml, hown, hts⟩ hE (cX6_isEdge_ct l E q y1 y2 y3 y4 y5 y6 y7 y8 y9 y10 y11 y12 y13 y14 y15 y16 y17 y18 gw gh th to wr k mk a (by first | assumption | omega | (subst_vars; assumption)) (by first | assumption | omega | (subst_vars; assumption)) (by first | assumption | omega | (subst_vars; assumption)) (by first | assumption | omega | (subst_vars; assumption))) (cwV 1 hts gX6_edge_X6_isEdge rfl rfl rfl (by decide +kernel) ⟨Nat.le_of_ble_eq_true rfl, Nat.le_of_ble_eq_true rfl⟩) (hP.sub (ws' := [(q, .inr (7, [.int th, .int (nI gw), .int (nI gh), .ref y1, .ref y2, .ref y3, .int to, .int (b2i wr), .ref y4, .ref y5, .int (nI k), .ref y6, .ref y7, .ref y8, .ref y9, .int (nI mk), .ref y10, .ref y11, .ref y12, .ref y13, .ref y14, .ref y15, .ref y16, .ref y17, .ref y18]))]) [0] rfl) (va_recv hE.1 hP (ci := 7) (q0 := 0) rfl rfl) rfl hl.1 rfl (Nat.le_of_ble_eq_true rfl) dX6_edge_4 ⟨Nat.zero_le _, Nat.zero_le _⟩ ?_
  refine W_joinI (J := 15) (rest := [.int 1, .ref q]) (fun z9 => z9 = b2i (!rIsE gw gh a)) (fun v_1 ev_1 => ?_) (fun K_7 => ?_)
  · skip
    subst ev_1
    refine wrV (As := [.int 1, .int (b2i (!rIsE gw gh a))]) (rest := []) (wr := [(y1, .inl (E.2 0, 128, .inl ed))]) ⟨hx, hb, hml, hown, hts⟩ hE (cX6_fails_ct l E s.heap.size q y1 y2 y3 y4 y5 y6 y7 y8 y9 y10 y11 y12 y13 y14 y15 y16 y17 y18 gw gh th to wr k mk 1 (!rIsE gw gh a)) (cwV 2 hts gX6_edge_X6_fails rfl rfl rfl (by decide +kernel) ⟨Nat.le_of_ble_eq_true rfl, Nat.le_of_ble_eq_true rfl⟩) hP hD hS hA [0] [1] rfl rfl (by decide) (by decide) (hP.sub (ws' := [(q, .inr (7, [.int th, .int (nI gw), .int (nI gh), .ref y1, .ref y2, .ref y3, .int to, .int (b2i wr), .ref y4, .ref y5, .int (nI k), .ref y6, .ref y7, .ref y8, .ref y9, .int (nI mk), .ref y10, .ref y11, .ref y12, .ref y13, .ref y14, .ref y15, .ref y16, .ref y17, .ref y18]))]) [0] rfl) (hD.sub (ws' := [(q, .inr (7, [.int th, .int (nI gw), .int (nI gh), .ref y1, .ref y2, .ref y3, .int to, .int (b2i wr), .ref y4, .ref y5, .int (nI k), .ref y6, .ref y7, .ref y8, .ref y9, .int (nI mk), .ref y10, .ref y11, .ref y12, .ref y13, .ref y14, .ref y15, .ref y16, .ref y17, .ref y18]))]) [0] (by decide) rfl) (va_recv hE.1 hP (ci := 7) (q0 := 0) rfl rfl) rfl hl.1 rfl (Nat.le_of_ble_eq_true rfl) dX6_edge_15 ⟨Nat.zero_le _, Nat.zero_le _⟩ (fun cs_ H locs h_2 hP hD hS => ?_)
    subst h_2
    have hP : va_P E.1 vwCl [(q, .inr (7, [.int (if (!rIsE gw gh a) then 1 else 0), .int (nI gw), .int (nI gh), .ref y1, .ref y2, .ref y3, .int to, .int (b2i wr), .ref y4, .ref y5, .int (nI k), .ref y6, .ref y7, .ref y8, .ref y9, .int (nI mk), .ref y10, .ref y11, .ref y12, .ref y13, .ref y14, .ref y15, .ref y16, .ref y17, .ref y18])), (y1, .inl (E.2 0, 128, .inl ed))] H := hP.sub [1, 0] rfl
    have hD : va_D A [(q, .inr (7, [.int (if (!rIsE gw gh a) then 1 else 0), .int (nI gw), .int (nI gh), .ref y1, .ref y2, .ref y3, .int to, .int (b2i wr), .ref y4, .ref y5, .int (nI k), .ref y6, .ref y7, .ref y8, .ref y9, .int (nI mk), .ref y10, .ref y11, .ref y12, .ref y13, .ref y14, .ref y15, .ref y16, .ref y17, .ref y18])), (y1, .inl (E.2 0, 128, .inl ed))] := hD.sub [1, 0] (by decide) rfl
    refine lv_if_ne (tgt := 30) hx hb dX6_edge_18 (by decide) (fun c_18 => ?_) (fun c_18 => ?_)
    · skip
      refine lv_iconst (v := 0) hx hb dX6_edge_30 (by decide) ?_
      exact W.zret (v := 0) hx hb hr (rfl) (fun t9 ht9 hW => ⟨⟨by have heo : (rIsE gw gh a && decide (ed a.toNatClampNeg = 0)) = false := (by rw [b2i_eq0] at c_18; have hbad : rIsE gw gh a = false := (by simpa using c_18); rw [hbad]; rfl); rw [heo]; rfl, [(q, .inr (7, [.int (if (!rIsE gw gh a) then 1 else 0), .int (nI gw), .int (nI gh), .ref y1, .ref y2, .ref y3, .int to, .int (b2i wr), .ref y4, .ref y5, .int (nI k), .ref y6, .ref y7, .ref y8, .ref y9, .int (nI mk), .ref y10, .ref y11, .ref y12, .ref y13, .ref y14, .ref y15, .ref y16, .ref y17, .ref y18])), (y1, .inl (E.2 0, 128, .inl ed))], by have heo : (rIsE gw gh a && decide (ed a.toNatClampNeg = 0)) = false := (by rw [b2i_eq0] at c_18; have hbad : rIsE gw gh a = false := (by simpa using c_18); rw [hbad]; rfl); simp only [heo, if_true, if_false, Bool.false_eq_true], by rw [ht9]; exact hP, hD⟩, hS.F ht9⟩) hS.2.2 dX6_edge_31
    · skip
      have hok : rIsE gw gh a = true := by rw [b2i_eq0] at c_18; simpa using c_18
      obtain ⟨j, hj, rfl, he⟩ := rIsE_some hg8 hh8 hok
      refine lv_aload_n hx hb dX6_edge_21 rfl (lv_at hl 0 rfl) ?_
      refine va_get (D := E.1) (ci := 7) (v := .ref y1) (C := RX6) (T := TX6) (N := 25) hx hb hts hi_RX6 hown hE.1 hP 0 rfl rfl 3 (by decide) hf_7 (fun _ h9 => h9) rfl dX6_edge_22 ?_
      refine lv_iload_n hx hb dX6_edge_25 rfl (lv_at hl 1 rfl) ?_
      refine va_iald hx hb hE.1 hP 1 0 rfl rfl (show vp_in (nI j) 128 from vp_in_nI (by omega) (by decide)) dX6_edge_26 ?_
      refine lv_eqi (congrArg ed (show (nI j : Int32).toNatClampNeg = j from nI_clamp (by omega))) ?_
      refine lv_if_eq (tgt := 32) hx hb dX6_edge_27 (by decide) (fun c_27 => ?_) (fun c_27 => ?_)
      · skip
        refine lv_aload_n hx hb dX6_edge_32 rfl (lv_at hl 0 rfl) ?_
        refine va_get (D := E.1) (ci := 7) (v := .ref y1) (C := RX6) (T := TX6) (N := 25) hx hb hts hi_RX6 hown hE.1 hP 0 rfl rfl 3 (by decide) hf_7 (fun _ h9 => h9) rfl dX6_edge_33 ?_
        refine lv_iload_n hx hb dX6_edge_36 rfl (lv_at hl 1 rfl) ?_
        refine lv_iload_n hx hb dX6_edge_37 rfl (lv_at hl 2 rfl) ?_
        refine W_joinI (J := 46) (rest := [.int (nI j), .ref y1]) (fun z9 => z9 = sv z) (fun v_3 ev_3 => ?_) (fun K_38 => ?_)
        · skip
          subst ev_3
          refine va_iast hx hb hE.1 hP hD hS 1 0 rfl rfl (show vp_in (nI j) 128 from vp_in_nI (by omega) (by decide)) dX6_edge_46 (fun H locs hP hD hS => ?_)
          rw [show (nI j : Int32).toNatClampNeg = j from nI_clamp (by omega)] at hP hD
          have hP : va_P E.1 vwCl [(q, .inr (7, [.int (if (!rIsE gw gh (nI j)) then 1 else 0), .int (nI gw), .int (nI gh), .ref y1, .ref y2, .ref y3, .int to, .int (b2i wr), .ref y4, .ref y5, .int (nI k), .ref y6, .ref y7, .ref y8, .ref y9, .int (nI mk), .ref y10, .ref y11, .ref y12, .ref y13, .ref y14, .ref y15, .ref y16, .ref y17, .ref y18])), (y1, .inl (E.2 0, 128, .inl (upd ed j (sv z))))] H := hP
          have hD : va_D A [(q, .inr (7, [.int (if (!rIsE gw gh (nI j)) then 1 else 0), .int (nI gw), .int (nI gh), .ref y1, .ref y2, .ref y3, .int to, .int (b2i wr), .ref y4, .ref y5, .int (nI k), .ref y6, .ref y7, .ref y8, .ref y9, .int (nI mk), .ref y10, .ref y11, .ref y12, .ref y13, .ref y14, .ref y15, .ref y16, .ref y17, .ref y18])), (y1, .inl (E.2 0, 128, .inl (upd ed j (sv z))))] := hD
          refine lv_aload_n hx hb dX6_edge_47 rfl (lv_at hl 0 rfl) ?_
          refine lv_iconst (v := 0) hx hb dX6_edge_48 (by decide) ?_
          refine va_put (D := E.1) (ci := 7) (v := .int 0) (ty := .boolean) (C := RX6) (T := TX6) (N := 25) hx hb hts hi_RX6 tyX6 tyX6_ok nmX6 hown hE.1 hP hD hS 0 rfl rfl 7 (by decide) hf_98 (fun _ h9 => h9) rfl (by decide +kernel) (rfl) (rfl) (Nat.le_of_ble_eq_true rfl) dX6_edge_49 (fun H locs hP hD hS => ?_)
          have hP : va_P E.1 vwCl [(q, .inr (7, [.int (if (!rIsE gw gh (nI j)) then 1 else 0), .int (nI gw), .int (nI gh), .ref y1, .ref y2, .ref y3, .int to, .int (b2i false), .ref y4, .ref y5, .int (nI k), .ref y6, .ref y7, .ref y8, .ref y9, .int (nI mk), .ref y10, .ref y11, .ref y12, .ref y13, .ref y14, .ref y15, .ref y16, .ref y17, .ref y18])), (y1, .inl (E.2 0, 128, .inl (upd ed j (sv z))))] H := hP
          have hD : va_D A [(q, .inr (7, [.int (if (!rIsE gw gh (nI j)) then 1 else 0), .int (nI gw), .int (nI gh), .ref y1, .ref y2, .ref y3, .int to, .int (b2i false), .ref y4, .ref y5, .int (nI k), .ref y6, .ref y7, .ref y8, .ref y9, .int (nI mk), .ref y10, .ref y11, .ref y12, .ref y13, .ref y14, .ref y15, .ref y16, .ref y17, .ref y18])), (y1, .inl (E.2 0, 128, .inl (upd ed j (sv z))))] := hD
          refine lv_iconst (v := 1) hx hb dX6_edge_52 (by decide) ?_
          exact W.zret (v := 1) hx hb hr (rfl) (fun t9 ht9 hW => ⟨⟨by have heo : (rIsE gw gh (nI j) && decide (ed (nI j).toNatClampNeg = 0)) = true := (by rw [hok, nI_clamp (by omega)]; simp [c_27]); rw [heo]; rfl, [(q, .inr (7, [.int (if (!rIsE gw gh (nI j)) then 1 else 0), .int (nI gw), .int (nI gh), .ref y1, .ref y2, .ref y3, .int to, .int (b2i false), .ref y4, .ref y5, .int (nI k), .ref y6, .ref y7, .ref y8, .ref y9, .int (nI mk), .ref y10, .ref y11, .ref y12, .ref y13, .ref y14, .ref y15, .ref y16, .ref y17, .ref y18])), (y1, .inl (E.2 0, 128, .inl (upd ed j (sv z))))], by have heo : (rIsE gw gh (nI j) && decide (ed (nI j).toNatClampNeg = 0)) = true := (by rw [hok, nI_clamp (by omega)]; simp [c_27]); simp only [heo, if_true, if_false, Bool.false_eq_true]; try simp only [nI_clamp (show j < 2 ^ 31 by omega)], by rw [ht9]; exact hP, hD⟩, hS.F ht9⟩) hS.2.2 dX6_edge_53
        · skip
          refine lv_if_eq (tgt := 45) hx hb dX6_edge_38 (by decide) (fun c_38 => ?_) (fun c_38 => ?_)
          · skip
            refine lv_iconst (v := 2) hx hb dX6_edge_45 (by decide) ?_
            exact K_38 _ (by rw [b2i_eq0] at c_38; simp [sv, c_38])
          · skip
            refine lv_iconst (v := 1) hx hb dX6_edge_41 (by decide) ?_
            refine lv_goto (tgt := 46) hx hb dX6_edge_42 (by decide) ?_
            exact K_38 _ (by rw [b2i_eq0] at c_38; simp [sv, c_38])
      · skip
        refine lv_iconst (v := 0) hx hb dX6_edge_30 (by decide) ?_
        exact W.zret (v := 0) hx hb hr (rfl) (fun t9 ht9 hW => ⟨⟨by have heo : (rIsE gw gh (nI j) && decide (ed (nI j).toNatClampNeg = 0)) = false := (by rw [hok, nI_clamp (by omega)]; simp [c_27]); rw [heo]; rfl, [(q, .inr (7, [.int (if (!rIsE gw gh (nI j)) then 1 else 0), .int (nI gw), .int (nI gh), .ref y1, .ref y2, .ref y3, .int to, .int (b2i wr), .ref y4, .ref y5, .int (nI k), .ref y6, .ref y7, .ref y8, .ref y9, .int (nI mk), .ref y10, .ref y11, .ref y12, .ref y13, .ref y14, .ref y15, .ref y16, .ref y17, .ref y18])), (y1, .inl (E.2 0, 128, .inl ed))], by have heo : (rIsE gw gh (nI j) && decide (ed (nI j).toNatClampNeg = 0)) = false := (by rw [hok, nI_clamp (by omega)]; simp [c_27]); simp only [heo, if_true, if_false, Bool.false_eq_true]; try simp only [nI_clamp (show j < 2 ^ 31 by omega)], by rw [ht9]; exact hP, hD⟩, hS.F ht9⟩) hS.2.2 dX6_edge_31
  · skip
    refine lv_if_ne (tgt := 14) hx hb dX6_edge_7 (by decide) (fun c_7 => ?_) (fun c_7 => ?_)
    · skip
      refine lv_iconst (v := 0) hx hb dX6_edge_14 (by decide) ?_
      exact K_7 _ (by rw [b2i_eq0] at c_7; simp [b2i, c_7])
    · skip
      refine lv_iconst (v := 1) hx hb dX6_edge_10 (by decide) ?_
      refine lv_goto (tgt := 15) hx hb dX6_edge_11 (by decide) ?_
      exact K_7 _ (by rw [b2i_eq0] at c_7; simp [b2i, c_7])
set_option maxHeartbeats 4000000 in
set_option maxRecDepth 100000 in
theorem cX6_shade_ct (l : Launch) (E : GE) (sz : Nat) (q : Nat) (y1 : Nat) (y2 : Nat) (y3 : Nat) (y4 : Nat) (y5 : Nat) (y6 : Nat) (y7 : Nat) (y8 : Nat) (y9 : Nat) (y10 : Nat) (y11 : Nat) (y12 : Nat) (y13 : Nat) (y14 : Nat) (y15 : Nat) (y16 : Nat) (y17 : Nat) (y18 : Nat) (gw : Nat) (gh : Nat) (th : Int32) (to : Int32) (wr : Bool) (k : Nat) (mk : Nat) (sh : Nat → Int32) (a : Int32) (z : Bool) (hg1 : 1 ≤ gw) (hh1 : 1 ≤ gh) (hg8 : gw ≤ 8) (hh8 : gh ≤ 8) : wrM l yX6_shade wsX6_shade ({ frames := 2, cells := 0, slots := 0, locals := 41 }) E sz [.ref q, .int a, .int (b2i z)] [(q, .inr (7, [.int th, .int (nI gw), .int (nI gh), .ref y1, .ref y2, .ref y3, .int to, .int (b2i wr), .ref y4, .ref y5, .int (nI k), .ref y6, .ref y7, .ref y8, .ref y9, .int (nI mk), .ref y10, .ref y11, .ref y12, .ref y13, .ref y14, .ref y15, .ref y16, .ref y17, .ref y18])), (y3, .inl (E.2 0, 64, .inl sh))] (some (.int (b2i (rIsC gw gh a && decide (sh a.toNatClampNeg = 0))))) (fun cs' => cs' = [(q, .inr (7, [.int (if !rIsC gw gh a then 1 else 0), .int (nI gw), .int (nI gh), .ref y1, .ref y2, .ref y3, .int to, .int (b2i (if (rIsC gw gh a && decide (sh a.toNatClampNeg = 0)) = true then false else wr)), .ref y4, .ref y5, .int (nI k), .ref y6, .ref y7, .ref y8, .ref y9, .int (nI mk), .ref y10, .ref y11, .ref y12, .ref y13, .ref y14, .ref y15, .ref y16, .ref y17, .ref y18])), (y3, .inl (E.2 0, 64, .inl (if (rIsC gw gh a && decide (sh a.toNatClampNeg = 0)) = true then upd sh a.toNatClampNeg (sv z) else sh)))]) 0 0 := by
  refine Met.ofW (cc := cX6_shade) (maxL := 3) (ret := (some .boolean)) (by decide) rfl ?_
  intro p e s m args below meth c s₁ B hml hv
  obtain ⟨rfl, hsz, hE, hP, hD0⟩ := hv
  have hx := B.exec
  have hb := B.bytes
  have hr := B.returns
  have hts := atoms_spec (ws := wsX6_shade) B.pre
  have hown : s.vm.findClass RX6 = some m.cls := findClass_of_methodNamed B.named
  have hlocks := B.notSynchronized
  subst hsz
  have hD := hD0.self (sz := s.heap.size)
  generalize hAe : va_A [(q, .inr (7, [.int th, .int (nI gw), .int (nI gh), .ref y1, .ref y2, .ref y3, .int to, .int (b2i wr), .ref y4, .ref y5, .int (nI k), .ref y6, .ref y7, .ref y8, .ref y9, .int (nI mk), .ref y10, .ref y11, .ref y12, .ref y13, .ref y14, .ref y15, .ref y16, .ref y17, .ref y18])), (y3, .inl (E.2 0, 64, .inl sh))] s.heap.size = A at hD ⊢
  have hA : ∀ q : Nat, s.heap.size ≤ q → A q := fun q h => by rw [← hAe]; exact Or.inr h
  have hS : va_S A s.heap s.heap [] := va_S.rf
  have hP : va_P E.1 vwCl [(q, .inr (7, [.int th, .int (nI gw), .int (nI gh), .ref y1, .ref y2, .ref y3, .int to, .int (b2i wr), .ref y4, .ref y5, .int (nI k), .ref y6, .ref y7, .ref y8, .ref y9, .int (nI mk), .ref y10, .ref y11, .ref y12, .ref y13, .ref y14, .ref y15, .ref y16, .ref y17, .ref y18])), (y3, .inl (E.2 0, 64, .inl sh))] s.heap := hP
  have hl := lv_entry ([.ref q, .int a, .int (b2i z)]) (n := 3) (Nat.le_of_ble_eq_true rfl)
  rw [lg_entry_eq]
  generalize (lg_sl ([.ref q, .int a, .int (b2i z)]) ++ List.replicate (3 - (lg_sl ([.ref q, .int a, .int (b2i z)])).length) Slot.unset).toArray = ls at hl ⊢
  have hl : lv_has ls 3 [(0, .ref q), (1, .int a), (2, .int (b2i z))] := hl
  have hf_16 := hts (.fieldLink RX6 16 "LoopRegionsModel" "shades" "[I") (by decide +kernel)
  have hf_98 := hts (.fieldLink RX6 98 "LoopRegionsModel" "isWrong" "Z") (by decide +kernel)
  have hi_RX6 : ∀ w ∈ wsX60, w ∈ wsX6_shade := by decide +kernel
  have hN : gw * gh ≤ 64 := Nat.mul_le_mul hg8 hh8
  have hN1 : 1 ≤ gw * gh := Nat.mul_le_mul hg1 hh1
  refine lv_aload_n hx hb dX6_shade_0 rfl (lv_at hl 0 rfl) ?_
  refine lv_iconst (v := 1) hx hb dX6_shade_1 (by decide) ?_
  refine lv_aload_n hx hb dX6_shade_2 rfl (lv_at hl 0 rfl) ?_
  refine lv_iload_n hx hb dX6_shade_3 rfl (lv_at hl 1 rfl) ?_
  refine crVi (As := [.int a]) (rest := [.int 1, .ref q]) ⟨hx, hb, hml, hown, hts⟩ hE (cX6_isCell_ct l E q y1 y2 y3 y4 y5 y6 y7 y8 y9 y10 y11 y12 y13 y14 y15 y16 y17 y18 gw gh th to wr k mk a) (cwV 1 hts gX6_shade_X6_isCell rfl rfl rfl (by decide +kernel) ⟨Nat.le_of_ble_eq_true rfl, Nat.le_of_ble_eq_true rfl⟩) (hP.sub (ws' := [(q, .inr (7, [.int th, .int (nI gw), .int (nI gh), .ref y1, .ref y2, .ref y3, .int to, .int (b2i wr), .ref y4, .ref y5, .int (nI k), .ref y6, .ref y7, .ref y8, .ref y9, .int (nI mk), .ref y10, .ref y11, .ref y12, .ref y13, .ref y14, .ref y15, .ref y16, .ref y17, .ref y18]))]) [0] rfl) (va_recv hE.1 hP (ci := 7) (q0 := 0) rfl rfl) rfl hl.1 rfl (Nat.le_of_ble_eq_true rfl) dX6_shade_4 ⟨Nat.zero_le _, Nat.zero_le _⟩ ?_
  refine W_joinI (J := 15) (rest := [.int 1, .ref q]) (fun z9 => z9 = b2i (!rIsC gw gh a)) (fun v_1 ev_1 => ?_) (fun K_7 => ?_)
  · skip
    subst ev_1
    refine wrV (As := [.int 1, .int (b2i (!rIsC gw gh a))]) (rest := []) (wr := [(y3, .inl (E.2 0, 64, .inl sh))]) ⟨hx, hb, hml, hown, hts⟩ hE (cX6_fails_ct l E s.heap.size q y1 y2 y3 y4 y5 y6 y7 y8 y9 y10 y11 y12 y13 y14 y15 y16 y17 y18 gw gh th to wr k mk 1 (!rIsC gw gh a)) (cwV 2 hts gX6_shade_X6_fails rfl rfl rfl (by decide +kernel) ⟨Nat.le_of_ble_eq_true rfl, Nat.le_of_ble_eq_true rfl⟩) hP hD hS hA [0] [1] rfl rfl (by decide) (by decide) (hP.sub (ws' := [(q, .inr (7, [.int th, .int (nI gw), .int (nI gh), .ref y1, .ref y2, .ref y3, .int to, .int (b2i wr), .ref y4, .ref y5, .int (nI k), .ref y6, .ref y7, .ref y8, .ref y9, .int (nI mk), .ref y10, .ref y11, .ref y12, .ref y13, .ref y14, .ref y15, .ref y16, .ref y17, .ref y18]))]) [0] rfl) (hD.sub (ws' := [(q, .inr (7, [.int th, .int (nI gw), .int (nI gh), .ref y1, .ref y2, .ref y3, .int to, .int (b2i wr), .ref y4, .ref y5, .int (nI k), .ref y6, .ref y7, .ref y8, .ref y9, .int (nI mk), .ref y10, .ref y11, .ref y12, .ref y13, .ref y14, .ref y15, .ref y16, .ref y17, .ref y18]))]) [0] (by decide) rfl) (va_recv hE.1 hP (ci := 7) (q0 := 0) rfl rfl) rfl hl.1 rfl (Nat.le_of_ble_eq_true rfl) dX6_shade_15 ⟨Nat.zero_le _, Nat.zero_le _⟩ (fun cs_ H locs h_2 hP hD hS => ?_)
    subst h_2
    have hP : va_P E.1 vwCl [(q, .inr (7, [.int (if (!rIsC gw gh a) then 1 else 0), .int (nI gw), .int (nI gh), .ref y1, .ref y2, .ref y3, .int to, .int (b2i wr), .ref y4, .ref y5, .int (nI k), .ref y6, .ref y7, .ref y8, .ref y9, .int (nI mk), .ref y10, .ref y11, .ref y12, .ref y13, .ref y14, .ref y15, .ref y16, .ref y17, .ref y18])), (y3, .inl (E.2 0, 64, .inl sh))] H := hP.sub [1, 0] rfl
    have hD : va_D A [(q, .inr (7, [.int (if (!rIsC gw gh a) then 1 else 0), .int (nI gw), .int (nI gh), .ref y1, .ref y2, .ref y3, .int to, .int (b2i wr), .ref y4, .ref y5, .int (nI k), .ref y6, .ref y7, .ref y8, .ref y9, .int (nI mk), .ref y10, .ref y11, .ref y12, .ref y13, .ref y14, .ref y15, .ref y16, .ref y17, .ref y18])), (y3, .inl (E.2 0, 64, .inl sh))] := hD.sub [1, 0] (by decide) rfl
    refine lv_if_ne (tgt := 30) hx hb dX6_shade_18 (by decide) (fun c_18 => ?_) (fun c_18 => ?_)
    · skip
      refine lv_iconst (v := 0) hx hb dX6_shade_30 (by decide) ?_
      exact W.zret (v := 0) hx hb hr (rfl) (fun t9 ht9 hW => ⟨⟨by have heo : (rIsC gw gh a && decide (sh a.toNatClampNeg = 0)) = false := (by rw [b2i_eq0] at c_18; have hbad : rIsC gw gh a = false := (by simpa using c_18); rw [hbad]; rfl); rw [heo]; rfl, [(q, .inr (7, [.int (if (!rIsC gw gh a) then 1 else 0), .int (nI gw), .int (nI gh), .ref y1, .ref y2, .ref y3, .int to, .int (b2i wr), .ref y4, .ref y5, .int (nI k), .ref y6, .ref y7, .ref y8, .ref y9, .int (nI mk), .ref y10, .ref y11, .ref y12, .ref y13, .ref y14, .ref y15, .ref y16, .ref y17, .ref y18])), (y3, .inl (E.2 0, 64, .inl sh))], by have heo : (rIsC gw gh a && decide (sh a.toNatClampNeg = 0)) = false := (by rw [b2i_eq0] at c_18; have hbad : rIsC gw gh a = false := (by simpa using c_18); rw [hbad]; rfl); simp only [heo, if_true, if_false, Bool.false_eq_true], by rw [ht9]; exact hP, hD⟩, hS.F ht9⟩) hS.2.2 dX6_shade_31
    · skip
      have hok : rIsC gw gh a = true := by rw [b2i_eq0] at c_18; simpa using c_18
      obtain ⟨j, hj, rfl⟩ := rIsC_some (by omega) hok
      refine lv_aload_n hx hb dX6_shade_21 rfl (lv_at hl 0 rfl) ?_
      refine va_get (D := E.1) (ci := 7) (v := .ref y3) (C := RX6) (T := TX6) (N := 25) hx hb hts hi_RX6 hown hE.1 hP 0 rfl rfl 5 (by decide) hf_16 (fun _ h9 => h9) rfl dX6_shade_22 ?_
      refine lv_iload_n hx hb dX6_shade_25 rfl (lv_at hl 1 rfl) ?_
      refine va_iald hx hb hE.1 hP 1 0 rfl rfl (show vp_in (nI j) 64 from vp_in_nI (by omega) (by decide)) dX6_shade_26 ?_
      refine lv_eqi (congrArg sh (show (nI j : Int32).toNatClampNeg = j from nI_clamp (by omega))) ?_
      refine lv_if_eq (tgt := 32) hx hb dX6_shade_27 (by decide) (fun c_27 => ?_) (fun c_27 => ?_)
      · skip
        refine lv_aload_n hx hb dX6_shade_32 rfl (lv_at hl 0 rfl) ?_
        refine va_get (D := E.1) (ci := 7) (v := .ref y3) (C := RX6) (T := TX6) (N := 25) hx hb hts hi_RX6 hown hE.1 hP 0 rfl rfl 5 (by decide) hf_16 (fun _ h9 => h9) rfl dX6_shade_33 ?_
        refine lv_iload_n hx hb dX6_shade_36 rfl (lv_at hl 1 rfl) ?_
        refine lv_iload_n hx hb dX6_shade_37 rfl (lv_at hl 2 rfl) ?_
        refine W_joinI (J := 46) (rest := [.int (nI j), .ref y3]) (fun z9 => z9 = sv z) (fun v_3 ev_3 => ?_) (fun K_38 => ?_)
        · skip
          subst ev_3
          refine va_iast hx hb hE.1 hP hD hS 1 0 rfl rfl (show vp_in (nI j) 64 from vp_in_nI (by omega) (by decide)) dX6_shade_46 (fun H locs hP hD hS => ?_)
          rw [show (nI j : Int32).toNatClampNeg = j from nI_clamp (by omega)] at hP hD
          have hP : va_P E.1 vwCl [(q, .inr (7, [.int (if (!rIsC gw gh (nI j)) then 1 else 0), .int (nI gw), .int (nI gh), .ref y1, .ref y2, .ref y3, .int to, .int (b2i wr), .ref y4, .ref y5, .int (nI k), .ref y6, .ref y7, .ref y8, .ref y9, .int (nI mk), .ref y10, .ref y11, .ref y12, .ref y13, .ref y14, .ref y15, .ref y16, .ref y17, .ref y18])), (y3, .inl (E.2 0, 64, .inl (upd sh j (sv z))))] H := hP
          have hD : va_D A [(q, .inr (7, [.int (if (!rIsC gw gh (nI j)) then 1 else 0), .int (nI gw), .int (nI gh), .ref y1, .ref y2, .ref y3, .int to, .int (b2i wr), .ref y4, .ref y5, .int (nI k), .ref y6, .ref y7, .ref y8, .ref y9, .int (nI mk), .ref y10, .ref y11, .ref y12, .ref y13, .ref y14, .ref y15, .ref y16, .ref y17, .ref y18])), (y3, .inl (E.2 0, 64, .inl (upd sh j (sv z))))] := hD
          refine lv_aload_n hx hb dX6_shade_47 rfl (lv_at hl 0 rfl) ?_
          refine lv_iconst (v := 0) hx hb dX6_shade_48 (by decide) ?_
          refine va_put (D := E.1) (ci := 7) (v := .int 0) (ty := .boolean) (C := RX6) (T := TX6) (N := 25) hx hb hts hi_RX6 tyX6 tyX6_ok nmX6 hown hE.1 hP hD hS 0 rfl rfl 7 (by decide) hf_98 (fun _ h9 => h9) rfl (by decide +kernel) (rfl) (rfl) (Nat.le_of_ble_eq_true rfl) dX6_shade_49 (fun H locs hP hD hS => ?_)
          have hP : va_P E.1 vwCl [(q, .inr (7, [.int (if (!rIsC gw gh (nI j)) then 1 else 0), .int (nI gw), .int (nI gh), .ref y1, .ref y2, .ref y3, .int to, .int (b2i false), .ref y4, .ref y5, .int (nI k), .ref y6, .ref y7, .ref y8, .ref y9, .int (nI mk), .ref y10, .ref y11, .ref y12, .ref y13, .ref y14, .ref y15, .ref y16, .ref y17, .ref y18])), (y3, .inl (E.2 0, 64, .inl (upd sh j (sv z))))] H := hP
          have hD : va_D A [(q, .inr (7, [.int (if (!rIsC gw gh (nI j)) then 1 else 0), .int (nI gw), .int (nI gh), .ref y1, .ref y2, .ref y3, .int to, .int (b2i false), .ref y4, .ref y5, .int (nI k), .ref y6, .ref y7, .ref y8, .ref y9, .int (nI mk), .ref y10, .ref y11, .ref y12, .ref y13, .ref y14, .ref y15, .ref y16, .ref y17, .ref y18])), (y3, .inl (E.2 0, 64, .inl (upd sh j (sv z))))] := hD
          refine lv_iconst (v := 1) hx hb dX6_shade_52 (by decide) ?_
          exact W.zret (v := 1) hx hb hr (rfl) (fun t9 ht9 hW => ⟨⟨by have heo : (rIsC gw gh (nI j) && decide (sh (nI j).toNatClampNeg = 0)) = true := (by rw [hok, nI_clamp (by omega)]; simp [c_27]); rw [heo]; rfl, [(q, .inr (7, [.int (if (!rIsC gw gh (nI j)) then 1 else 0), .int (nI gw), .int (nI gh), .ref y1, .ref y2, .ref y3, .int to, .int (b2i false), .ref y4, .ref y5, .int (nI k), .ref y6, .ref y7, .ref y8, .ref y9, .int (nI mk), .ref y10, .ref y11, .ref y12, .ref y13, .ref y14, .ref y15, .ref y16, .ref y17, .ref y18])), (y3, .inl (E.2 0, 64, .inl (upd sh j (sv z))))], by have heo : (rIsC gw gh (nI j) && decide (sh (nI j).toNatClampNeg = 0)) = true := (by rw [hok, nI_clamp (by omega)]; simp [c_27]); simp only [heo, if_true, if_false, Bool.false_eq_true]; try simp only [nI_clamp (show j < 2 ^ 31 by omega)], by rw [ht9]; exact hP, hD⟩, hS.F ht9⟩) hS.2.2 dX6_shade_53
        · skip
          refine lv_if_eq (tgt := 45) hx hb dX6_shade_38 (by decide) (fun c_38 => ?_) (fun c_38 => ?_)
          · skip
            refine lv_iconst (v := 2) hx hb dX6_shade_45 (by decide) ?_
            exact K_38 _ (by rw [b2i_eq0] at c_38; simp [sv, c_38])
          · skip
            refine lv_iconst (v := 1) hx hb dX6_shade_41 (by decide) ?_
            refine lv_goto (tgt := 46) hx hb dX6_shade_42 (by decide) ?_
            exact K_38 _ (by rw [b2i_eq0] at c_38; simp [sv, c_38])
      · skip
        refine lv_iconst (v := 0) hx hb dX6_shade_30 (by decide) ?_
        exact W.zret (v := 0) hx hb hr (rfl) (fun t9 ht9 hW => ⟨⟨by have heo : (rIsC gw gh (nI j) && decide (sh (nI j).toNatClampNeg = 0)) = false := (by rw [hok, nI_clamp (by omega)]; simp [c_27]); rw [heo]; rfl, [(q, .inr (7, [.int (if (!rIsC gw gh (nI j)) then 1 else 0), .int (nI gw), .int (nI gh), .ref y1, .ref y2, .ref y3, .int to, .int (b2i wr), .ref y4, .ref y5, .int (nI k), .ref y6, .ref y7, .ref y8, .ref y9, .int (nI mk), .ref y10, .ref y11, .ref y12, .ref y13, .ref y14, .ref y15, .ref y16, .ref y17, .ref y18])), (y3, .inl (E.2 0, 64, .inl sh))], by have heo : (rIsC gw gh (nI j) && decide (sh (nI j).toNatClampNeg = 0)) = false := (by rw [hok, nI_clamp (by omega)]; simp [c_27]); simp only [heo, if_true, if_false, Bool.false_eq_true]; try simp only [nI_clamp (show j < 2 ^ 31 by omega)], by rw [ht9]; exact hP, hD⟩, hS.F ht9⟩) hS.2.2 dX6_shade_31
  · skip
    refine lv_if_ne (tgt := 14) hx hb dX6_shade_7 (by decide) (fun c_7 => ?_) (fun c_7 => ?_)
    · skip
      refine lv_iconst (v := 0) hx hb dX6_shade_14 (by decide) ?_
      exact K_7 _ (by rw [b2i_eq0] at c_7; simp [b2i, c_7])
    · skip
      refine lv_iconst (v := 1) hx hb dX6_shade_10 (by decide) ?_
      refine lv_goto (tgt := 15) hx hb dX6_shade_11 (by decide) ?_
      exact K_7 _ (by rw [b2i_eq0] at c_7; simp [b2i, c_7])
