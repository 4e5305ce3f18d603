theorem nf {b : Bool} (h : ¬ b = false) : b = true := by cases b with | false => exact absurd rfl h | true => rfl
theorem step_some {k : Nat} {a d : Int32} (hk : k < 2 ^ 31) (h : (decide (a < 0) || (decide (nI k ≤ a) || decide (¬ 0 ≤ d))) = false) : ∃ j, j < k ∧ a = nI j ∧ 0 ≤ d := by
  simp only [Bool.or_eq_false_iff, decide_eq_false_iff_not, Classical.not_not] at h
  obtain ⟨h1, h2, h3⟩ := h
  obtain ⟨j, hj, rfl⟩ := nI_of h1
  refine ⟨j, ?_, rfl, h3⟩
  rcases Nat.lt_or_ge j k with q | q
  · exact q
  · exact absurd (nI_le q hj) h2
theorem step_ne {w : Nat} (n : Nat) (h : w < 2 ^ 31 ∧ n < 3 ∧ 3 ≤ w) : ¬ nI w = nI n := fun q => by
  have := (nI_eq (a := w) (b := n) h.1 (by omega)).mp q
  omega
theorem step_n3 {w : Nat} (h : w < 2 ^ 31 ∧ 3 ≤ w) : ¬ nI w < 3 := nI_nlt (b := 3) h.2 h.1
set_option maxHeartbeats 4000000 in
set_option maxRecDepth 100000 in
theorem cX6_told_ct (l : Launch) (E : GE) (sz : Nat) (q : Nat) (y1 : Nat) (y2 : Nat) (y3 : Nat) (y4 : Nat) (y5 : Nat) (y6 : Nat) (y7 : Nat) (y8 : Nat) (y9 : Nat) (y10 : Nat) (y11 : Nat) (y12 : Nat) (y13 : Nat) (y14 : Nat) (y15 : Nat) (y16 : Nat) (y17 : Nat) (y18 : Nat) (gw : Nat) (gh : Nat) (th : Int32) (to : Int32) (wr : Bool) (k : Nat) (mk : Nat) (a : Int32)  : wrM l yX6_told wsX6_told ({ frames := 1, cells := 0, slots := 0, locals := 22 }) E sz [.ref q, .int a] [(q, .inr (7, [.int th, .int (nI gw), .int (nI gh), .ref y1, .ref y2, .ref y3, .int to, .int (b2i wr), .ref y4, .ref y5, .int (nI k), .ref y6, .ref y7, .ref y8, .ref y9, .int (nI mk), .ref y10, .ref y11, .ref y12, .ref y13, .ref y14, .ref y15, .ref y16, .ref y17, .ref y18]))] none (fun cs' => cs' = [(q, .inr (7, [.int (if (decide (a < -1) || decide (¬ a ≤ 64)) = true then 1 else 0), .int (nI gw), .int (nI gh), .ref y1, .ref y2, .ref y3, .int (if (decide (a < -1) || decide (¬ a ≤ 64)) = true then to else a), .int (b2i (if (decide (a < -1) || decide (¬ a ≤ 64)) = true then wr else false)), .ref y4, .ref y5, .int (nI k), .ref y6, .ref y7, .ref y8, .ref y9, .int (nI mk), .ref y10, .ref y11, .ref y12, .ref y13, .ref y14, .ref y15, .ref y16, .ref y17, .ref y18]))]) 0 0 := by
  refine Met.ofW (cc := cX6_told) (maxL := 2) (ret := none) (by decide) rfl ?_
  intro p e s m args below meth c s₁ B hml hv
  obtain ⟨rfl, hsz, hE, hP, hD0⟩ := hv
  have hx := B.exec
  have hb := B.bytes
  have hr := B.returns
  have hts := atoms_spec (ws := wsX6_told) B.pre
  have hown : s.vm.findClass RX6 = some m.cls := findClass_of_methodNamed B.named
  have hlocks := B.notSynchronized
  subst hsz
  have hD := hD0.self (sz := s.heap.size)
  generalize hAe : va_A [(q, .inr (7, [.int th, .int (nI gw), .int (nI gh), .ref y1, .ref y2, .ref y3, .int to, .int (b2i wr), .ref y4, .ref y5, .int (nI k), .ref y6, .ref y7, .ref y8, .ref y9, .int (nI mk), .ref y10, .ref y11, .ref y12, .ref y13, .ref y14, .ref y15, .ref y16, .ref y17, .ref y18]))] s.heap.size = A at hD ⊢
  have hA : ∀ q : Nat, s.heap.size ≤ q → A q := fun q h => by rw [← hAe]; exact Or.inr h
  have hS : va_S A s.heap s.heap [] := va_S.rf
  have hP : va_P E.1 vwCl [(q, .inr (7, [.int th, .int (nI gw), .int (nI gh), .ref y1, .ref y2, .ref y3, .int to, .int (b2i wr), .ref y4, .ref y5, .int (nI k), .ref y6, .ref y7, .ref y8, .ref y9, .int (nI mk), .ref y10, .ref y11, .ref y12, .ref y13, .ref y14, .ref y15, .ref y16, .ref y17, .ref y18]))] s.heap := hP
  have hl := lv_entry ([.ref q, .int a]) (n := 2) (Nat.le_of_ble_eq_true rfl)
  rw [lg_entry_eq]
  generalize (lg_sl ([.ref q, .int a]) ++ List.replicate (2 - (lg_sl ([.ref q, .int a])).length) Slot.unset).toArray = ls at hl ⊢
  have hl : lv_has ls 2 [(0, .ref q), (1, .int a)] := hl
  have hf_19 := hts (.fieldLink RX6 19 "LoopRegionsModel" "told" "I") (by decide +kernel)
  have hf_98 := hts (.fieldLink RX6 98 "LoopRegionsModel" "isWrong" "Z") (by decide +kernel)
  have hi_RX6 : ∀ w ∈ wsX60, w ∈ wsX6_told := by decide +kernel
  refine lv_aload_n hx hb dX6_told_0 rfl (lv_at hl 0 rfl) ?_
  refine lv_iconst (v := 1) hx hb dX6_told_1 (by decide) ?_
  refine lv_iload_n hx hb dX6_told_2 rfl (lv_at hl 1 rfl) ?_
  refine lv_iconst (v := (-1)) hx hb dX6_told_3 (by decide) ?_
  refine W_joinI (J := 18) (rest := [.int 1, .ref q]) (fun z9 => z9 = b2i (decide (a < -1) || decide (¬ a ≤ 64))) (fun v_1 ev_1 => ?_) (fun K_4 => ?_)
  · skip
    subst ev_1
    refine wrV (As := [.int 1, .int (b2i (decide (a < -1) || decide (¬ a ≤ 64)))]) (rest := []) (wr := []) ⟨hx, hb, hml, hown, hts⟩ hE (cX6_fails_ct l E s.heap.size q y1 y2 y3 y4 y5 y6 y7 y8 y9 y10 y11 y12 y13 y14 y15 y16 y17 y18 gw gh th to wr k mk 1 (decide (a < -1) || decide (¬ a ≤ 64))) (cwV 2 hts gX6_told_X6_fails rfl rfl rfl (by decide +kernel) ⟨Nat.le_of_ble_eq_true rfl, Nat.le_of_ble_eq_true rfl⟩) hP hD hS hA [0] [] rfl rfl (by decide) (by decide) (hP.sub (ws' := [(q, .inr (7, [.int th, .int (nI gw), .int (nI gh), .ref y1, .ref y2, .ref y3, .int to, .int (b2i wr), .ref y4, .ref y5, .int (nI k), .ref y6, .ref y7, .ref y8, .ref y9, .int (nI mk), .ref y10, .ref y11, .ref y12, .ref y13, .ref y14, .ref y15, .ref y16, .ref y17, .ref y18]))]) [0] rfl) (hD.sub (ws' := [(q, .inr (7, [.int th, .int (nI gw), .int (nI gh), .ref y1, .ref y2, .ref y3, .int to, .int (b2i wr), .ref y4, .ref y5, .int (nI k), .ref y6, .ref y7, .ref y8, .ref y9, .int (nI mk), .ref y10, .ref y11, .ref y12, .ref y13, .ref y14, .ref y15, .ref y16, .ref y17, .ref y18]))]) [0] (by decide) rfl) (va_recv hE.1 hP (ci := 7) (q0 := 0) rfl rfl) rfl hl.1 rfl (Nat.le_of_ble_eq_true rfl) dX6_told_18 ⟨Nat.zero_le _, Nat.zero_le _⟩ (fun cs_ H locs h_2 hP hD hS => ?_)
    subst h_2
    have hP : va_P E.1 vwCl [(q, .inr (7, [.int (if (decide (a < -1) || decide (¬ a ≤ 64)) then 1 else 0), .int (nI gw), .int (nI gh), .ref y1, .ref y2, .ref y3, .int to, .int (b2i wr), .ref y4, .ref y5, .int (nI k), .ref y6, .ref y7, .ref y8, .ref y9, .int (nI mk), .ref y10, .ref y11, .ref y12, .ref y13, .ref y14, .ref y15, .ref y16, .ref y17, .ref y18]))] H := hP.sub [0] rfl
    have hD : va_D A [(q, .inr (7, [.int (if (decide (a < -1) || decide (¬ a ≤ 64)) then 1 else 0), .int (nI gw), .int (nI gh), .ref y1, .ref y2, .ref y3, .int to, .int (b2i wr), .ref y4, .ref y5, .int (nI k), .ref y6, .ref y7, .ref y8, .ref y9, .int (nI mk), .ref y10, .ref y11, .ref y12, .ref y13, .ref y14, .ref y15, .ref y16, .ref y17, .ref y18]))] := hD.sub [0] (by decide) rfl
    refine lv_if_eq (tgt := 25) hx hb dX6_told_21 (by decide) (fun c_21 => ?_) (fun c_21 => ?_)
    · skip
      refine lv_aload_n hx hb dX6_told_25 rfl (lv_at hl 0 rfl) ?_
      refine lv_iload_n hx hb dX6_told_26 rfl (lv_at hl 1 rfl) ?_
      refine va_put (D := E.1) (ci := 7) (v := .int a) (ty := .int) (C := RX6) (T := TX6) (N := 25) hx hb hts hi_RX6 tyX6 tyX6_ok nmX6 hown hE.1 hP hD hS 0 rfl rfl 6 (by decide) hf_19 (fun _ h9 => h9) rfl (by decide +kernel) (rfl) (rfl) (Nat.le_of_ble_eq_true rfl) dX6_told_27 (fun H locs hP hD hS => ?_)
      have hP : va_P E.1 vwCl [(q, .inr (7, [.int (if (decide (a < -1) || decide (¬ a ≤ 64)) then 1 else 0), .int (nI gw), .int (nI gh), .ref y1, .ref y2, .ref y3, .int a, .int (b2i wr), .ref y4, .ref y5, .int (nI k), .ref y6, .ref y7, .ref y8, .ref y9, .int (nI mk), .ref y10, .ref y11, .ref y12, .ref y13, .ref y14, .ref y15, .ref y16, .ref y17, .ref y18]))] H := hP
      have hD : va_D A [(q, .inr (7, [.int (if (decide (a < -1) || decide (¬ a ≤ 64)) then 1 else 0), .int (nI gw), .int (nI gh), .ref y1, .ref y2, .ref y3, .int a, .int (b2i wr), .ref y4, .ref y5, .int (nI k), .ref y6, .ref y7, .ref y8, .ref y9, .int (nI mk), .ref y10, .ref y11, .ref y12, .ref y13, .ref y14, .ref y15, .ref y16, .ref y17, .ref y18]))] := hD
      refine lv_aload_n hx hb dX6_told_30 rfl (lv_at hl 0 rfl) ?_
      refine lv_iconst (v := 0) hx hb dX6_told_31 (by decide) ?_
      refine va_put (D := E.1) (ci := 7) (v := .int 0) (ty := .boolean) (C := RX6) (T := TX6) (N := 25) hx hb hts hi_RX6 tyX6 tyX6_ok nmX6 hown hE.1 hP hD hS 0 rfl rfl 7 (by decide) hf_98 (fun _ h9 => h9) rfl (by decide +kernel) (rfl) (rfl) (Nat.le_of_ble_eq_true rfl) dX6_told_32 (fun H locs hP hD hS => ?_)
      have hP : va_P E.1 vwCl [(q, .inr (7, [.int (if (decide (a < -1) || decide (¬ a ≤ 64)) then 1 else 0), .int (nI gw), .int (nI gh), .ref y1, .ref y2, .ref y3, .int a, .int (b2i false), .ref y4, .ref y5, .int (nI k), .ref y6, .ref y7, .ref y8, .ref y9, .int (nI mk), .ref y10, .ref y11, .ref y12, .ref y13, .ref y14, .ref y15, .ref y16, .ref y17, .ref y18]))] H := hP
      have hD : va_D A [(q, .inr (7, [.int (if (decide (a < -1) || decide (¬ a ≤ 64)) then 1 else 0), .int (nI gw), .int (nI gh), .ref y1, .ref y2, .ref y3, .int a, .int (b2i false), .ref y4, .ref y5, .int (nI k), .ref y6, .ref y7, .ref y8, .ref y9, .int (nI mk), .ref y10, .ref y11, .ref y12, .ref y13, .ref y14, .ref y15, .ref y16, .ref y17, .ref y18]))] := hD
      exact W.vret hx hb hr (fun t9 ht9 hW => ⟨⟨rfl, [(q, .inr (7, [.int (if (decide (a < -1) || decide (¬ a ≤ 64)) then 1 else 0), .int (nI gw), .int (nI gh), .ref y1, .ref y2, .ref y3, .int a, .int (b2i false), .ref y4, .ref y5, .int (nI k), .ref y6, .ref y7, .ref y8, .ref y9, .int (nI mk), .ref y10, .ref y11, .ref y12, .ref y13, .ref y14, .ref y15, .ref y16, .ref y17, .ref y18]))], by rw [b2i_eq0] at c_21; simp only [c_21, if_true, if_false, Bool.false_eq_true], by rw [ht9]; exact hP, hD⟩, hS.F ht9⟩) hS.2.2 dX6_told_35
    · skip
      exact W.vret hx hb hr (fun t9 ht9 hW => ⟨⟨rfl, [(q, .inr (7, [.int (if (decide (a < -1) || decide (¬ a ≤ 64)) then 1 else 0), .int (nI gw), .int (nI gh), .ref y1, .ref y2, .ref y3, .int to, .int (b2i wr), .ref y4, .ref y5, .int (nI k), .ref y6, .ref y7, .ref y8, .ref y9, .int (nI mk), .ref y10, .ref y11, .ref y12, .ref y13, .ref y14, .ref y15, .ref y16, .ref y17, .ref y18]))], by rw [b2i_eq0] at c_21; simp only [show (decide (a < -1) || decide (¬ a ≤ 64)) = true from nf c_21, if_true, if_false, Bool.false_eq_true], by rw [ht9]; exact hP, hD⟩, hS.F ht9⟩) hS.2.2 dX6_told_24
  · skip
    refine lv_icmp_lt (tgt := 13) hx hb dX6_told_4 (by decide) (fun c_4 => ?_) (fun c_4 => ?_)
    · skip
      refine lv_iconst (v := 1) hx hb dX6_told_13 (by decide) ?_
      refine lv_goto (tgt := 18) hx hb dX6_told_14 (by decide) ?_
      exact K_4 _ (by simp [b2i, c_4])
    · skip
      refine lv_iload_n hx hb dX6_told_7 rfl (lv_at hl 1 rfl) ?_
      refine lv_bipush (v := 64) hx hb dX6_told_8 (by decide) ?_
      refine lv_icmp_le (tgt := 17) hx hb dX6_told_10 (by decide) (fun c_10 => ?_) (fun c_10 => ?_)
      · skip
        refine lv_iconst (v := 0) hx hb dX6_told_17 (by decide) ?_
        exact K_4 _ (by simp [b2i, c_4, c_10])
      · skip
        refine lv_iconst (v := 1) hx hb dX6_told_13 (by decide) ?_
        refine lv_goto (tgt := 18) hx hb dX6_told_14 (by decide) ?_
        exact K_4 _ (by simp [b2i, c_4, c_10])
set_option maxHeartbeats 4000000 in
set_option maxRecDepth 100000 in
theorem cX6_is_ct (l : Launch) (E : GE) (sz : Nat) (q : Nat) (y1 : Nat) (y2 : Nat) (y3 : Nat) (y4 : Nat) (y5 : Nat) (y6 : Nat) (y7 : Nat) (y8 : Nat) (y9 : Nat) (y10 : Nat) (y11 : Nat) (y12 : Nat) (y13 : Nat) (y14 : Nat) (y15 : Nat) (y16 : Nat) (y17 : Nat) (y18 : Nat) (gw : Nat) (gh : Nat) (th : Int32) (to : Int32) (wr : Bool) (k : Nat) (mk : Nat) (ed : Nat → Int32) (a : Int32) (hg1 : 1 ≤ gw) (hh1 : 1 ≤ gh) (hg8 : gw ≤ 8) (hh8 : gh ≤ 8) : wrM l yX6_is wsX6_is ({ frames := 2, cells := 0, slots := 0, locals := 41 }) E sz [.ref q, .int a] [(q, .inr (7, [.int th, .int (nI gw), .int (nI gh), .ref y1, .ref y2, .ref y3, .int to, .int (b2i wr), .ref y4, .ref y5, .int (nI k), .ref y6, .ref y7, .ref y8, .ref y9, .int (nI mk), .ref y10, .ref y11, .ref y12, .ref y13, .ref y14, .ref y15, .ref y16, .ref y17, .ref y18])), (y1, .inl (E.2 0, 128, .inl ed))] (some (.int (if rIsE gw gh a then ed a.toNatClampNeg else 0))) (fun cs' => cs' = [(q, .inr (7, [.int (if !rIsE gw gh a then 1 else 0), .int (nI gw), .int (nI gh), .ref y1, .ref y2, .ref y3, .int to, .int (b2i wr), .ref y4, .ref y5, .int (nI k), .ref y6, .ref y7, .ref y8, .ref y9, .int (nI mk), .ref y10, .ref y11, .ref y12, .ref y13, .ref y14, .ref y15, .ref y16, .ref y17, .ref y18])), (y1, .inl (E.2 0, 128, .inl ed))]) 0 0 := by
  refine Met.ofW (cc := cX6_is) (maxL := 2) (ret := (some .int)) (by decide) rfl ?_
  intro p e s m args below meth c s₁ B hml hv
  obtain ⟨rfl, hsz, hE, hP, hD0⟩ := hv
  have hx := B.exec
  have hb := B.bytes
  have hr := B.returns
  have hts := atoms_spec (ws := wsX6_is) B.pre
  have hown : s.vm.findClass RX6 = some m.cls := findClass_of_methodNamed B.named
  have hlocks := B.notSynchronized
  subst hsz
  have hD := hD0.self (sz := s.heap.size)
  generalize hAe : va_A [(q, .inr (7, [.int th, .int (nI gw), .int (nI gh), .ref y1, .ref y2, .ref y3, .int to, .int (b2i wr), .ref y4, .ref y5, .int (nI k), .ref y6, .ref y7, .ref y8, .ref y9, .int (nI mk), .ref y10, .ref y11, .ref y12, .ref y13, .ref y14, .ref y15, .ref y16, .ref y17, .ref y18])), (y1, .inl (E.2 0, 128, .inl ed))] s.heap.size = A at hD ⊢
  have hA : ∀ q : Nat, s.heap.size ≤ q → A q := fun q h => by rw [← hAe]; exact Or.inr h
  have hS : va_S A s.heap s.heap [] := va_S.rf
  have hP : va_P E.1 vwCl [(q, .inr (7, [.int th, .int (nI gw), .int (nI gh), .ref y1, .ref y2, .ref y3, .int to, .int (b2i wr), .ref y4, .ref y5, .int (nI k), .ref y6, .ref y7, .ref y8, .ref y9, .int (nI mk), .ref y10, .ref y11, .ref y12, .ref y13, .ref y14, .ref y15, .ref y16, .ref y17, .ref y18])), (y1, .inl (E.2 0, 128, .inl ed))] s.heap := hP
  have hl := lv_entry ([.ref q, .int a]) (n := 2) (Nat.le_of_ble_eq_true rfl)
  rw [lg_entry_eq]
  generalize (lg_sl ([.ref q, .int a]) ++ List.replicate (2 - (lg_sl ([.ref q, .int a])).length) Slot.unset).toArray = ls at hl ⊢
  have hl : lv_has ls 2 [(0, .ref q), (1, .int a)] := hl
  have hf_7 := hts (.fieldLink RX6 7 "LoopRegionsModel" "edges" "[I") (by decide +kernel)
  have hi_RX6 : ∀ w ∈ wsX60, w ∈ wsX6_is := by decide +kernel
  have hN : gw * gh ≤ 64 := Nat.mul_le_mul hg8 hh8
  have hN1 : 1 ≤ gw * gh := Nat.mul_le_mul hg1 hh1
  refine lv_aload_n hx hb dX6_is_0 rfl (lv_at hl 0 rfl) ?_
  refine lv_iconst (v := 1) hx hb dX6_is_1 (by decide) ?_
  refine lv_aload_n hx hb dX6_is_2 rfl (lv_at hl 0 rfl) ?_
  refine lv_iload_n hx hb dX6_is_3 rfl (lv_at hl 1 rfl) ?_
  refine crVi (As := [.int a]) (rest := [.int 1, .ref q]) ⟨hx, hb, hml, hown, hts⟩ hE (cX6_isEdge_ct l E q y1 y2 y3 y4 y5 y6 y7 y8 y9 y10 y11 y12 y13 y14 y15 y16 y17 y18 gw gh th to wr k mk a (by first | assumption | omega | (subst_vars; assumption)) (by first | assumption | omega | (subst_vars; assumption)) (by first | assumption | omega | (subst_vars; assumption)) (by first | assumption | omega | (subst_vars; assumption))) (cwV 1 hts gX6_is_X6_isEdge rfl rfl rfl (by decide +kernel) ⟨Nat.le_of_ble_eq_true rfl, Nat.le_of_ble_eq_true rfl⟩) (hP.sub (ws' := [(q, .inr (7, [.int th, .int (nI gw), .int (nI gh), .ref y1, .ref y2, .ref y3, .int to, .int (b2i wr), .ref y4, .ref y5, .int (nI k), .ref y6, .ref y7, .ref y8, .ref y9, .int (nI mk), .ref y10, .ref y11, .ref y12, .ref y13, .ref y14, .ref y15, .ref y16, .ref y17, .ref y18]))]) [0] rfl) (va_recv hE.1 hP (ci := 7) (q0 := 0) rfl rfl) rfl hl.1 rfl (Nat.le_of_ble_eq_true rfl) dX6_is_4 ⟨Nat.zero_le _, Nat.zero_le _⟩ ?_
  refine W_joinI (J := 15) (rest := [.int 1, .ref q]) (fun z9 => z9 = b2i (!rIsE gw gh a)) (fun v_1 ev_1 => ?_) (fun K_7 => ?_)
  · skip
    subst ev_1
    refine wrV (As := [.int 1, .int (b2i (!rIsE gw gh a))]) (rest := []) (wr := [(y1, .inl (E.2 0, 128, .inl ed))]) ⟨hx, hb, hml, hown, hts⟩ hE (cX6_fails_ct l E s.heap.size q y1 y2 y3 y4 y5 y6 y7 y8 y9 y10 y11 y12 y13 y14 y15 y16 y17 y18 gw gh th to wr k mk 1 (!rIsE gw gh a)) (cwV 2 hts gX6_is_X6_fails rfl rfl rfl (by decide +kernel) ⟨Nat.le_of_ble_eq_true rfl, Nat.le_of_ble_eq_true rfl⟩) hP hD hS hA [0] [1] rfl rfl (by decide) (by decide) (hP.sub (ws' := [(q, .inr (7, [.int th, .int (nI gw), .int (nI gh), .ref y1, .ref y2, .ref y3, .int to, .int (b2i wr), .ref y4, .ref y5, .int (nI k), .ref y6, .ref y7, .ref y8, .ref y9, .int (nI mk), .ref y10, .ref y11, .ref y12, .ref y13, .ref y14, .ref y15, .ref y16, .ref y17, .ref y18]))]) [0] rfl) (hD.sub (ws' := [(q, .inr (7, [.int th, .int (nI gw), .int (nI gh), .ref y1, .ref y2, .ref y3, .int to, .int (b2i wr), .ref y4, .ref y5, .int (nI k), .ref y6, .ref y7, .ref y8, .ref y9, .int (nI mk), .ref y10, .ref y11, .ref y12, .ref y13, .ref y14, .ref y15, .ref y16, .ref y17, .ref y18]))]) [0] (by decide) rfl) (va_recv hE.1 hP (ci := 7) (q0 := 0) rfl rfl) rfl hl.1 rfl (Nat.le_of_ble_eq_true rfl) dX6_is_15 ⟨Nat.zero_le _, Nat.zero_le _⟩ (fun cs_ H locs h_2 hP hD hS => ?_)
    subst h_2
    have hP : va_P E.1 vwCl [(q, .inr (7, [.int (if (!rIsE gw gh a) then 1 else 0), .int (nI gw), .int (nI gh), .ref y1, .ref y2, .ref y3, .int to, .int (b2i wr), .ref y4, .ref y5, .int (nI k), .ref y6, .ref y7, .ref y8, .ref y9, .int (nI mk), .ref y10, .ref y11, .ref y12, .ref y13, .ref y14, .ref y15, .ref y16, .ref y17, .ref y18])), (y1, .inl (E.2 0, 128, .inl ed))] H := hP.sub [1, 0] rfl
    have hD : va_D A [(q, .inr (7, [.int (if (!rIsE gw gh a) then 1 else 0), .int (nI gw), .int (nI gh), .ref y1, .ref y2, .ref y3, .int to, .int (b2i wr), .ref y4, .ref y5, .int (nI k), .ref y6, .ref y7, .ref y8, .ref y9, .int (nI mk), .ref y10, .ref y11, .ref y12, .ref y13, .ref y14, .ref y15, .ref y16, .ref y17, .ref y18])), (y1, .inl (E.2 0, 128, .inl ed))] := hD.sub [1, 0] (by decide) rfl
    refine lv_if_eq (tgt := 25) hx hb dX6_is_18 (by decide) (fun c_18 => ?_) (fun c_18 => ?_)
    · skip
      have hok : rIsE gw gh a = true := by rw [b2i_eq0] at c_18; simpa using c_18
      obtain ⟨j, hj, rfl, he⟩ := rIsE_some hg8 hh8 hok
      refine lv_aload_n hx hb dX6_is_25 rfl (lv_at hl 0 rfl) ?_
      refine va_get (D := E.1) (ci := 7) (v := .ref y1) (C := RX6) (T := TX6) (N := 25) hx hb hts hi_RX6 hown hE.1 hP 0 rfl rfl 3 (by decide) hf_7 (fun _ h9 => h9) rfl dX6_is_26 ?_
      refine lv_iload_n hx hb dX6_is_29 rfl (lv_at hl 1 rfl) ?_
      refine va_iald hx hb hE.1 hP 1 0 rfl rfl (show vp_in (nI j) 128 from vp_in_nI (by omega) (by decide)) dX6_is_30 ?_
      refine lv_eqi (congrArg ed (show (nI j : Int32).toNatClampNeg = j from nI_clamp (by omega))) ?_
      exact W.iret (v := ed j) hx hb hr (fun t9 ht9 hW => ⟨⟨by rw [if_pos hok, nI_clamp (by omega)], [(q, .inr (7, [.int (if (!rIsE gw gh (nI j)) then 1 else 0), .int (nI gw), .int (nI gh), .ref y1, .ref y2, .ref y3, .int to, .int (b2i wr), .ref y4, .ref y5, .int (nI k), .ref y6, .ref y7, .ref y8, .ref y9, .int (nI mk), .ref y10, .ref y11, .ref y12, .ref y13, .ref y14, .ref y15, .ref y16, .ref y17, .ref y18])), (y1, .inl (E.2 0, 128, .inl ed))], rfl, by rw [ht9]; exact hP, hD⟩, hS.F ht9⟩) hS.2.2 dX6_is_31
    · skip
      refine lv_iconst (v := 0) hx hb dX6_is_21 (by decide) ?_
      refine lv_goto (tgt := 31) hx hb dX6_is_22 (by decide) ?_
      exact W.iret (v := 0) hx hb hr (fun t9 ht9 hW => ⟨⟨by rw [b2i_eq0] at c_18; have hbad : rIsE gw gh a = false := (by simpa using c_18); rw [hbad]; rfl, [(q, .inr (7, [.int (if (!rIsE gw gh a) then 1 else 0), .int (nI gw), .int (nI gh), .ref y1, .ref y2, .ref y3, .int to, .int (b2i wr), .ref y4, .ref y5, .int (nI k), .ref y6, .ref y7, .ref y8, .ref y9, .int (nI mk), .ref y10, .ref y11, .ref y12, .ref y13, .ref y14, .ref y15, .ref y16, .ref y17, .ref y18])), (y1, .inl (E.2 0, 128, .inl ed))], rfl, by rw [ht9]; exact hP, hD⟩, hS.F ht9⟩) hS.2.2 dX6_is_31
  · skip
    refine lv_if_ne (tgt := 14) hx hb dX6_is_7 (by decide) (fun c_7 => ?_) (fun c_7 => ?_)
    · skip
      refine lv_iconst (v := 0) hx hb dX6_is_14 (by decide) ?_
      exact K_7 _ (by rw [b2i_eq0] at c_7; simp [b2i, c_7])
    · skip
      refine lv_iconst (v := 1) hx hb dX6_is_10 (by decide) ?_
      refine lv_goto (tgt := 15) hx hb dX6_is_11 (by decide) ?_
      exact K_7 _ (by rw [b2i_eq0] at c_7; simp [b2i, c_7])
set_option maxHeartbeats 4000000 in
set_option maxRecDepth 100000 in
theorem cX6_reason_ct (l : Launch) (E : GE) (sz : Nat) (q : Nat) (y1 : Nat) (y2 : Nat) (y3 : Nat) (y4 : Nat) (y5 : Nat) (y6 : Nat) (y7 : Nat) (y8 : Nat) (y9 : Nat) (y10 : Nat) (y11 : Nat) (y12 : Nat) (y13 : Nat) (y14 : Nat) (y15 : Nat) (y16 : Nat) (y17 : Nat) (y18 : Nat) (gw : Nat) (gh : Nat) (th : Int32) (to : Int32) (wr : Bool) (k : Nat) (mk : Nat) (eb : Nat → Int32) (a : Int32) (hg1 : 1 ≤ gw) (hh1 : 1 ≤ gh) (hg8 : gw ≤ 8) (hh8 : gh ≤ 8) : wrM l yX6_reason wsX6_reason ({ frames := 2, cells := 0, slots := 0, locals := 41 }) E sz [.ref q, .int a] [(q, .inr (7, [.int th, .int (nI gw), .int (nI gh), .ref y1, .ref y2, .ref y3, .int to, .int (b2i wr), .ref y4, .ref y5, .int (nI k), .ref y6, .ref y7, .ref y8, .ref y9, .int (nI mk), .ref y10, .ref y11, .ref y12, .ref y13, .ref y14, .ref y15, .ref y16, .ref y17, .ref y18])), (y4, .inl (E.2 0, 128, .inl eb))] (some (.int (if rIsE gw gh a then eb a.toNatClampNeg else 0))) (fun cs' => cs' = [(q, .inr (7, [.int (if !rIsE gw gh a then 1 else 0), .int (nI gw), .int (nI gh), .ref y1, .ref y2, .ref y3, .int to, .int (b2i wr), .ref y4, .ref y5, .int (nI k), .ref y6, .ref y7, .ref y8, .ref y9, .int (nI mk), .ref y10, .ref y11, .ref y12, .ref y13, .ref y14, .ref y15, .ref y16, .ref y17, .ref y18])), (y4, .inl (E.2 0, 128, .inl eb))]) 0 0 := by
  refine Met.ofW (cc := cX6_reason) (maxL := 2) (ret := (some .int)) (by decide) rfl ?_
  intro p e s m args below meth c s₁ B hml hv
  obtain ⟨rfl, hsz, hE, hP, hD0⟩ := hv
  have hx := B.exec
  have hb := B.bytes
  have hr := B.returns
  have hts := atoms_spec (ws := wsX6_reason) B.pre
  have hown : s.vm.findClass RX6 = some m.cls := findClass_of_methodNamed B.named
  have hlocks := B.notSynchronized
  subst hsz
  have hD := hD0.self (sz := s.heap.size)
  generalize hAe : va_A [(q, .inr (7, [.int th, .int (nI gw), .int (nI gh), .ref y1, .ref y2, .ref y3, .int to, .int (b2i wr), .ref y4, .ref y5, .int (nI k), .ref y6, .ref y7, .ref y8, .ref y9, .int (nI mk), .ref y10, .ref y11, .ref y12, .ref y13, .ref y14, .ref y15, .ref y16, .ref y17, .ref y18])), (y4, .inl (E.2 0, 128, .inl eb))] s.heap.size = A at hD ⊢
  have hA : ∀ q : Nat, s.heap.size ≤ q → A q := fun q h => by rw [← hAe]; exact Or.inr h
  have hS : va_S A s.heap s.heap [] := va_S.rf
  have hP : va_P E.1 vwCl [(q, .inr (7, [.int th, .int (nI gw), .int (nI gh), .ref y1, .ref y2, .ref y3, .int to, .int (b2i wr), .ref y4, .ref y5, .int (nI k), .ref y6, .ref y7, .ref y8, .ref y9, .int (nI mk), .ref y10, .ref y11, .ref y12, .ref y13, .ref y14, .ref y15, .ref y16, .ref y17, .ref y18])), (y4, .inl (E.2 0, 128, .inl eb))] s.heap := hP
  have hl := lv_entry ([.ref q, .int a]) (n := 2) (Nat.le_of_ble_eq_true rfl)
  rw [lg_entry_eq]
  generalize (lg_sl ([.ref q, .int a]) ++ List.replicate (2 - (lg_sl ([.ref q, .int a])).length) Slot.unset).toArray = ls at hl ⊢
  have hl : lv_has ls 2 [(0, .ref q), (1, .int a)] := hl
  have hf_23 := hts (.fieldLink RX6 23 "LoopRegionsModel" "edgeBy" "[I") (by decide +kernel)
  have hi_RX6 : ∀ w ∈ wsX60, w ∈ wsX6_reason := by decide +kernel
  have hN : gw * gh ≤ 64 := Nat.mul_le_mul hg8 hh8
  have hN1 : 1 ≤ gw * gh := Nat.mul_le_mul hg1 hh1
  refine lv_aload_n hx hb dX6_reason_0 rfl (lv_at hl 0 rfl) ?_
  refine lv_iconst (v := 1) hx hb dX6_reason_1 (by decide) ?_
  refine lv_aload_n hx hb dX6_reason_2 rfl (lv_at hl 0 rfl) ?_
  refine lv_iload_n hx hb dX6_reason_3 rfl (lv_at hl 1 rfl) ?_
  refine crVi (As := [.int a]) (rest := [.int 1, .ref q]) ⟨hx, hb, hml, hown, hts⟩ hE (cX6_isEdge_ct l E q y1 y2 y3 y4 y5 y6 y7 y8 y9 y10 y11 y12 y13 y14 y15 y16 y17 y18 gw gh th to wr k mk a (by first | assumption | omega | (subst_vars; assumption)) (by first | assumption | omega | (subst_vars; assumption)) (by first | assumption | omega | (subst_vars; assumption)) (by first | assumption | omega | (subst_vars; assumption))) (cwV 1 hts gX6_reason_X6_isEdge rfl rfl rfl (by decide +kernel) ⟨Nat.le_of_ble_eq_true rfl, Nat.le_of_ble_eq_true rfl⟩) (hP.sub (ws' := [(q, .inr (7, [.int th, .int (nI gw), .int (nI gh), .ref y1, .ref y2, .ref y3, .int to, .int (b2i wr), .ref y4, .ref y5, .int (nI k), .ref y6, .ref y7, .ref y8, .ref y9, .int (nI mk), .ref y10, .ref y11, .ref y12, .ref y13, .ref y14, .ref y15, .ref y16, .ref y17, .ref y18]))]) [0] rfl) (va_recv hE.1 hP (ci := 7) (q0 := 0) rfl rfl) rfl hl.1 rfl (Nat.le_of_ble_eq_true rfl) dX6_reason_4 ⟨Nat.zero_le _, Nat.zero_le _⟩ ?_
  refine W_joinI (J := 15) (rest := [.int 1, .ref q]) (fun z9 => z9 = b2i (!rIsE gw gh a)) (fun v_1 ev_1 => ?_) (fun K_7 => ?_)
  · skip
    subst ev_1
    refine wrV (As := [.int 1, .int (b2i (!rIsE gw gh a))]) (rest := []) (wr := [(y4, .inl (E.2 0, 128, .inl eb))]) ⟨hx, hb, hml, hown, hts⟩ hE (cX6_fails_ct l E s.heap.size q y1 y2 y3 y4 y5 y6 y7 y8 y9 y10 y11 y12 y13 y14 y15 y16 y17 y18 gw gh th to wr k mk 1 (!rIsE gw gh a)) (cwV 2 hts gX6_reason_X6_fails rfl rfl rfl (by decide +kernel) ⟨Nat.le_of_ble_eq_true rfl, Nat.le_of_ble_eq_true rfl⟩) hP hD hS hA [0] [1] rfl rfl (by decide) (by decide) (hP.sub (ws' := [(q, .inr (7, [.int th, .int (nI gw), .int (nI gh), .ref y1, .ref y2, .ref y3, .int to, .int (b2i wr), .ref y4, .ref y5, .int (nI k), .ref y6, .ref y7, .ref y8, .ref y9, .int (nI mk), .ref y10, .ref y11, .ref y12, .ref y13, .ref y14, .ref y15, .ref y16, .ref y17, .ref y18]))]) [0] rfl) (hD.sub (ws' := [(q, .inr (7, [.int th, .int (nI gw), .int (nI gh), .ref y1, .ref y2, .ref y3, .int to, .int (b2i wr), .ref y4, .ref y5, .int (nI k), .ref y6, .ref y7, .ref y8, .ref y9, .int (nI mk), .ref y10, .ref y11, .ref y12, .ref y13, .ref y14, .ref y15, .ref y16, .ref y17, .ref y18]))]) [0] (by decide) rfl) (va_recv hE.1 hP (ci := 7) (q0 := 0) rfl rfl) rfl hl.1 rfl (Nat.le_of_ble_eq_true rfl) dX6_reason_15 ⟨Nat.zero_le _, Nat.zero_le _⟩ (fun cs_ H locs h_2 hP hD hS => ?_)
    subst h_2
    have hP : va_P E.1 vwCl [(q, .inr (7, [.int (if (!rIsE gw gh a) then 1 else 0), .int (nI gw), .int (nI gh), .ref y1, .ref y2, .ref y3, .int to, .int (b2i wr), .ref y4, .ref y5, .int (nI k), .ref y6, .ref y7, .ref y8, .ref y9, .int (nI mk), .ref y10, .ref y11, .ref y12, .ref y13, .ref y14, .ref y15, .ref y16, .ref y17, .ref y18])), (y4, .inl (E.2 0, 128, .inl eb))] H := hP.sub [1, 0] rfl
    have hD : va_D A [(q, .inr (7, [.int (if (!rIsE gw gh a) then 1 else 0), .int (nI gw), .int (nI gh), .ref y1, .ref y2, .ref y3, .int to, .int (b2i wr), .ref y4, .ref y5, .int (nI k), .ref y6, .ref y7, .ref y8, .ref y9, .int (nI mk), .ref y10, .ref y11, .ref y12, .ref y13, .ref y14, .ref y15, .ref y16, .ref y17, .ref y18])), (y4, .inl (E.2 0, 128, .inl eb))] := hD.sub [1, 0] (by decide) rfl
    refine lv_if_eq (tgt := 25) hx hb dX6_reason_18 (by decide) (fun c_18 => ?_) (fun c_18 => ?_)
    · skip
      have hok : rIsE gw gh a = true := by rw [b2i_eq0] at c_18; simpa using c_18
      obtain ⟨j, hj, rfl, he⟩ := rIsE_some hg8 hh8 hok
      refine lv_aload_n hx hb dX6_reason_25 rfl (lv_at hl 0 rfl) ?_
      refine va_get (D := E.1) (ci := 7) (v := .ref y4) (C := RX6) (T := TX6) (N := 25) hx hb hts hi_RX6 hown hE.1 hP 0 rfl rfl 8 (by decide) hf_23 (fun _ h9 => h9) rfl dX6_reason_26 ?_
      refine lv_iload_n hx hb dX6_reason_29 rfl (lv_at hl 1 rfl) ?_
      refine va_iald hx hb hE.1 hP 1 0 rfl rfl (show vp_in (nI j) 128 from vp_in_nI (by omega) (by decide)) dX6_reason_30 ?_
      refine lv_eqi (congrArg eb (show (nI j : Int32).toNatClampNeg = j from nI_clamp (by omega))) ?_
      exact W.iret (v := eb j) hx hb hr (fun t9 ht9 hW => ⟨⟨by rw [if_pos hok, nI_clamp (by omega)], [(q, .inr (7, [.int (if (!rIsE gw gh (nI j)) then 1 else 0), .int (nI gw), .int (nI gh), .ref y1, .ref y2, .ref y3, .int to, .int (b2i wr), .ref y4, .ref y5, .int (nI k), .ref y6, .ref y7, .ref y8, .ref y9, .int (nI mk), .ref y10, .ref y11, .ref y12, .ref y13, .ref y14, .ref y15, .ref y16, .ref y17, .ref y18])), (y4, .inl (E.2 0, 128, .inl eb))], rfl, by rw [ht9]; exact hP, hD⟩, hS.F ht9⟩) hS.2.2 dX6_reason_31
    · skip
      refine lv_iconst (v := 0) hx hb dX6_reason_21 (by decide) ?_
      refine lv_goto (tgt := 31) hx hb dX6_reason_22 (by decide) ?_
      exact W.iret (v := 0) hx hb hr (fun t9 ht9 hW => ⟨⟨by rw [b2i_eq0] at c_18; have hbad : rIsE gw gh a = false := (by simpa using c_18); rw [hbad]; rfl, [(q, .inr (7, [.int (if (!rIsE gw gh a) then 1 else 0), .int (nI gw), .int (nI gh), .ref y1, .ref y2, .ref y3, .int to, .int (b2i wr), .ref y4, .ref y5, .int (nI k), .ref y6, .ref y7, .ref y8, .ref y9, .int (nI mk), .ref y10, .ref y11, .ref y12, .ref y13, .ref y14, .ref y15, .ref y16, .ref y17, .ref y18])), (y4, .inl (E.2 0, 128, .inl eb))], rfl, by rw [ht9]; exact hP, hD⟩, hS.F ht9⟩) hS.2.2 dX6_reason_31
  · skip
    refine lv_if_ne (tgt := 14) hx hb dX6_reason_7 (by decide) (fun c_7 => ?_) (fun c_7 => ?_)
    · skip
      refine lv_iconst (v := 0) hx hb dX6_reason_14 (by decide) ?_
      exact K_7 _ (by rw [b2i_eq0] at c_7; simp [b2i, c_7])
    · skip
      refine lv_iconst (v := 1) hx hb dX6_reason_10 (by decide) ?_
      refine lv_goto (tgt := 15) hx hb dX6_reason_11 (by decide) ?_
      exact K_7 _ (by rw [b2i_eq0] at c_7; simp [b2i, c_7])
set_option maxHeartbeats 4000000 in
set_option maxRecDepth 100000 in
theorem cX6_cell_ct (l : Launch) (E : GE) (sz : Nat) (q : Nat) (y1 : Nat) (y2 : Nat) (y3 : Nat) (y4 : Nat) (y5 : Nat) (y6 : Nat) (y7 : Nat) (y8 : Nat) (y9 : Nat) (y10 : Nat) (y11 : Nat) (y12 : Nat) (y13 : Nat) (y14 : Nat) (y15 : Nat) (y16 : Nat) (y17 : Nat) (y18 : Nat) (gw : Nat) (gh : Nat) (th : Int32) (to : Int32) (wr : Bool) (k : Nat) (mk : Nat) (ed : Nat → Int32) (du : Nat → Int32) (sh : Nat → Int32) (sb : Nat → Int32) (a d : Int32) (hg1 : 1 ≤ gw) (hh1 : 1 ≤ gh) (hg8 : gw ≤ 8) (hh8 : gh ≤ 8) : wrM l yX6_cell wsX6_cell ({ frames := 4, cells := 0, slots := 0, locals := 88 }) E sz [.ref q, .int a, .int d] [(q, .inr (7, [.int th, .int (nI gw), .int (nI gh), .ref y1, .ref y2, .ref y3, .int to, .int (b2i wr), .ref y4, .ref y5, .int (nI k), .ref y6, .ref y7, .ref y8, .ref y9, .int (nI mk), .ref y10, .ref y11, .ref y12, .ref y13, .ref y14, .ref y15, .ref y16, .ref y17, .ref y18])), (y1, .inl (E.2 0, 128, .inl ed)), (y2, .inl (E.2 0, 64, .inl du)), (y3, .inl (E.2 0, 64, .inl sh)), (y5, .inl (E.2 0, 64, .inl sb))] (some (.int (if rIsC gw gh a then (if d = 0 then sh a.toNatClampNeg else if d = 1 then du a.toNatClampNeg else if d = 2 then nI (cnt gw gh ed a.toNatClampNeg 1) else if d = 3 then nI (cnt gw gh ed a.toNatClampNeg 0) else if d = 4 then sb a.toNatClampNeg else -1) else 0))) (fun cs' => cs' = [(q, .inr (7, [.int (if !rIsC gw gh a then 1 else 0), .int (nI gw), .int (nI gh), .ref y1, .ref y2, .ref y3, .int to, .int (b2i wr), .ref y4, .ref y5, .int (nI k), .ref y6, .ref y7, .ref y8, .ref y9, .int (nI mk), .ref y10, .ref y11, .ref y12, .ref y13, .ref y14, .ref y15, .ref y16, .ref y17, .ref y18])), (y1, .inl (E.2 0, 128, .inl ed)), (y2, .inl (E.2 0, 64, .inl du)), (y3, .inl (E.2 0, 64, .inl sh)), (y5, .inl (E.2 0, 64, .inl sb))]) 0 0 := by
  refine Met.ofW (cc := cX6_cell) (maxL := 3) (ret := (some .int)) (by decide) rfl ?_
  intro p e s m args below meth c s₁ B hml hv
  obtain ⟨rfl, hsz, hE, hP, hD0⟩ := hv
  have hx := B.exec
  have hb := B.bytes
  have hr := B.returns
  have hts := atoms_spec (ws := wsX6_cell) B.pre
  have hown : s.vm.findClass RX6 = some m.cls := findClass_of_methodNamed B.named
  have hlocks := B.notSynchronized
  subst hsz
  have hD := hD0.self (sz := s.heap.size)
  generalize hAe : va_A [(q, .inr (7, [.int th, .int (nI gw), .int (nI gh), .ref y1, .ref y2, .ref y3, .int to, .int (b2i wr), .ref y4, .ref y5, .int (nI k), .ref y6, .ref y7, .ref y8, .ref y9, .int (nI mk), .ref y10, .ref y11, .ref y12, .ref y13, .ref y14, .ref y15, .ref y16, .ref y17, .ref y18])), (y1, .inl (E.2 0, 128, .inl ed)), (y2, .inl (E.2 0, 64, .inl du)), (y3, .inl (E.2 0, 64, .inl sh)), (y5, .inl (E.2 0, 64, .inl sb))] s.heap.size = A at hD ⊢
  have hA : ∀ q : Nat, s.heap.size ≤ q → A q := fun q h => by rw [← hAe]; exact Or.inr h
  have hS : va_S A s.heap s.heap [] := va_S.rf
  have hP : va_P E.1 vwCl [(q, .inr (7, [.int th, .int (nI gw), .int (nI gh), .ref y1, .ref y2, .ref y3, .int to, .int (b2i wr), .ref y4, .ref y5, .int (nI k), .ref y6, .ref y7, .ref y8, .ref y9, .int (nI mk), .ref y10, .ref y11, .ref y12, .ref y13, .ref y14, .ref y15, .ref y16, .ref y17, .ref y18])), (y1, .inl (E.2 0, 128, .inl ed)), (y2, .inl (E.2 0, 64, .inl du)), (y3, .inl (E.2 0, 64, .inl sh)), (y5, .inl (E.2 0, 64, .inl sb))] s.heap := hP
  have hl := lv_entry ([.ref q, .int a, .int d]) (n := 3) (Nat.le_of_ble_eq_true rfl)
  rw [lg_entry_eq]
  generalize (lg_sl ([.ref q, .int a, .int d]) ++ List.replicate (3 - (lg_sl ([.ref q, .int a, .int d])).length) Slot.unset).toArray = ls at hl ⊢
  have hl : lv_has ls 3 [(0, .ref q), (1, .int a), (2, .int d)] := hl
  have hf_13 := hts (.fieldLink RX6 13 "LoopRegionsModel" "duties" "[I") (by decide +kernel)
  have hf_16 := hts (.fieldLink RX6 16 "LoopRegionsModel" "shades" "[I") (by decide +kernel)
  have hf_26 := hts (.fieldLink RX6 26 "LoopRegionsModel" "shadeBy" "[I") (by decide +kernel)
  have hi_RX6 : ∀ w ∈ wsX60, w ∈ wsX6_cell := by decide +kernel
  have hN : gw * gh ≤ 64 := Nat.mul_le_mul hg8 hh8
  have hN1 : 1 ≤ gw * gh := Nat.mul_le_mul hg1 hh1
  refine lv_aload_n hx hb dX6_cell_0 rfl (lv_at hl 0 rfl) ?_
  refine lv_iconst (v := 1) hx hb dX6_cell_1 (by decide) ?_
  refine lv_aload_n hx hb dX6_cell_2 rfl (lv_at hl 0 rfl) ?_
  refine lv_iload_n hx hb dX6_cell_3 rfl (lv_at hl 1 rfl) ?_
  refine crVi (As := [.int a]) (rest := [.int 1, .ref q]) ⟨hx, hb, hml, hown, hts⟩ hE (cX6_isCell_ct l E q y1 y2 y3 y4 y5 y6 y7 y8 y9 y10 y11 y12 y13 y14 y15 y16 y17 y18 gw gh th to wr k mk a) (cwV 1 hts gX6_cell_X6_isCell rfl rfl rfl (by decide +kernel) ⟨Nat.le_of_ble_eq_true rfl, Nat.le_of_ble_eq_true rfl⟩) (hP.sub (ws' := [(q, .inr (7, [.int th, .int (nI gw), .int (nI gh), .ref y1, .ref y2, .ref y3, .int to, .int (b2i wr), .ref y4, .ref y5, .int (nI k), .ref y6, .ref y7, .ref y8, .ref y9, .int (nI mk), .ref y10, .ref y11, .ref y12, .ref y13, .ref y14, .ref y15, .ref y16, .ref y17, .ref y18]))]) [0] rfl) (va_recv hE.1 hP (ci := 7) (q0 := 0) rfl rfl) rfl hl.1 rfl (Nat.le_of_ble_eq_true rfl) dX6_cell_4 ⟨Nat.zero_le _, Nat.zero_le _⟩ ?_
  refine W_joinI (J := 15) (rest := [.int 1, .ref q]) (fun z9 => z9 = b2i (!rIsC gw gh a)) (fun v_1 ev_1 => ?_) (fun K_7 => ?_)
  · skip
    subst ev_1
    refine wrV (As := [.int 1, .int (b2i (!rIsC gw gh a))]) (rest := []) (wr := [(y1, .inl (E.2 0, 128, .inl ed)), (y2, .inl (E.2 0, 64, .inl du)), (y3, .inl (E.2 0, 64, .inl sh)), (y5, .inl (E.2 0, 64, .inl sb))]) ⟨hx, hb, hml, hown, hts⟩ hE (cX6_fails_ct l E s.heap.size q y1 y2 y3 y4 y5 y6 y7 y8 y9 y10 y11 y12 y13 y14 y15 y16 y17 y18 gw gh th to wr k mk 1 (!rIsC gw gh a)) (cwV 2 hts gX6_cell_X6_fails rfl rfl rfl (by decide +kernel) ⟨Nat.le_of_ble_eq_true rfl, Nat.le_of_ble_eq_true rfl⟩) hP hD hS hA [0] [1, 2, 3, 4] rfl rfl (by decide) (by decide) (hP.sub (ws' := [(q, .inr (7, [.int th, .int (nI gw), .int (nI gh), .ref y1, .ref y2, .ref y3, .int to, .int (b2i wr), .ref y4, .ref y5, .int (nI k), .ref y6, .ref y7, .ref y8, .ref y9, .int (nI mk), .ref y10, .ref y11, .ref y12, .ref y13, .ref y14, .ref y15, .ref y16, .ref y17, .ref y18]))]) [0] rfl) (hD.sub (ws' := [(q, .inr (7, [.int th, .int (nI gw), .int (nI gh), .ref y1, .ref y2, .ref y3, .int to, .int (b2i wr), .ref y4, .ref y5, .int (nI k), .ref y6, .ref y7, .ref y8, .ref y9, .int (nI mk), .ref y10, .ref y11, .ref y12, .ref y13, .ref y14, .ref y15, .ref y16, .ref y17, .ref y18]))]) [0] (by decide) rfl) (va_recv hE.1 hP (ci := 7) (q0 := 0) rfl rfl) rfl hl.1 rfl (Nat.le_of_ble_eq_true rfl) dX6_cell_15 ⟨Nat.zero_le _, Nat.zero_le _⟩ (fun cs_ H locs h_2 hP hD hS => ?_)
    subst h_2
    have hP : va_P E.1 vwCl [(q, .inr (7, [.int (if (!rIsC gw gh a) then 1 else 0), .int (nI gw), .int (nI gh), .ref y1, .ref y2, .ref y3, .int to, .int (b2i wr), .ref y4, .ref y5, .int (nI k), .ref y6, .ref y7, .ref y8, .ref y9, .int (nI mk), .ref y10, .ref y11, .ref y12, .ref y13, .ref y14, .ref y15, .ref y16, .ref y17, .ref y18])), (y1, .inl (E.2 0, 128, .inl ed)), (y2, .inl (E.2 0, 64, .inl du)), (y3, .inl (E.2 0, 64, .inl sh)), (y5, .inl (E.2 0, 64, .inl sb))] H := hP.sub [4, 0, 1, 2, 3] rfl
    have hD : va_D A [(q, .inr (7, [.int (if (!rIsC gw gh a) then 1 else 0), .int (nI gw), .int (nI gh), .ref y1, .ref y2, .ref y3, .int to, .int (b2i wr), .ref y4, .ref y5, .int (nI k), .ref y6, .ref y7, .ref y8, .ref y9, .int (nI mk), .ref y10, .ref y11, .ref y12, .ref y13, .ref y14, .ref y15, .ref y16, .ref y17, .ref y18])), (y1, .inl (E.2 0, 128, .inl ed)), (y2, .inl (E.2 0, 64, .inl du)), (y3, .inl (E.2 0, 64, .inl sh)), (y5, .inl (E.2 0, 64, .inl sb))] := hD.sub [4, 0, 1, 2, 3] (by decide) rfl
    refine lv_if_eq (tgt := 23) hx hb dX6_cell_18 (by decide) (fun c_18 => ?_) (fun c_18 => ?_)
    · skip
      have hok : rIsC gw gh a = true := by rw [b2i_eq0] at c_18; simpa using c_18
      obtain ⟨j, hj, rfl⟩ := rIsC_some (by omega) hok
      refine lv_iload_n hx hb dX6_cell_23 rfl (lv_at hl 2 rfl) ?_
      by_cases t_24_0 : d = 0
      · skip
        refine lv_tableIn (tgt := 60) hx hb dX6_cell_24 (by rw [t_24_0]; decide) (by rw [t_24_0]; decide) (by rw [t_24_0]; rfl) (by decide) ?_
        refine lv_aload_n hx hb dX6_cell_60 rfl (lv_at hl 0 rfl) ?_
        refine va_get (D := E.1) (ci := 7) (v := .ref y3) (C := RX6) (T := TX6) (N := 25) hx hb hts hi_RX6 hown hE.1 hP 0 rfl rfl 5 (by decide) hf_16 (fun _ h9 => h9) rfl dX6_cell_61 ?_
        refine lv_iload_n hx hb dX6_cell_64 rfl (lv_at hl 1 rfl) ?_
        refine va_iald hx hb hE.1 hP 3 0 rfl rfl (show vp_in (nI j) 64 from vp_in_nI (by omega) (by decide)) dX6_cell_65 ?_
        refine lv_eqi (congrArg sh (show (nI j : Int32).toNatClampNeg = j from nI_clamp (by omega))) ?_
        exact W.iret (v := sh j) hx hb hr (fun t9 ht9 hW => ⟨⟨by subst t_24_0; rw [if_pos hok, nI_clamp (by omega)]; rfl, [(q, .inr (7, [.int (if (!rIsC gw gh (nI j)) then 1 else 0), .int (nI gw), .int (nI gh), .ref y1, .ref y2, .ref y3, .int to, .int (b2i wr), .ref y4, .ref y5, .int (nI k), .ref y6, .ref y7, .ref y8, .ref y9, .int (nI mk), .ref y10, .ref y11, .ref y12, .ref y13, .ref y14, .ref y15, .ref y16, .ref y17, .ref y18])), (y1, .inl (E.2 0, 128, .inl ed)), (y2, .inl (E.2 0, 64, .inl du)), (y3, .inl (E.2 0, 64, .inl sh)), (y5, .inl (E.2 0, 64, .inl sb))], rfl, by rw [ht9]; exact hP, hD⟩, hS.F ht9⟩) hS.2.2 dX6_cell_66
      by_cases t_24_1 : d = 1
      · skip
        refine lv_tableIn (tgt := 67) hx hb dX6_cell_24 (by rw [t_24_1]; decide) (by rw [t_24_1]; decide) (by rw [t_24_1]; rfl) (by decide) ?_
        refine lv_aload_n hx hb dX6_cell_67 rfl (lv_at hl 0 rfl) ?_
        refine va_get (D := E.1) (ci := 7) (v := .ref y2) (C := RX6) (T := TX6) (N := 25) hx hb hts hi_RX6 hown hE.1 hP 0 rfl rfl 4 (by decide) hf_13 (fun _ h9 => h9) rfl dX6_cell_68 ?_
        refine lv_iload_n hx hb dX6_cell_71 rfl (lv_at hl 1 rfl) ?_
        refine va_iald hx hb hE.1 hP 2 0 rfl rfl (show vp_in (nI j) 64 from vp_in_nI (by omega) (by decide)) dX6_cell_72 ?_
        refine lv_eqi (congrArg du (show (nI j : Int32).toNatClampNeg = j from nI_clamp (by omega))) ?_
        exact W.iret (v := du j) hx hb hr (fun t9 ht9 hW => ⟨⟨by subst t_24_1; rw [if_pos hok, nI_clamp (by omega)]; rfl, [(q, .inr (7, [.int (if (!rIsC gw gh (nI j)) then 1 else 0), .int (nI gw), .int (nI gh), .ref y1, .ref y2, .ref y3, .int to, .int (b2i wr), .ref y4, .ref y5, .int (nI k), .ref y6, .ref y7, .ref y8, .ref y9, .int (nI mk), .ref y10, .ref y11, .ref y12, .ref y13, .ref y14, .ref y15, .ref y16, .ref y17, .ref y18])), (y1, .inl (E.2 0, 128, .inl ed)), (y2, .inl (E.2 0, 64, .inl du)), (y3, .inl (E.2 0, 64, .inl sh)), (y5, .inl (E.2 0, 64, .inl sb))], rfl, by rw [ht9]; exact hP, hD⟩, hS.F ht9⟩) hS.2.2 dX6_cell_73
      by_cases t_24_2 : d = 2
      · skip
        refine lv_tableIn (tgt := 74) hx hb dX6_cell_24 (by rw [t_24_2]; decide) (by rw [t_24_2]; decide) (by rw [t_24_2]; rfl) (by decide) ?_
        refine lv_aload_n hx hb dX6_cell_74 rfl (lv_at hl 0 rfl) ?_
        refine lv_iload_n hx hb dX6_cell_75 rfl (lv_at hl 1 rfl) ?_
        refine lv_iconst (v := 1) hx hb dX6_cell_76 (by decide) ?_
        refine crVi (As := [.int (nI j), .int 1]) (rest := []) ⟨hx, hb, hml, hown, hts⟩ hE (cX6_count_ct l E q y1 y2 y3 y4 y5 y6 y7 y8 y9 y10 y11 y12 y13 y14 y15 y16 y17 y18 gw gh (if (!rIsC gw gh (nI j)) then 1 else 0) to wr k mk ed j 1 (by first | assumption | omega | (subst_vars; assumption)) (by first | assumption | omega | (subst_vars; assumption)) (by first | assumption | omega | (subst_vars; assumption)) (by first | assumption | omega | (subst_vars; assumption)) (by first | assumption | omega | (subst_vars; assumption))) (cwV 2 hts gX6_cell_X6_count rfl rfl rfl (by decide +kernel) ⟨Nat.le_of_ble_eq_true rfl, Nat.le_of_ble_eq_true rfl⟩) (hP.sub (ws' := [(q, .inr (7, [.int (if (!rIsC gw gh (nI j)) then 1 else 0), .int (nI gw), .int (nI gh), .ref y1, .ref y2, .ref y3, .int to, .int (b2i wr), .ref y4, .ref y5, .int (nI k), .ref y6, .ref y7, .ref y8, .ref y9, .int (nI mk), .ref y10, .ref y11, .ref y12, .ref y13, .ref y14, .ref y15, .ref y16, .ref y17, .ref y18])), (y1, .inl (E.2 0, 128, .inl ed))]) [0, 1] rfl) (va_recv hE.1 hP (ci := 7) (q0 := 0) rfl rfl) rfl hl.1 rfl (Nat.le_of_ble_eq_true rfl) dX6_cell_77 ⟨Nat.zero_le _, Nat.zero_le _⟩ ?_
        exact W.iret (v := nI (cnt gw gh ed j 1)) hx hb hr (fun t9 ht9 hW => ⟨⟨by subst t_24_2; rw [if_pos hok, nI_clamp (by omega)]; rfl, [(q, .inr (7, [.int (if (!rIsC gw gh (nI j)) then 1 else 0), .int (nI gw), .int (nI gh), .ref y1, .ref y2, .ref y3, .int to, .int (b2i wr), .ref y4, .ref y5, .int (nI k), .ref y6, .ref y7, .ref y8, .ref y9, .int (nI mk), .ref y10, .ref y11, .ref y12, .ref y13, .ref y14, .ref y15, .ref y16, .ref y17, .ref y18])), (y1, .inl (E.2 0, 128, .inl ed)), (y2, .inl (E.2 0, 64, .inl du)), (y3, .inl (E.2 0, 64, .inl sh)), (y5, .inl (E.2 0, 64, .inl sb))], rfl, by rw [ht9]; exact hP, hD⟩, hS.F ht9⟩) hS.2.2 dX6_cell_80
      by_cases t_24_3 : d = 3
      · skip
        refine lv_tableIn (tgt := 81) hx hb dX6_cell_24 (by rw [t_24_3]; decide) (by rw [t_24_3]; decide) (by rw [t_24_3]; rfl) (by decide) ?_
        refine lv_aload_n hx hb dX6_cell_81 rfl (lv_at hl 0 rfl) ?_
        refine lv_iload_n hx hb dX6_cell_82 rfl (lv_at hl 1 rfl) ?_
        refine lv_iconst (v := 0) hx hb dX6_cell_83 (by decide) ?_
        refine crVi (As := [.int (nI j), .int 0]) (rest := []) ⟨hx, hb, hml, hown, hts⟩ hE (cX6_count_ct l E q y1 y2 y3 y4 y5 y6 y7 y8 y9 y10 y11 y12 y13 y14 y15 y16 y17 y18 gw gh (if (!rIsC gw gh (nI j)) then 1 else 0) to wr k mk ed j 0 (by first | assumption | omega | (subst_vars; assumption)) (by first | assumption | omega | (subst_vars; assumption)) (by first | assumption | omega | (subst_vars; assumption)) (by first | assumption | omega | (subst_vars; assumption)) (by first | assumption | omega | (subst_vars; assumption))) (cwV 2 hts gX6_cell_X6_count rfl rfl rfl (by decide +kernel) ⟨Nat.le_of_ble_eq_true rfl, Nat.le_of_ble_eq_true rfl⟩) (hP.sub (ws' := [(q, .inr (7, [.int (if (!rIsC gw gh (nI j)) then 1 else 0), .int (nI gw), .int (nI gh), .ref y1, .ref y2, .ref y3, .int to, .int (b2i wr), .ref y4, .ref y5, .int (nI k), .ref y6, .ref y7, .ref y8, .ref y9, .int (nI mk), .ref y10, .ref y11, .ref y12, .ref y13, .ref y14, .ref y15, .ref y16, .ref y17, .ref y18])), (y1, .inl (E.2 0, 128, .inl ed))]) [0, 1] rfl) (va_recv hE.1 hP (ci := 7) (q0 := 0) rfl rfl) rfl hl.1 rfl (Nat.le_of_ble_eq_true rfl) dX6_cell_84 ⟨Nat.zero_le _, Nat.zero_le _⟩ ?_
        exact W.iret (v := nI (cnt gw gh ed j 0)) hx hb hr (fun t9 ht9 hW => ⟨⟨by subst t_24_3; rw [if_pos hok, nI_clamp (by omega)]; rfl, [(q, .inr (7, [.int (if (!rIsC gw gh (nI j)) then 1 else 0), .int (nI gw), .int (nI gh), .ref y1, .ref y2, .ref y3, .int to, .int (b2i wr), .ref y4, .ref y5, .int (nI k), .ref y6, .ref y7, .ref y8, .ref y9, .int (nI mk), .ref y10, .ref y11, .ref y12, .ref y13, .ref y14, .ref y15, .ref y16, .ref y17, .ref y18])), (y1, .inl (E.2 0, 128, .inl ed)), (y2, .inl (E.2 0, 64, .inl du)), (y3, .inl (E.2 0, 64, .inl sh)), (y5, .inl (E.2 0, 64, .inl sb))], rfl, by rw [ht9]; exact hP, hD⟩, hS.F ht9⟩) hS.2.2 dX6_cell_87
      by_cases t_24_4 : d = 4
      · skip
        refine lv_tableIn (tgt := 88) hx hb dX6_cell_24 (by rw [t_24_4]; decide) (by rw [t_24_4]; decide) (by rw [t_24_4]; rfl) (by decide) ?_
        refine lv_aload_n hx hb dX6_cell_88 rfl (lv_at hl 0 rfl) ?_
        refine va_get (D := E.1) (ci := 7) (v := .ref y5) (C := RX6) (T := TX6) (N := 25) hx hb hts hi_RX6 hown hE.1 hP 0 rfl rfl 9 (by decide) hf_26 (fun _ h9 => h9) rfl dX6_cell_89 ?_
        refine lv_iload_n hx hb dX6_cell_92 rfl (lv_at hl 1 rfl) ?_
        refine va_iald hx hb hE.1 hP 4 0 rfl rfl (show vp_in (nI j) 64 from vp_in_nI (by omega) (by decide)) dX6_cell_93 ?_
        refine lv_eqi (congrArg sb (show (nI j : Int32).toNatClampNeg = j from nI_clamp (by omega))) ?_
        exact W.iret (v := sb j) hx hb hr (fun t9 ht9 hW => ⟨⟨by subst t_24_4; rw [if_pos hok, nI_clamp (by omega)]; rfl, [(q, .inr (7, [.int (if (!rIsC gw gh (nI j)) then 1 else 0), .int (nI gw), .int (nI gh), .ref y1, .ref y2, .ref y3, .int to, .int (b2i wr), .ref y4, .ref y5, .int (nI k), .ref y6, .ref y7, .ref y8, .ref y9, .int (nI mk), .ref y10, .ref y11, .ref y12, .ref y13, .ref y14, .ref y15, .ref y16, .ref y17, .ref y18])), (y1, .inl (E.2 0, 128, .inl ed)), (y2, .inl (E.2 0, 64, .inl du)), (y3, .inl (E.2 0, 64, .inl sh)), (y5, .inl (E.2 0, 64, .inl sb))], rfl, by rw [ht9]; exact hP, hD⟩, hS.F ht9⟩) hS.2.2 dX6_cell_94
      refine lv_tableOut (tgt := 95) hx hb dX6_cell_24 (by have q_0 := lv_neT t_24_0 (a := 0) rfl; have q_1 := lv_neT t_24_1 (a := 1) rfl; have q_2 := lv_neT t_24_2 (a := 2) rfl; have q_3 := lv_neT t_24_3 (a := 3) rfl; have q_4 := lv_neT t_24_4 (a := 4) rfl; omega) (by decide) ?_
      refine lv_iconst (v := (-1)) hx hb dX6_cell_95 (by decide) ?_
      exact W.iret (v := (-1)) hx hb hr (fun t9 ht9 hW => ⟨⟨by rw [if_pos hok, if_neg t_24_0, if_neg t_24_1, if_neg t_24_2, if_neg t_24_3, if_neg t_24_4], [(q, .inr (7, [.int (if (!rIsC gw gh (nI j)) then 1 else 0), .int (nI gw), .int (nI gh), .ref y1, .ref y2, .ref y3, .int to, .int (b2i wr), .ref y4, .ref y5, .int (nI k), .ref y6, .ref y7, .ref y8, .ref y9, .int (nI mk), .ref y10, .ref y11, .ref y12, .ref y13, .ref y14, .ref y15, .ref y16, .ref y17, .ref y18])), (y1, .inl (E.2 0, 128, .inl ed)), (y2, .inl (E.2 0, 64, .inl du)), (y3, .inl (E.2 0, 64, .inl sh)), (y5, .inl (E.2 0, 64, .inl sb))], rfl, by rw [ht9]; exact hP, hD⟩, hS.F ht9⟩) hS.2.2 dX6_cell_96
    · skip
      refine lv_iconst (v := 0) hx hb dX6_cell_21 (by decide) ?_
      exact W.iret (v := 0) hx hb hr (fun t9 ht9 hW => ⟨⟨by rw [b2i_eq0] at c_18; have hbad : rIsC gw gh a = false := (by simpa using c_18); rw [hbad]; rfl, [(q, .inr (7, [.int (if (!rIsC gw gh a) then 1 else 0), .int (nI gw), .int (nI gh), .ref y1, .ref y2, .ref y3, .int to, .int (b2i wr), .ref y4, .ref y5, .int (nI k), .ref y6, .ref y7, .ref y8, .ref y9, .int (nI mk), .ref y10, .ref y11, .ref y12, .ref y13, .ref y14, .ref y15, .ref y16, .ref y17, .ref y18])), (y1, .inl (E.2 0, 128, .inl ed)), (y2, .inl (E.2 0, 64, .inl du)), (y3, .inl (E.2 0, 64, .inl sh)), (y5, .inl (E.2 0, 64, .inl sb))], rfl, by rw [ht9]; exact hP, hD⟩, hS.F ht9⟩) hS.2.2 dX6_cell_22
  · skip
    refine lv_if_ne (tgt := 14) hx hb dX6_cell_7 (by decide) (fun c_7 => ?_) (fun c_7 => ?_)
    · skip
      refine lv_iconst (v := 0) hx hb dX6_cell_14 (by decide) ?_
      exact K_7 _ (by rw [b2i_eq0] at c_7; simp [b2i, c_7])
    · skip
      refine lv_iconst (v := 1) hx hb dX6_cell_10 (by decide) ?_
      refine lv_goto (tgt := 15) hx hb dX6_cell_11 (by decide) ?_
      exact K_7 _ (by rw [b2i_eq0] at c_7; simp [b2i, c_7])
set_option maxHeartbeats 4000000 in
set_option maxRecDepth 100000 in
theorem cX6_duty_ct (l : Launch) (E : GE) (sz : Nat) (q : Nat) (y1 : Nat) (y2 : Nat) (y3 : Nat) (y4 : Nat) (y5 : Nat) (y6 : Nat) (y7 : Nat) (y8 : Nat) (y9 : Nat) (y10 : Nat) (y11 : Nat) (y12 : Nat) (y13 : Nat) (y14 : Nat) (y15 : Nat) (y16 : Nat) (y17 : Nat) (y18 : Nat) (gw : Nat) (gh : Nat) (th : Int32) (to : Int32) (wr : Bool) (k : Nat) (mk : Nat) (du : Nat → Int32) (a d : Int32) (hg1 : 1 ≤ gw) (hh1 : 1 ≤ gh) (hg8 : gw ≤ 8) (hh8 : gh ≤ 8) : wrM l yX6_duty wsX6_duty ({ frames := 2, cells := 0, slots := 0, locals := 41 }) E sz [.ref q, .int a, .int d] [(q, .inr (7, [.int th, .int (nI gw), .int (nI gh), .ref y1, .ref y2, .ref y3, .int to, .int (b2i wr), .ref y4, .ref y5, .int (nI k), .ref y6, .ref y7, .ref y8, .ref y9, .int (nI mk), .ref y10, .ref y11, .ref y12, .ref y13, .ref y14, .ref y15, .ref y16, .ref y17, .ref y18])), (y2, .inl (E.2 0, 64, .inl du))] (some (.int (b2i (rIsC gw gh a && (!(decide (d < 0) || decide (¬ d ≤ 2)) && decide (¬ du a.toNatClampNeg = d)))))) (fun cs' => cs' = [(q, .inr (7, [.int (if !rIsC gw gh a then 1 else if (decide (d < 0) || decide (¬ d ≤ 2)) = true then 2 else 0), .int (nI gw), .int (nI gh), .ref y1, .ref y2, .ref y3, .int to, .int (b2i (if (rIsC gw gh a && (!(decide (d < 0) || decide (¬ d ≤ 2)) && decide (¬ du a.toNatClampNeg = d))) = true then false else wr)), .ref y4, .ref y5, .int (nI k), .ref y6, .ref y7, .ref y8, .ref y9, .int (nI mk), .ref y10, .ref y11, .ref y12, .ref y13, .ref y14, .ref y15, .ref y16, .ref y17, .ref y18])), (y2, .inl (E.2 0, 64, .inl (if (rIsC gw gh a && (!(decide (d < 0) || decide (¬ d ≤ 2)) && decide (¬ du a.toNatClampNeg = d))) = true then upd du a.toNatClampNeg d else du)))]) 0 0 := by
  refine Met.ofW (cc := cX6_duty) (maxL := 3) (ret := (some .boolean)) (by decide) rfl ?_
  intro p e s m args below meth c s₁ B hml hv
  obtain ⟨rfl, hsz, hE, hP, hD0⟩ := hv
  have hx := B.exec
  have hb := B.bytes
  have hr := B.returns
  have hts := atoms_spec (ws := wsX6_duty) B.pre
  have hown : s.vm.findClass RX6 = some m.cls := findClass_of_methodNamed B.named
  have hlocks := B.notSynchronized
  subst hsz
  have hD := hD0.self (sz := s.heap.size)
  generalize hAe : va_A [(q, .inr (7, [.int th, .int (nI gw), .int (nI gh), .ref y1, .ref y2, .ref y3, .int to, .int (b2i wr), .ref y4, .ref y5, .int (nI k), .ref y6, .ref y7, .ref y8, .ref y9, .int (nI mk), .ref y10, .ref y11, .ref y12, .ref y13, .ref y14, .ref y15, .ref y16, .ref y17, .ref y18])), (y2, .inl (E.2 0, 64, .inl du))] s.heap.size = A at hD ⊢
  have hA : ∀ q : Nat, s.heap.size ≤ q → A q := fun q h => by rw [← hAe]; exact Or.inr h
  have hS : va_S A s.heap s.heap [] := va_S.rf
  have hP : va_P E.1 vwCl [(q, .inr (7, [.int th, .int (nI gw), .int (nI gh), .ref y1, .ref y2, .ref y3, .int to, .int (b2i wr), .ref y4, .ref y5, .int (nI k), .ref y6, .ref y7, .ref y8, .ref y9, .int (nI mk), .ref y10, .ref y11, .ref y12, .ref y13, .ref y14, .ref y15, .ref y16, .ref y17, .ref y18])), (y2, .inl (E.2 0, 64, .inl du))] s.heap := hP
  have hl := lv_entry ([.ref q, .int a, .int d]) (n := 3) (Nat.le_of_ble_eq_true rfl)
  rw [lg_entry_eq]
  generalize (lg_sl ([.ref q, .int a, .int d]) ++ List.replicate (3 - (lg_sl ([.ref q, .int a, .int d])).length) Slot.unset).toArray = ls at hl ⊢
  have hl : lv_has ls 3 [(0, .ref q), (1, .int a), (2, .int d)] := hl
  have hf_13 := hts (.fieldLink RX6 13 "LoopRegionsModel" "duties" "[I") (by decide +kernel)
  have hf_98 := hts (.fieldLink RX6 98 "LoopRegionsModel" "isWrong" "Z") (by decide +kernel)
  have hi_RX6 : ∀ w ∈ wsX60, w ∈ wsX6_duty := by decide +kernel
  have hN : gw * gh ≤ 64 := Nat.mul_le_mul hg8 hh8
  have hN1 : 1 ≤ gw * gh := Nat.mul_le_mul hg1 hh1
  refine lv_aload_n hx hb dX6_duty_0 rfl (lv_at hl 0 rfl) ?_
  refine lv_iconst (v := 1) hx hb dX6_duty_1 (by decide) ?_
  refine lv_aload_n hx hb dX6_duty_2 rfl (lv_at hl 0 rfl) ?_
  refine lv_iload_n hx hb dX6_duty_3 rfl (lv_at hl 1 rfl) ?_
  refine crVi (As := [.int a]) (rest := [.int 1, .ref q]) ⟨hx, hb, hml, hown, hts⟩ hE (cX6_isCell_ct l E q y1 y2 y3 y4 y5 y6 y7 y8 y9 y10 y11 y12 y13 y14 y15 y16 y17 y18 gw gh th to wr k mk a) (cwV 1 hts gX6_duty_X6_isCell rfl rfl rfl (by decide +kernel) ⟨Nat.le_of_ble_eq_true rfl, Nat.le_of_ble_eq_true rfl⟩) (hP.sub (ws' := [(q, .inr (7, [.int th, .int (nI gw), .int (nI gh), .ref y1, .ref y2, .ref y3, .int to, .int (b2i wr), .ref y4, .ref y5, .int (nI k), .ref y6, .ref y7, .ref y8, .ref y9, .int (nI mk), .ref y10, .ref y11, .ref y12, .ref y13, .ref y14, .ref y15, .ref y16, .ref y17, .ref y18]))]) [0] rfl) (va_recv hE.1 hP (ci := 7) (q0 := 0) rfl rfl) rfl hl.1 rfl (Nat.le_of_ble_eq_true rfl) dX6_duty_4 ⟨Nat.zero_le _, Nat.zero_le _⟩ ?_
  refine W_joinI (J := 15) (rest := [.int 1, .ref q]) (fun z9 => z9 = b2i (!rIsC gw gh a)) (fun v_1 ev_1 => ?_) (fun K_7 => ?_)
  · skip
    subst ev_1
    refine wrV (As := [.int 1, .int (b2i (!rIsC gw gh a))]) (rest := []) (wr := [(y2, .inl (E.2 0, 64, .inl du))]) ⟨hx, hb, hml, hown, hts⟩ hE (cX6_fails_ct l E s.heap.size q y1 y2 y3 y4 y5 y6 y7 y8 y9 y10 y11 y12 y13 y14 y15 y16 y17 y18 gw gh th to wr k mk 1 (!rIsC gw gh a)) (cwV 2 hts gX6_duty_X6_fails rfl rfl rfl (by decide +kernel) ⟨Nat.le_of_ble_eq_true rfl, Nat.le_of_ble_eq_true rfl⟩) hP hD hS hA [0] [1] rfl rfl (by decide) (by decide) (hP.sub (ws' := [(q, .inr (7, [.int th, .int (nI gw), .int (nI gh), .ref y1, .ref y2, .ref y3, .int to, .int (b2i wr), .ref y4, .ref y5, .int (nI k), .ref y6, .ref y7, .ref y8, .ref y9, .int (nI mk), .ref y10, .ref y11, .ref y12, .ref y13, .ref y14, .ref y15, .ref y16, .ref y17, .ref y18]))]) [0] rfl) (hD.sub (ws' := [(q, .inr (7, [.int th, .int (nI gw), .int (nI gh), .ref y1, .ref y2, .ref y3, .int to, .int (b2i wr), .ref y4, .ref y5, .int (nI k), .ref y6, .ref y7, .ref y8, .ref y9, .int (nI mk), .ref y10, .ref y11, .ref y12, .ref y13, .ref y14, .ref y15, .ref y16, .ref y17, .ref y18]))]) [0] (by decide) rfl) (va_recv hE.1 hP (ci := 7) (q0 := 0) rfl rfl) rfl hl.1 rfl (Nat.le_of_ble_eq_true rfl) dX6_duty_15 ⟨Nat.zero_le _, Nat.zero_le _⟩ (fun cs_ H locs h_2 hP hD hS => ?_)
    subst h_2
    have hP : va_P E.1 vwCl [(q, .inr (7, [.int (if (!rIsC gw gh a) then 1 else 0), .int (nI gw), .int (nI gh), .ref y1, .ref y2, .ref y3, .int to, .int (b2i wr), .ref y4, .ref y5, .int (nI k), .ref y6, .ref y7, .ref y8, .ref y9, .int (nI mk), .ref y10, .ref y11, .ref y12, .ref y13, .ref y14, .ref y15, .ref y16, .ref y17, .ref y18])), (y2, .inl (E.2 0, 64, .inl du))] H := hP.sub [1, 0] rfl
    have hD : va_D A [(q, .inr (7, [.int (if (!rIsC gw gh a) then 1 else 0), .int (nI gw), .int (nI gh), .ref y1, .ref y2, .ref y3, .int to, .int (b2i wr), .ref y4, .ref y5, .int (nI k), .ref y6, .ref y7, .ref y8, .ref y9, .int (nI mk), .ref y10, .ref y11, .ref y12, .ref y13, .ref y14, .ref y15, .ref y16, .ref y17, .ref y18])), (y2, .inl (E.2 0, 64, .inl du))] := hD.sub [1, 0] (by decide) rfl
    refine lv_if_ne (tgt := 53) hx hb dX6_duty_18 (by decide) (fun c_18 => ?_) (fun c_18 => ?_)
    · skip
      refine lv_iconst (v := 0) hx hb dX6_duty_53 (by decide) ?_
      exact W.zret (v := 0) hx hb hr (rfl) (fun t9 ht9 hW => ⟨⟨by rw [b2i_eq0] at c_18; have hbad : rIsC gw gh a = false := (by simpa using c_18); have heo : (rIsC gw gh a && (!(decide (d < 0) || decide (¬ d ≤ 2)) && decide (¬ du a.toNatClampNeg = d))) = false := (by rw [hbad]; rfl); rw [heo]; rfl, [(q, .inr (7, [.int (if (!rIsC gw gh a) then 1 else 0), .int (nI gw), .int (nI gh), .ref y1, .ref y2, .ref y3, .int to, .int (b2i wr), .ref y4, .ref y5, .int (nI k), .ref y6, .ref y7, .ref y8, .ref y9, .int (nI mk), .ref y10, .ref y11, .ref y12, .ref y13, .ref y14, .ref y15, .ref y16, .ref y17, .ref y18])), (y2, .inl (E.2 0, 64, .inl du))], by rw [b2i_eq0] at c_18; have hbad : rIsC gw gh a = false := (by simpa using c_18); have heo : (rIsC gw gh a && (!(decide (d < 0) || decide (¬ d ≤ 2)) && decide (¬ du a.toNatClampNeg = d))) = false := (by rw [hbad]; rfl); simp only [heo]; simp only [hbad, if_true, if_false, Bool.false_eq_true, Bool.not_true, Bool.not_false], by rw [ht9]; exact hP, hD⟩, hS.F ht9⟩) hS.2.2 dX6_duty_54
    · skip
      have hok : rIsC gw gh a = true := by rw [b2i_eq0] at c_18; simpa using c_18
      obtain ⟨j, hj, rfl⟩ := rIsC_some (by omega) hok
      refine lv_aload_n hx hb dX6_duty_21 rfl (lv_at hl 0 rfl) ?_
      refine lv_iconst (v := 2) hx hb dX6_duty_22 (by decide) ?_
      refine lv_iload_n hx hb dX6_duty_23 rfl (lv_at hl 2 rfl) ?_
      refine W_joinI (J := 37) (rest := [.int 2, .ref q]) (fun z9 => z9 = b2i (decide (d < 0) || decide (¬ d ≤ 2))) (fun v_3 ev_3 => ?_) (fun K_24 => ?_)
      · skip
        subst ev_3
        refine wrV (As := [.int 2, .int (b2i (decide (d < 0) || decide (¬ d ≤ 2)))]) (rest := []) (wr := [(y2, .inl (E.2 0, 64, .inl du))]) ⟨hx, hb, hml, hown, hts⟩ hE (cX6_fails_ct l E H.size q y1 y2 y3 y4 y5 y6 y7 y8 y9 y10 y11 y12 y13 y14 y15 y16 y17 y18 gw gh (if (!rIsC gw gh (nI j)) then 1 else 0) to wr k mk 2 (decide (d < 0) || decide (¬ d ≤ 2))) (cwV 2 hts gX6_duty_X6_fails rfl rfl rfl (by decide +kernel) ⟨Nat.le_of_ble_eq_true rfl, Nat.le_of_ble_eq_true rfl⟩) hP hD hS hA [0] [1] rfl rfl (by decide) (by decide) (hP.sub (ws' := [(q, .inr (7, [.int (if (!rIsC gw gh (nI j)) then 1 else 0), .int (nI gw), .int (nI gh), .ref y1, .ref y2, .ref y3, .int to, .int (b2i wr), .ref y4, .ref y5, .int (nI k), .ref y6, .ref y7, .ref y8, .ref y9, .int (nI mk), .ref y10, .ref y11, .ref y12, .ref y13, .ref y14, .ref y15, .ref y16, .ref y17, .ref y18]))]) [0] rfl) (hD.sub (ws' := [(q, .inr (7, [.int (if (!rIsC gw gh (nI j)) then 1 else 0), .int (nI gw), .int (nI gh), .ref y1, .ref y2, .ref y3, .int to, .int (b2i wr), .ref y4, .ref y5, .int (nI k), .ref y6, .ref y7, .ref y8, .ref y9, .int (nI mk), .ref y10, .ref y11, .ref y12, .ref y13, .ref y14, .ref y15, .ref y16, .ref y17, .ref y18]))]) [0] (by decide) rfl) (va_recv hE.1 hP (ci := 7) (q0 := 0) rfl rfl) rfl hl.1 rfl (Nat.le_of_ble_eq_true rfl) dX6_duty_37 ⟨Nat.zero_le _, Nat.zero_le _⟩ (fun cs_ H locs h_4 hP hD hS => ?_)
        subst h_4
        have hP : va_P E.1 vwCl [(q, .inr (7, [.int (if (decide (d < 0) || decide (¬ d ≤ 2)) then 2 else 0), .int (nI gw), .int (nI gh), .ref y1, .ref y2, .ref y3, .int to, .int (b2i wr), .ref y4, .ref y5, .int (nI k), .ref y6, .ref y7, .ref y8, .ref y9, .int (nI mk), .ref y10, .ref y11, .ref y12, .ref y13, .ref y14, .ref y15, .ref y16, .ref y17, .ref y18])), (y2, .inl (E.2 0, 64, .inl du))] H := hP.sub [1, 0] rfl
        have hD : va_D A [(q, .inr (7, [.int (if (decide (d < 0) || decide (¬ d ≤ 2)) then 2 else 0), .int (nI gw), .int (nI gh), .ref y1, .ref y2, .ref y3, .int to, .int (b2i wr), .ref y4, .ref y5, .int (nI k), .ref y6, .ref y7, .ref y8, .ref y9, .int (nI mk), .ref y10, .ref y11, .ref y12, .ref y13, .ref y14, .ref y15, .ref y16, .ref y17, .ref y18])), (y2, .inl (E.2 0, 64, .inl du))] := hD.sub [1, 0] (by decide) rfl
        refine lv_if_ne (tgt := 53) hx hb dX6_duty_40 (by decide) (fun c_40 => ?_) (fun c_40 => ?_)
        · skip
          refine lv_iconst (v := 0) hx hb dX6_duty_53 (by decide) ?_
          exact W.zret (v := 0) hx hb hr (rfl) (fun t9 ht9 hW => ⟨⟨by rw [b2i_eq0] at c_40; have hb2 : (decide (d < 0) || decide (¬ d ≤ 2)) = true := nf c_40; have heo : (rIsC gw gh (nI j) && (!(decide (d < 0) || decide (¬ d ≤ 2)) && decide (¬ du (nI j).toNatClampNeg = d))) = false := (by rw [hok, hb2]; rfl); rw [heo]; rfl, [(q, .inr (7, [.int (if (decide (d < 0) || decide (¬ d ≤ 2)) then 2 else 0), .int (nI gw), .int (nI gh), .ref y1, .ref y2, .ref y3, .int to, .int (b2i wr), .ref y4, .ref y5, .int (nI k), .ref y6, .ref y7, .ref y8, .ref y9, .int (nI mk), .ref y10, .ref y11, .ref y12, .ref y13, .ref y14, .ref y15, .ref y16, .ref y17, .ref y18])), (y2, .inl (E.2 0, 64, .inl du))], by rw [b2i_eq0] at c_40; have hb2 : (decide (d < 0) || decide (¬ d ≤ 2)) = true := nf c_40; have heo : (rIsC gw gh (nI j) && (!(decide (d < 0) || decide (¬ d ≤ 2)) && decide (¬ du (nI j).toNatClampNeg = d))) = false := (by rw [hok, hb2]; rfl); simp only [heo]; simp only [hok, hb2, if_true, if_false, Bool.false_eq_true, Bool.not_true, Bool.not_false]; try simp only [nI_clamp (show j < 2 ^ 31 by omega)], by rw [ht9]; exact hP, hD⟩, hS.F ht9⟩) hS.2.2 dX6_duty_54
        · skip
          refine lv_aload_n hx hb dX6_duty_43 rfl (lv_at hl 0 rfl) ?_
          refine va_get (D := E.1) (ci := 7) (v := .ref y2) (C := RX6) (T := TX6) (N := 25) hx hb hts hi_RX6 hown hE.1 hP 0 rfl rfl 4 (by decide) hf_13 (fun _ h9 => h9) rfl dX6_duty_44 ?_
          refine lv_iload_n hx hb dX6_duty_47 rfl (lv_at hl 1 rfl) ?_
          refine va_iald hx hb hE.1 hP 1 0 rfl rfl (show vp_in (nI j) 64 from vp_in_nI (by omega) (by decide)) dX6_duty_48 ?_
          refine lv_eqi (congrArg du (show (nI j : Int32).toNatClampNeg = j from nI_clamp (by omega))) ?_
          refine lv_iload_n hx hb dX6_duty_49 rfl (lv_at hl 2 rfl) ?_
          refine lv_icmp_ne (tgt := 55) hx hb dX6_duty_50 (by decide) (fun c_50 => ?_) (fun c_50 => ?_)
          · skip
            refine lv_aload_n hx hb dX6_duty_55 rfl (lv_at hl 0 rfl) ?_
            refine va_get (D := E.1) (ci := 7) (v := .ref y2) (C := RX6) (T := TX6) (N := 25) hx hb hts hi_RX6 hown hE.1 hP 0 rfl rfl 4 (by decide) hf_13 (fun _ h9 => h9) rfl dX6_duty_56 ?_
            refine lv_iload_n hx hb dX6_duty_59 rfl (lv_at hl 1 rfl) ?_
            refine lv_iload_n hx hb dX6_duty_60 rfl (lv_at hl 2 rfl) ?_
            refine va_iast hx hb hE.1 hP hD hS 1 0 rfl rfl (show vp_in (nI j) 64 from vp_in_nI (by omega) (by decide)) dX6_duty_61 (fun H locs hP hD hS => ?_)
            rw [show (nI j : Int32).toNatClampNeg = j from nI_clamp (by omega)] at hP hD
            have hP : va_P E.1 vwCl [(q, .inr (7, [.int (if (decide (d < 0) || decide (¬ d ≤ 2)) then 2 else 0), .int (nI gw), .int (nI gh), .ref y1, .ref y2, .ref y3, .int to, .int (b2i wr), .ref y4, .ref y5, .int (nI k), .ref y6, .ref y7, .ref y8, .ref y9, .int (nI mk), .ref y10, .ref y11, .ref y12, .ref y13, .ref y14, .ref y15, .ref y16, .ref y17, .ref y18])), (y2, .inl (E.2 0, 64, .inl (upd du j d)))] H := hP
            have hD : va_D A [(q, .inr (7, [.int (if (decide (d < 0) || decide (¬ d ≤ 2)) then 2 else 0), .int (nI gw), .int (nI gh), .ref y1, .ref y2, .ref y3, .int to, .int (b2i wr), .ref y4, .ref y5, .int (nI k), .ref y6, .ref y7, .ref y8, .ref y9, .int (nI mk), .ref y10, .ref y11, .ref y12, .ref y13, .ref y14, .ref y15, .ref y16, .ref y17, .ref y18])), (y2, .inl (E.2 0, 64, .inl (upd du j d)))] := hD
            refine lv_aload_n hx hb dX6_duty_62 rfl (lv_at hl 0 rfl) ?_
            refine lv_iconst (v := 0) hx hb dX6_duty_63 (by decide) ?_
            refine va_put (D := E.1) (ci := 7) (v := .int 0) (ty := .boolean) (C := RX6) (T := TX6) (N := 25) hx hb hts hi_RX6 tyX6 tyX6_ok nmX6 hown hE.1 hP hD hS 0 rfl rfl 7 (by decide) hf_98 (fun _ h9 => h9) rfl (by decide +kernel) (rfl) (rfl) (Nat.le_of_ble_eq_true rfl) dX6_duty_64 (fun H locs hP hD hS => ?_)
            have hP : va_P E.1 vwCl [(q, .inr (7, [.int (if (decide (d < 0) || decide (¬ d ≤ 2)) then 2 else 0), .int (nI gw), .int (nI gh), .ref y1, .ref y2, .ref y3, .int to, .int (b2i false), .ref y4, .ref y5, .int (nI k), .ref y6, .ref y7, .ref y8, .ref y9, .int (nI mk), .ref y10, .ref y11, .ref y12, .ref y13, .ref y14, .ref y15, .ref y16, .ref y17, .ref y18])), (y2, .inl (E.2 0, 64, .inl (upd du j d)))] H := hP
            have hD : va_D A [(q, .inr (7, [.int (if (decide (d < 0) || decide (¬ d ≤ 2)) then 2 else 0), .int (nI gw), .int (nI gh), .ref y1, .ref y2, .ref y3, .int to, .int (b2i false), .ref y4, .ref y5, .int (nI k), .ref y6, .ref y7, .ref y8, .ref y9, .int (nI mk), .ref y10, .ref y11, .ref y12, .ref y13, .ref y14, .ref y15, .ref y16, .ref y17, .ref y18])), (y2, .inl (E.2 0, 64, .inl (upd du j d)))] := hD
            refine lv_iconst (v := 1) hx hb dX6_duty_67 (by decide) ?_
            exact W.zret (v := 1) hx hb hr (rfl) (fun t9 ht9 hW => ⟨⟨by rw [b2i_eq0] at c_40; have hb2 : (decide (d < 0) || decide (¬ d ≤ 2)) = false := c_40; have heo : (rIsC gw gh (nI j) && (!(decide (d < 0) || decide (¬ d ≤ 2)) && decide (¬ du (nI j).toNatClampNeg = d))) = true := (by rw [hok, hb2, nI_clamp (by omega)]; simp [c_50]); rw [heo]; rfl, [(q, .inr (7, [.int (if (decide (d < 0) || decide (¬ d ≤ 2)) then 2 else 0), .int (nI gw), .int (nI gh), .ref y1, .ref y2, .ref y3, .int to, .int (b2i false), .ref y4, .ref y5, .int (nI k), .ref y6, .ref y7, .ref y8, .ref y9, .int (nI mk), .ref y10, .ref y11, .ref y12, .ref y13, .ref y14, .ref y15, .ref y16, .ref y17, .ref y18])), (y2, .inl (E.2 0, 64, .inl (upd du j d)))], by rw [b2i_eq0] at c_40; have hb2 : (decide (d < 0) || decide (¬ d ≤ 2)) = false := c_40; have heo : (rIsC gw gh (nI j) && (!(decide (d < 0) || decide (¬ d ≤ 2)) && decide (¬ du (nI j).toNatClampNeg = d))) = true := (by rw [hok, hb2, nI_clamp (by omega)]; simp [c_50]); simp only [heo]; simp only [hok, hb2, if_true, if_false, Bool.false_eq_true, Bool.not_true, Bool.not_false]; try simp only [nI_clamp (show j < 2 ^ 31 by omega)], by rw [ht9]; exact hP, hD⟩, hS.F ht9⟩) hS.2.2 dX6_duty_68
          · skip
            refine lv_iconst (v := 0) hx hb dX6_duty_53 (by decide) ?_
            exact W.zret (v := 0) hx hb hr (rfl) (fun t9 ht9 hW => ⟨⟨by rw [b2i_eq0] at c_40; have hb2 : (decide (d < 0) || decide (¬ d ≤ 2)) = false := c_40; have heo : (rIsC gw gh (nI j) && (!(decide (d < 0) || decide (¬ d ≤ 2)) && decide (¬ du (nI j).toNatClampNeg = d))) = false := (by rw [hok, hb2, nI_clamp (by omega)]; simp [c_50]); rw [heo]; rfl, [(q, .inr (7, [.int (if (decide (d < 0) || decide (¬ d ≤ 2)) then 2 else 0), .int (nI gw), .int (nI gh), .ref y1, .ref y2, .ref y3, .int to, .int (b2i wr), .ref y4, .ref y5, .int (nI k), .ref y6, .ref y7, .ref y8, .ref y9, .int (nI mk), .ref y10, .ref y11, .ref y12, .ref y13, .ref y14, .ref y15, .ref y16, .ref y17, .ref y18])), (y2, .inl (E.2 0, 64, .inl du))], by rw [b2i_eq0] at c_40; have hb2 : (decide (d < 0) || decide (¬ d ≤ 2)) = false := c_40; have heo : (rIsC gw gh (nI j) && (!(decide (d < 0) || decide (¬ d ≤ 2)) && decide (¬ du (nI j).toNatClampNeg = d))) = false := (by rw [hok, hb2, nI_clamp (by omega)]; simp [c_50]); simp only [heo]; simp only [hok, hb2, if_true, if_false, Bool.false_eq_true, Bool.not_true, Bool.not_false]; try simp only [nI_clamp (show j < 2 ^ 31 by omega)], by rw [ht9]; exact hP, hD⟩, hS.F ht9⟩) hS.2.2 dX6_duty_54
      · skip
        refine lv_if_lt (tgt := 32) hx hb dX6_duty_24 (by decide) (fun c_24 => ?_) (fun c_24 => ?_)
        · skip
          refine lv_iconst (v := 1) hx hb dX6_duty_32 (by decide) ?_
          refine lv_goto (tgt := 37) hx hb dX6_duty_33 (by decide) ?_
          exact K_24 _ (by simp [b2i, c_24])
        · skip
          refine lv_iload_n hx hb dX6_duty_27 rfl (lv_at hl 2 rfl) ?_
          refine lv_iconst (v := 2) hx hb dX6_duty_28 (by decide) ?_
          refine lv_icmp_le (tgt := 36) hx hb dX6_duty_29 (by decide) (fun c_29 => ?_) (fun c_29 => ?_)
          · skip
            refine lv_iconst (v := 0) hx hb dX6_duty_36 (by decide) ?_
            exact K_24 _ (by simp [b2i, c_24, c_29])
          · skip
            refine lv_iconst (v := 1) hx hb dX6_duty_32 (by decide) ?_
            refine lv_goto (tgt := 37) hx hb dX6_duty_33 (by decide) ?_
            exact K_24 _ (by simp [b2i, c_24, c_29])
  · skip
    refine lv_if_ne (tgt := 14) hx hb dX6_duty_7 (by decide) (fun c_7 => ?_) (fun c_7 => ?_)
    · skip
      refine lv_iconst (v := 0) hx hb dX6_duty_14 (by decide) ?_
      exact K_7 _ (by rw [b2i_eq0] at c_7; simp [b2i, c_7])
    · skip
      refine lv_iconst (v := 1) hx hb dX6_duty_10 (by decide) ?_
      refine lv_goto (tgt := 15) hx hb dX6_duty_11 (by decide) ?_
      exact K_7 _ (by rw [b2i_eq0] at c_7; simp [b2i, c_7])
set_option maxHeartbeats 4000000 in
set_option maxRecDepth 100000 in
theorem cX6_step_ct (l : Launch) (E : GE) (sz : Nat) (q : Nat) (y1 : Nat) (y2 : Nat) (y3 : Nat) (y4 : Nat) (y5 : Nat) (y6 : Nat) (y7 : Nat) (y8 : Nat) (y9 : Nat) (y10 : Nat) (y11 : Nat) (y12 : Nat) (y13 : Nat) (y14 : Nat) (y15 : Nat) (y16 : Nat) (y17 : Nat) (y18 : Nat) (gw : Nat) (gh : Nat) (th : Int32) (to : Int32) (wr : Bool) (k : Nat) (mk : Nat) (nu : Nat → Int32) (pl : Nat → Int32) (bg : Nat → Int32) (ch : Nat → Int32) (a d : Int32) (hbg : ∀ i, i < k → ∃ b0 b1, bg i = nI b0 ∧ bg (i + 1) = nI b1 ∧ b0 ≤ b1 ∧ b1 ≤ 4000) (hk9 : k ≤ 900) : wrM l yX6_step wsX6_step ({ frames := 1, cells := 0, slots := 0, locals := 22 }) E sz [.ref q, .int a, .int d] [(q, .inr (7, [.int th, .int (nI gw), .int (nI gh), .ref y1, .ref y2, .ref y3, .int to, .int (b2i wr), .ref y4, .ref y5, .int (nI k), .ref y6, .ref y7, .ref y8, .ref y9, .int (nI mk), .ref y10, .ref y11, .ref y12, .ref y13, .ref y14, .ref y15, .ref y16, .ref y17, .ref y18])), (y6, .inl (E.2 0, 900, .inl nu)), (y7, .inl (E.2 0, 900, .inl pl)), (y8, .inl (E.2 0, 901, .inl bg)), (y9, .inl (E.2 0, 4000, .inl ch))] (some (.int (if (decide (a < 0) || (decide (nI k ≤ a) || decide (¬ 0 ≤ d))) = true then 0 else (if d = 0 then nu a.toNatClampNeg else if d = 1 then pl a.toNatClampNeg else if d < 3 then bg (a.toNatClampNeg + 1) - bg a.toNatClampNeg else if d - 3 < bg (a.toNatClampNeg + 1) - bg a.toNatClampNeg then ch (bg a.toNatClampNeg + d - 3).toNatClampNeg else -1)))) (fun cs' => cs' = [(q, .inr (7, [.int (if (decide (a < 0) || (decide (nI k ≤ a) || decide (¬ 0 ≤ d))) = true then 1 else 0), .int (nI gw), .int (nI gh), .ref y1, .ref y2, .ref y3, .int to, .int (b2i wr), .ref y4, .ref y5, .int (nI k), .ref y6, .ref y7, .ref y8, .ref y9, .int (nI mk), .ref y10, .ref y11, .ref y12, .ref y13, .ref y14, .ref y15, .ref y16, .ref y17, .ref y18])), (y6, .inl (E.2 0, 900, .inl nu)), (y7, .inl (E.2 0, 900, .inl pl)), (y8, .inl (E.2 0, 901, .inl bg)), (y9, .inl (E.2 0, 4000, .inl ch))]) 0 0 := by
  refine Met.ofW (cc := cX6_step) (maxL := 4) (ret := (some .int)) (by decide) rfl ?_
  intro p e s m args below meth c s₁ B hml hv
  obtain ⟨rfl, hsz, hE, hP, hD0⟩ := hv
  have hx := B.exec
  have hb := B.bytes
  have hr := B.returns
  have hts := atoms_spec (ws := wsX6_step) B.pre
  have hown : s.vm.findClass RX6 = some m.cls := findClass_of_methodNamed B.named
  have hlocks := B.notSynchronized
  subst hsz
  have hD := hD0.self (sz := s.heap.size)
  generalize hAe : va_A [(q, .inr (7, [.int th, .int (nI gw), .int (nI gh), .ref y1, .ref y2, .ref y3, .int to, .int (b2i wr), .ref y4, .ref y5, .int (nI k), .ref y6, .ref y7, .ref y8, .ref y9, .int (nI mk), .ref y10, .ref y11, .ref y12, .ref y13, .ref y14, .ref y15, .ref y16, .ref y17, .ref y18])), (y6, .inl (E.2 0, 900, .inl nu)), (y7, .inl (E.2 0, 900, .inl pl)), (y8, .inl (E.2 0, 901, .inl bg)), (y9, .inl (E.2 0, 4000, .inl ch))] s.heap.size = A at hD ⊢
  have hA : ∀ q : Nat, s.heap.size ≤ q → A q := fun q h => by rw [← hAe]; exact Or.inr h
  have hS : va_S A s.heap s.heap [] := va_S.rf
  have hP : va_P E.1 vwCl [(q, .inr (7, [.int th, .int (nI gw), .int (nI gh), .ref y1, .ref y2, .ref y3, .int to, .int (b2i wr), .ref y4, .ref y5, .int (nI k), .ref y6, .ref y7, .ref y8, .ref y9, .int (nI mk), .ref y10, .ref y11, .ref y12, .ref y13, .ref y14, .ref y15, .ref y16, .ref y17, .ref y18])), (y6, .inl (E.2 0, 900, .inl nu)), (y7, .inl (E.2 0, 900, .inl pl)), (y8, .inl (E.2 0, 901, .inl bg)), (y9, .inl (E.2 0, 4000, .inl ch))] s.heap := hP
  have hl := lv_entry ([.ref q, .int a, .int d]) (n := 4) (Nat.le_of_ble_eq_true rfl)
  rw [lg_entry_eq]
  generalize (lg_sl ([.ref q, .int a, .int d]) ++ List.replicate (4 - (lg_sl ([.ref q, .int a, .int d])).length) Slot.unset).toArray = ls at hl ⊢
  have hl : lv_has ls 4 [(0, .ref q), (1, .int a), (2, .int d)] := hl
  have hf_105 := hts (.fieldLink RX6 105 "LoopRegionsModel" "steps" "I") (by decide +kernel)
  have hf_29 := hts (.fieldLink RX6 29 "LoopRegionsModel" "numbers" "[I") (by decide +kernel)
  have hf_32 := hts (.fieldLink RX6 32 "LoopRegionsModel" "places" "[I") (by decide +kernel)
  have hf_35 := hts (.fieldLink RX6 35 "LoopRegionsModel" "begins" "[I") (by decide +kernel)
  have hf_38 := hts (.fieldLink RX6 38 "LoopRegionsModel" "changes" "[I") (by decide +kernel)
  have hi_RX6 : ∀ w ∈ wsX60, w ∈ wsX6_step := by decide +kernel
  refine lv_aload_n hx hb dX6_step_0 rfl (lv_at hl 0 rfl) ?_
  refine lv_iconst (v := 1) hx hb dX6_step_1 (by decide) ?_
  refine lv_iload_n hx hb dX6_step_2 rfl (lv_at hl 1 rfl) ?_
  refine W_joinI (J := 23) (rest := [.int 1, .ref q]) (fun z9 => z9 = b2i (decide (a < 0) || (decide (nI k ≤ a) || decide (¬ 0 ≤ d)))) (fun v_1 ev_1 => ?_) (fun K_3 => ?_)
  · skip
    subst ev_1
    refine wrV (As := [.int 1, .int (b2i (decide (a < 0) || (decide (nI k ≤ a) || decide (¬ 0 ≤ d))))]) (rest := []) (wr := [(y6, .inl (E.2 0, 900, .inl nu)), (y7, .inl (E.2 0, 900, .inl pl)), (y8, .inl (E.2 0, 901, .inl bg)), (y9, .inl (E.2 0, 4000, .inl ch))]) ⟨hx, hb, hml, hown, hts⟩ hE (cX6_fails_ct l E s.heap.size q y1 y2 y3 y4 y5 y6 y7 y8 y9 y10 y11 y12 y13 y14 y15 y16 y17 y18 gw gh th to wr k mk 1 (decide (a < 0) || (decide (nI k ≤ a) || decide (¬ 0 ≤ d)))) (cwV 2 hts gX6_step_X6_fails rfl rfl rfl (by decide +kernel) ⟨Nat.le_of_ble_eq_true rfl, Nat.le_of_ble_eq_true rfl⟩) hP hD hS hA [0] [1, 2, 3, 4] rfl rfl (by decide) (by decide) (hP.sub (ws' := [(q, .inr (7, [.int th, .int (nI gw), .int (nI gh), .ref y1, .ref y2, .ref y3, .int to, .int (b2i wr), .ref y4, .ref y5, .int (nI k), .ref y6, .ref y7, .ref y8, .ref y9, .int (nI mk), .ref y10, .ref y11, .ref y12, .ref y13, .ref y14, .ref y15, .ref y16, .ref y17, .ref y18]))]) [0] rfl) (hD.sub (ws' := [(q, .inr (7, [.int th, .int (nI gw), .int (nI gh), .ref y1, .ref y2, .ref y3, .int to, .int (b2i wr), .ref y4, .ref y5, .int (nI k), .ref y6, .ref y7, .ref y8, .ref y9, .int (nI mk), .ref y10, .ref y11, .ref y12, .ref y13, .ref y14, .ref y15, .ref y16, .ref y17, .ref y18]))]) [0] (by decide) rfl) (va_recv hE.1 hP (ci := 7) (q0 := 0) rfl rfl) rfl hl.1 rfl (Nat.le_of_ble_eq_true rfl) dX6_step_23 ⟨Nat.zero_le _, Nat.zero_le _⟩ (fun cs_ H locs h_2 hP hD hS => ?_)
    subst h_2
    have hP : va_P E.1 vwCl [(q, .inr (7, [.int (if (decide (a < 0) || (decide (nI k ≤ a) || decide (¬ 0 ≤ d))) then 1 else 0), .int (nI gw), .int (nI gh), .ref y1, .ref y2, .ref y3, .int to, .int (b2i wr), .ref y4, .ref y5, .int (nI k), .ref y6, .ref y7, .ref y8, .ref y9, .int (nI mk), .ref y10, .ref y11, .ref y12, .ref y13, .ref y14, .ref y15, .ref y16, .ref y17, .ref y18])), (y6, .inl (E.2 0, 900, .inl nu)), (y7, .inl (E.2 0, 900, .inl pl)), (y8, .inl (E.2 0, 901, .inl bg)), (y9, .inl (E.2 0, 4000, .inl ch))] H := hP.sub [4, 0, 1, 2, 3] rfl
    have hD : va_D A [(q, .inr (7, [.int (if (decide (a < 0) || (decide (nI k ≤ a) || decide (¬ 0 ≤ d))) then 1 else 0), .int (nI gw), .int (nI gh), .ref y1, .ref y2, .ref y3, .int to, .int (b2i wr), .ref y4, .ref y5, .int (nI k), .ref y6, .ref y7, .ref y8, .ref y9, .int (nI mk), .ref y10, .ref y11, .ref y12, .ref y13, .ref y14, .ref y15, .ref y16, .ref y17, .ref y18])), (y6, .inl (E.2 0, 900, .inl nu)), (y7, .inl (E.2 0, 900, .inl pl)), (y8, .inl (E.2 0, 901, .inl bg)), (y9, .inl (E.2 0, 4000, .inl ch))] := hD.sub [4, 0, 1, 2, 3] (by decide) rfl
    refine lv_if_eq (tgt := 31) hx hb dX6_step_26 (by decide) (fun c_26 => ?_) (fun c_26 => ?_)
    · skip
      have hok : (decide (a < 0) || (decide (nI k ≤ a) || decide (¬ 0 ≤ d))) = false := by rw [b2i_eq0] at c_26; exact c_26
      obtain ⟨j, hj, rfl, hd0⟩ := step_some (by omega) hok
      obtain ⟨b0, b1, hb0, hb1, hb01, hb4⟩ := hbg j hj
      obtain ⟨w, hw, rfl⟩ := nI_of (Int32.not_lt.mpr hd0)
      clear hbg
      refine lv_aload_n hx hb dX6_step_31 rfl (lv_at hl 0 rfl) ?_
      refine va_get (D := E.1) (ci := 7) (v := .ref y8) (C := RX6) (T := TX6) (N := 25) hx hb hts hi_RX6 hown hE.1 hP 0 rfl rfl 13 (by decide) hf_35 (fun _ h9 => h9) rfl dX6_step_32 ?_
      refine lv_iload_n hx hb dX6_step_35 rfl (lv_at hl 1 rfl) ?_
      refine lv_iconst (v := 1) hx hb dX6_step_36 (by decide) ?_
      refine lv_iadd hx hb dX6_step_37 ?_
      refine lv_eqi (show ((nI j) + 1 : Int32) = nI (j + 1) from nI_add j 1) ?_
      refine va_iald hx hb hE.1 hP 3 0 rfl rfl (show vp_in (nI (j + 1)) 901 from vp_in_nI (by omega) (by decide)) dX6_step_38 ?_
      refine lv_eqi (congrArg bg (show (nI (j + 1) : Int32).toNatClampNeg = (j + 1) from nI_clamp (by omega))) ?_
      refine lv_eqi hb1 ?_
      refine lv_aload_n hx hb dX6_step_39 rfl (lv_at hl 0 rfl) ?_
      refine va_get (D := E.1) (ci := 7) (v := .ref y8) (C := RX6) (T := TX6) (N := 25) hx hb hts hi_RX6 hown hE.1 hP 0 rfl rfl 13 (by decide) hf_35 (fun _ h9 => h9) rfl dX6_step_40 ?_
      refine lv_iload_n hx hb dX6_step_43 rfl (lv_at hl 1 rfl) ?_
      refine va_iald hx hb hE.1 hP 3 0 rfl rfl (show vp_in (nI j) 901 from vp_in_nI (by omega) (by decide)) dX6_step_44 ?_
      refine lv_eqi (congrArg bg (show (nI j : Int32).toNatClampNeg = j from nI_clamp (by omega))) ?_
      refine lv_eqi hb0 ?_
      refine lv_isub hx hb dX6_step_45 ?_
      refine lv_eqi (show ((nI b1) - (nI b0) : Int32) = nI (b1 - b0) from pk_sub (a := b1) (b := b0) (by omega)) ?_
      refine lv_istore_n (lv' := [(3, .int (nI (b1 - b0))), (0, .ref q), (1, .int (nI j)), (2, .int (nI w))]) hx hb dX6_step_46 rfl hl (by decide) rfl (fun ls hl => ?_)
      refine lv_iload_n hx hb dX6_step_47 rfl (lv_at hl 3 rfl) ?_
      refine lv_iconst (v := 3) hx hb dX6_step_48 (by decide) ?_
      refine lv_icmp_ge (tgt := 81) hx hb dX6_step_49 (by decide) (fun c_49 => ?_) (fun c_49 => ?_)
      · skip
        have m_49 : 3 ≤ w := (nI_leI (a := 3) (b := w) (by omega) (by omega)).mp c_49
        have k_49 : ¬ w < 3 := Nat.not_lt.mpr m_49
        refine lv_iload_n hx hb dX6_step_81 rfl (lv_at hl 3 rfl) ?_
        refine lv_iconst (v := 3) hx hb dX6_step_82 (by decide) ?_
        refine lv_isub hx hb dX6_step_83 ?_
        refine lv_eqi (show ((nI w) - 3 : Int32) = nI (w - 3) from pk_sub (a := w) (b := 3) (by omega)) ?_
        refine lv_iload_n hx hb dX6_step_84 rfl (lv_at hl 0 rfl) ?_
        refine lv_icmp_ge (tgt := 106) hx hb dX6_step_85 (by decide) (fun c_85 => ?_) (fun c_85 => ?_)
        · skip
          have m_85 : (b1 - b0) ≤ (w - 3) := (nI_leI (a := (b1 - b0)) (b := (w - 3)) (by omega) (by omega)).mp c_85
          have k_85 : ¬ (w - 3) < (b1 - b0) := Nat.not_lt.mpr m_85
          refine lv_iconst (v := (-1)) hx hb dX6_step_106 (by decide) ?_
          exact W.iret (v := (-1)) hx hb hr (fun t9 ht9 hW => ⟨⟨by rw [if_neg (by rw [hok]; decide), nI_clamp (show j < 2 ^ 31 by omega)]; rw [if_neg (show ¬ nI w = 0 from step_ne 0 (by omega)), if_neg (show ¬ nI w = 1 from step_ne 1 (by omega)), if_neg (step_n3 (by omega)), hb0, hb1, show (nI w - 3 : Int32) = nI (w - 3) from pk_sub (a := w) (b := 3) (by omega), show (nI b1 - nI b0 : Int32) = nI (b1 - b0) from pk_sub hb01]; rw [if_neg (Int32.not_lt.mpr c_85)], [(q, .inr (7, [.int (if (decide ((nI j) < 0) || (decide (nI k ≤ (nI j)) || decide (¬ 0 ≤ (nI w)))) then 1 else 0), .int (nI gw), .int (nI gh), .ref y1, .ref y2, .ref y3, .int to, .int (b2i wr), .ref y4, .ref y5, .int (nI k), .ref y6, .ref y7, .ref y8, .ref y9, .int (nI mk), .ref y10, .ref y11, .ref y12, .ref y13, .ref y14, .ref y15, .ref y16, .ref y17, .ref y18])), (y6, .inl (E.2 0, 900, .inl nu)), (y7, .inl (E.2 0, 900, .inl pl)), (y8, .inl (E.2 0, 901, .inl bg)), (y9, .inl (E.2 0, 4000, .inl ch))], rfl, by rw [ht9]; exact hP, hD⟩, hS.F ht9⟩) hS.2.2 dX6_step_107
        · skip
          have m_85 : ¬ (b1 - b0) ≤ (w - 3) := fun q => c_85 ((nI_leI (a := (b1 - b0)) (b := (w - 3)) (by omega) (by omega)).mpr q)
          have k_85 : (w - 3) < (b1 - b0) := Nat.lt_of_not_le m_85
          refine lv_aload_n hx hb dX6_step_88 rfl (lv_at hl 1 rfl) ?_
          refine va_get (D := E.1) (ci := 7) (v := .ref y9) (C := RX6) (T := TX6) (N := 25) hx hb hts hi_RX6 hown hE.1 hP 0 rfl rfl 14 (by decide) hf_38 (fun _ h9 => h9) rfl dX6_step_89 ?_
          refine lv_aload_n hx hb dX6_step_92 rfl (lv_at hl 1 rfl) ?_
          refine va_get (D := E.1) (ci := 7) (v := .ref y8) (C := RX6) (T := TX6) (N := 25) hx hb hts hi_RX6 hown hE.1 hP 0 rfl rfl 13 (by decide) hf_35 (fun _ h9 => h9) rfl dX6_step_93 ?_
          refine lv_iload_n hx hb dX6_step_96 rfl (lv_at hl 2 rfl) ?_
          refine va_iald hx hb hE.1 hP 3 0 rfl rfl (show vp_in (nI j) 901 from vp_in_nI (by omega) (by decide)) dX6_step_97 ?_
          refine lv_eqi (congrArg bg (show (nI j : Int32).toNatClampNeg = j from nI_clamp (by omega))) ?_
          refine lv_eqi hb0 ?_
          refine lv_iload_n hx hb dX6_step_98 rfl (lv_at hl 3 rfl) ?_
          refine lv_iadd hx hb dX6_step_99 ?_
          refine lv_eqi (show ((nI b0) + (nI w) : Int32) = nI (b0 + w) from nI_add b0 w) ?_
          refine lv_iconst (v := 3) hx hb dX6_step_100 (by decide) ?_
          refine lv_isub hx hb dX6_step_101 ?_
          refine lv_eqi (show ((nI (b0 + w)) - 3 : Int32) = nI ((b0 + w) - 3) from pk_sub (a := (b0 + w)) (b := 3) (by omega)) ?_
          refine va_iald hx hb hE.1 hP 4 0 rfl rfl (show vp_in (nI ((b0 + w) - 3)) 4000 from vp_in_nI (by omega) (by decide)) dX6_step_102 ?_
          refine lv_eqi (congrArg ch (show (nI ((b0 + w) - 3) : Int32).toNatClampNeg = ((b0 + w) - 3) from nI_clamp (by omega))) ?_
          refine lv_goto (tgt := 107) hx hb dX6_step_103 (by decide) ?_
          exact W.iret (v := ch ((b0 + w) - 3)) hx hb hr (fun t9 ht9 hW => ⟨⟨by rw [if_neg (by rw [hok]; decide), nI_clamp (show j < 2 ^ 31 by omega)]; rw [if_neg (show ¬ nI w = 0 from step_ne 0 (by omega)), if_neg (show ¬ nI w = 1 from step_ne 1 (by omega)), if_neg (step_n3 (by omega)), hb0, hb1, show (nI w - 3 : Int32) = nI (w - 3) from pk_sub (a := w) (b := 3) (by omega), show (nI b1 - nI b0 : Int32) = nI (b1 - b0) from pk_sub hb01]; rw [if_pos (Int32.not_le.mp c_85), show (nI b0 + nI w - 3 : Int32) = nI (b0 + w - 3) from by rw [nI_add]; exact pk_sub (a := b0 + w) (b := 3) (by omega)]; exact congrArg (fun x => Outcome.returned (some (Value.int (ch x)))) (nI_clamp (by omega)).symm, [(q, .inr (7, [.int (if (decide ((nI j) < 0) || (decide (nI k ≤ (nI j)) || decide (¬ 0 ≤ (nI w)))) then 1 else 0), .int (nI gw), .int (nI gh), .ref y1, .ref y2, .ref y3, .int to, .int (b2i wr), .ref y4, .ref y5, .int (nI k), .ref y6, .ref y7, .ref y8, .ref y9, .int (nI mk), .ref y10, .ref y11, .ref y12, .ref y13, .ref y14, .ref y15, .ref y16, .ref y17, .ref y18])), (y6, .inl (E.2 0, 900, .inl nu)), (y7, .inl (E.2 0, 900, .inl pl)), (y8, .inl (E.2 0, 901, .inl bg)), (y9, .inl (E.2 0, 4000, .inl ch))], rfl, by rw [ht9]; exact hP, hD⟩, hS.F ht9⟩) hS.2.2 dX6_step_107
      · skip
        have m_49 : ¬ 3 ≤ w := fun q => c_49 ((nI_leI (a := 3) (b := w) (by omega) (by omega)).mpr q)
        have k_49 : w < 3 := Nat.lt_of_not_le m_49
        refine lv_iload_n hx hb dX6_step_52 rfl (lv_at hl 3 rfl) ?_
        refine lv_if_ne (tgt := 65) hx hb dX6_step_53 (by decide) (fun c_53 => ?_) (fun c_53 => ?_)
        · skip
          have m_53 : ¬ w = 0 := fun q => c_53 ((nI_eq (a := w) (b := 0) (by omega) (by omega)).mpr q)
          refine lv_iload_n hx hb dX6_step_65 rfl (lv_at hl 3 rfl) ?_
          refine lv_iconst (v := 1) hx hb dX6_step_66 (by decide) ?_
          refine lv_icmp_ne (tgt := 79) hx hb dX6_step_67 (by decide) (fun c_67 => ?_) (fun c_67 => ?_)
          · skip
            have m_67 : ¬ w = 1 := fun q => c_67 ((nI_eq (a := w) (b := 1) (by omega) (by omega)).mpr q)
            refine lv_iload_n hx hb dX6_step_79 rfl (lv_at hl 0 rfl) ?_
            exact W.iret (v := nI (b1 - b0)) hx hb hr (fun t9 ht9 hW => ⟨⟨by obtain rfl : w = 2 := (by omega); rw [if_neg (by rw [hok]; decide), nI_clamp (show j < 2 ^ 31 by omega)]; rw [hb0, hb1]; exact congrArg (fun x => Outcome.returned (some (Value.int x))) (pk_sub hb01).symm, [(q, .inr (7, [.int (if (decide ((nI j) < 0) || (decide (nI k ≤ (nI j)) || decide (¬ 0 ≤ (nI w)))) then 1 else 0), .int (nI gw), .int (nI gh), .ref y1, .ref y2, .ref y3, .int to, .int (b2i wr), .ref y4, .ref y5, .int (nI k), .ref y6, .ref y7, .ref y8, .ref y9, .int (nI mk), .ref y10, .ref y11, .ref y12, .ref y13, .ref y14, .ref y15, .ref y16, .ref y17, .ref y18])), (y6, .inl (E.2 0, 900, .inl nu)), (y7, .inl (E.2 0, 900, .inl pl)), (y8, .inl (E.2 0, 901, .inl bg)), (y9, .inl (E.2 0, 4000, .inl ch))], rfl, by rw [ht9]; exact hP, hD⟩, hS.F ht9⟩) hS.2.2 dX6_step_80
          · skip
            have m_67 : w = 1 := (nI_eq (a := w) (b := 1) (by omega) (by omega)).mp c_67
            refine lv_aload_n hx hb dX6_step_70 rfl (lv_at hl 1 rfl) ?_
            refine va_get (D := E.1) (ci := 7) (v := .ref y7) (C := RX6) (T := TX6) (N := 25) hx hb hts hi_RX6 hown hE.1 hP 0 rfl rfl 12 (by decide) hf_32 (fun _ h9 => h9) rfl dX6_step_71 ?_
            refine lv_iload_n hx hb dX6_step_74 rfl (lv_at hl 2 rfl) ?_
            refine va_iald hx hb hE.1 hP 2 0 rfl rfl (show vp_in (nI j) 900 from vp_in_nI (by omega) (by decide)) dX6_step_75 ?_
            refine lv_eqi (congrArg pl (show (nI j : Int32).toNatClampNeg = j from nI_clamp (by omega))) ?_
            refine lv_goto (tgt := 80) hx hb dX6_step_76 (by decide) ?_
            exact W.iret (v := pl j) hx hb hr (fun t9 ht9 hW => ⟨⟨by obtain rfl : w = 1 := m_67; rw [if_neg (by rw [hok]; decide), nI_clamp (show j < 2 ^ 31 by omega)]; rfl, [(q, .inr (7, [.int (if (decide ((nI j) < 0) || (decide (nI k ≤ (nI j)) || decide (¬ 0 ≤ (nI w)))) then 1 else 0), .int (nI gw), .int (nI gh), .ref y1, .ref y2, .ref y3, .int to, .int (b2i wr), .ref y4, .ref y5, .int (nI k), .ref y6, .ref y7, .ref y8, .ref y9, .int (nI mk), .ref y10, .ref y11, .ref y12, .ref y13, .ref y14, .ref y15, .ref y16, .ref y17, .ref y18])), (y6, .inl (E.2 0, 900, .inl nu)), (y7, .inl (E.2 0, 900, .inl pl)), (y8, .inl (E.2 0, 901, .inl bg)), (y9, .inl (E.2 0, 4000, .inl ch))], rfl, by rw [ht9]; exact hP, hD⟩, hS.F ht9⟩) hS.2.2 dX6_step_80
        · skip
          have m_53 : w = 0 := (nI_eq (a := w) (b := 0) (by omega) (by omega)).mp c_53
          refine lv_aload_n hx hb dX6_step_56 rfl (lv_at hl 1 rfl) ?_
          refine va_get (D := E.1) (ci := 7) (v := .ref y6) (C := RX6) (T := TX6) (N := 25) hx hb hts hi_RX6 hown hE.1 hP 0 rfl rfl 11 (by decide) hf_29 (fun _ h9 => h9) rfl dX6_step_57 ?_
          refine lv_iload_n hx hb dX6_step_60 rfl (lv_at hl 2 rfl) ?_
          refine va_iald hx hb hE.1 hP 1 0 rfl rfl (show vp_in (nI j) 900 from vp_in_nI (by omega) (by decide)) dX6_step_61 ?_
          refine lv_eqi (congrArg nu (show (nI j : Int32).toNatClampNeg = j from nI_clamp (by omega))) ?_
          refine lv_goto (tgt := 80) hx hb dX6_step_62 (by decide) ?_
          exact W.iret (v := nu j) hx hb hr (fun t9 ht9 hW => ⟨⟨by obtain rfl : w = 0 := m_53; rw [if_neg (by rw [hok]; decide), nI_clamp (show j < 2 ^ 31 by omega)]; rfl, [(q, .inr (7, [.int (if (decide ((nI j) < 0) || (decide (nI k ≤ (nI j)) || decide (¬ 0 ≤ (nI w)))) then 1 else 0), .int (nI gw), .int (nI gh), .ref y1, .ref y2, .ref y3, .int to, .int (b2i wr), .ref y4, .ref y5, .int (nI k), .ref y6, .ref y7, .ref y8, .ref y9, .int (nI mk), .ref y10, .ref y11, .ref y12, .ref y13, .ref y14, .ref y15, .ref y16, .ref y17, .ref y18])), (y6, .inl (E.2 0, 900, .inl nu)), (y7, .inl (E.2 0, 900, .inl pl)), (y8, .inl (E.2 0, 901, .inl bg)), (y9, .inl (E.2 0, 4000, .inl ch))], rfl, by rw [ht9]; exact hP, hD⟩, hS.F ht9⟩) hS.2.2 dX6_step_80
    · skip
      refine lv_iconst (v := 0) hx hb dX6_step_29 (by decide) ?_
      exact W.iret (v := 0) hx hb hr (fun t9 ht9 hW => ⟨⟨by rw [b2i_eq0] at c_26; rw [if_pos (nf c_26)], [(q, .inr (7, [.int (if (decide (a < 0) || (decide (nI k ≤ a) || decide (¬ 0 ≤ d))) then 1 else 0), .int (nI gw), .int (nI gh), .ref y1, .ref y2, .ref y3, .int to, .int (b2i wr), .ref y4, .ref y5, .int (nI k), .ref y6, .ref y7, .ref y8, .ref y9, .int (nI mk), .ref y10, .ref y11, .ref y12, .ref y13, .ref y14, .ref y15, .ref y16, .ref y17, .ref y18])), (y6, .inl (E.2 0, 900, .inl nu)), (y7, .inl (E.2 0, 900, .inl pl)), (y8, .inl (E.2 0, 901, .inl bg)), (y9, .inl (E.2 0, 4000, .inl ch))], rfl, by rw [ht9]; exact hP, hD⟩, hS.F ht9⟩) hS.2.2 dX6_step_30
  · skip
    refine lv_if_lt (tgt := 18) hx hb dX6_step_3 (by decide) (fun c_3 => ?_) (fun c_3 => ?_)
    · skip
      refine lv_iconst (v := 1) hx hb dX6_step_18 (by decide) ?_
      refine lv_goto (tgt := 23) hx hb dX6_step_19 (by decide) ?_
      exact K_3 _ (by simp [b2i, c_3])
    · skip
      refine lv_iload_n hx hb dX6_step_6 rfl (lv_at hl 1 rfl) ?_
      refine lv_aload_n hx hb dX6_step_7 rfl (lv_at hl 0 rfl) ?_
      refine va_get (D := E.1) (ci := 7) (v := .int (nI k)) (C := RX6) (T := TX6) (N := 25) hx hb hts hi_RX6 hown hE.1 hP 0 rfl rfl 10 (by decide) hf_105 (fun _ h9 => h9) rfl dX6_step_8 ?_
      refine lv_icmp_ge (tgt := 18) hx hb dX6_step_11 (by decide) (fun c_11 => ?_) (fun c_11 => ?_)
      · skip
        refine lv_iconst (v := 1) hx hb dX6_step_18 (by decide) ?_
        refine lv_goto (tgt := 23) hx hb dX6_step_19 (by decide) ?_
        exact K_3 _ (by simp [b2i, c_3, c_11])
      · skip
        refine lv_iload_n hx hb dX6_step_14 rfl (lv_at hl 2 rfl) ?_
        refine lv_if_ge (tgt := 22) hx hb dX6_step_15 (by decide) (fun c_15 => ?_) (fun c_15 => ?_)
        · skip
          refine lv_iconst (v := 0) hx hb dX6_step_22 (by decide) ?_
          exact K_3 _ (by simp [b2i, c_3, c_11, c_15])
        · skip
          refine lv_iconst (v := 1) hx hb dX6_step_18 (by decide) ?_
          refine lv_goto (tgt := 23) hx hb dX6_step_19 (by decide) ?_
          exact K_3 _ (by simp [b2i, c_3, c_11, c_15])
