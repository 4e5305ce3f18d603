def chV (i : Int32) (z : Bool) : Int32 := 2 * i + b2i z
def sv (z : Bool) : Int32 := if z then 1 else 2
theorem sv_1 {z : Bool} : sv z = 1 ↔ z = true := by cases z <;> simp [sv]
theorem sv_ch1 {z : Bool} {e : Nat} (h : sv z = 1) : nI (2 * e + 1) = chV (nI e) z := by
  rw [chV, sv_1.mp h, ← nI_1]; exact congrArg (· + 1) (pk_mul 2 e).symm
theorem sv_ch0 {z : Bool} {e : Nat} (h : ¬ sv z = 1) : nI (2 * e) = chV (nI e) z := by
  have h0 : z = false := by cases z with | false => rfl | true => exact absurd rfl h
  rw [chV, h0, show (2 : Int32) * nI e = nI (2 * e) from pk_mul 2 e]; exact (Int32.add_zero _).symm
set_option maxHeartbeats 4000000 in
set_option maxRecDepth 100000 in
theorem cX6_fails_ct (l : Launch) (E : GE) (sz : Nat) (q : Nat) (y1 : Nat) (y2 : Nat) (y3 : Nat) (y4 : Nat) (y5 : Nat) (y6 : Nat) (y7 : Nat) (y8 : Nat) (y9 : Nat) (y10 : Nat) (y11 : Nat) (y12 : Nat) (y13 : Nat) (y14 : Nat) (y15 : Nat) (y16 : Nat) (y17 : Nat) (y18 : Nat) (gw : Nat) (gh : Nat) (th : Int32) (to : Int32) (wr : Bool) (k : Nat) (mk : Nat) (co : Int32) (z : Bool)  : wrM l yX6_fails wsX6_fails ({ frames := 0, cells := 0, slots := 0, locals := 0 }) E sz [.ref q, .int co, .int (b2i z)] [(q, .inr (7, [.int th, .int (nI gw), .int (nI gh), .ref y1, .ref y2, .ref y3, .int to, .int (b2i wr), .ref y4, .ref y5, .int (nI k), .ref y6, .ref y7, .ref y8, .ref y9, .int (nI mk), .ref y10, .ref y11, .ref y12, .ref y13, .ref y14, .ref y15, .ref y16, .ref y17, .ref y18]))] (some (.int (b2i z))) (fun cs' => cs' = [(q, .inr (7, [.int (if z then co else 0), .int (nI gw), .int (nI gh), .ref y1, .ref y2, .ref y3, .int to, .int (b2i wr), .ref y4, .ref y5, .int (nI k), .ref y6, .ref y7, .ref y8, .ref y9, .int (nI mk), .ref y10, .ref y11, .ref y12, .ref y13, .ref y14, .ref y15, .ref y16, .ref y17, .ref y18]))]) 0 0 := by
  refine Met.ofW (cc := cX6_fails) (maxL := 3) (ret := (some .boolean)) (by decide) rfl ?_
  intro p e s m args below meth c s₁ B hml hv
  obtain ⟨rfl, hsz, hE, hP, hD0⟩ := hv
  have hx := B.exec
  have hb := B.bytes
  have hr := B.returns
  have hts := atoms_spec (ws := wsX6_fails) B.pre
  have hown : s.vm.findClass RX6 = some m.cls := findClass_of_methodNamed B.named
  have hlocks := B.notSynchronized
  subst hsz
  have hD := hD0.self (sz := s.heap.size)
  generalize hAe : va_A [(q, .inr (7, [.int th, .int (nI gw), .int (nI gh), .ref y1, .ref y2, .ref y3, .int to, .int (b2i wr), .ref y4, .ref y5, .int (nI k), .ref y6, .ref y7, .ref y8, .ref y9, .int (nI mk), .ref y10, .ref y11, .ref y12, .ref y13, .ref y14, .ref y15, .ref y16, .ref y17, .ref y18]))] s.heap.size = A at hD ⊢
  have hA : ∀ q : Nat, s.heap.size ≤ q → A q := fun q h => by rw [← hAe]; exact Or.inr h
  have hS : va_S A s.heap s.heap [] := va_S.rf
  have hP : va_P E.1 vwCl [(q, .inr (7, [.int th, .int (nI gw), .int (nI gh), .ref y1, .ref y2, .ref y3, .int to, .int (b2i wr), .ref y4, .ref y5, .int (nI k), .ref y6, .ref y7, .ref y8, .ref y9, .int (nI mk), .ref y10, .ref y11, .ref y12, .ref y13, .ref y14, .ref y15, .ref y16, .ref y17, .ref y18]))] s.heap := hP
  have hl := lv_entry ([.ref q, .int co, .int (b2i z)]) (n := 3) (Nat.le_of_ble_eq_true rfl)
  rw [lg_entry_eq]
  generalize (lg_sl ([.ref q, .int co, .int (b2i z)]) ++ List.replicate (3 - (lg_sl ([.ref q, .int co, .int (b2i z)])).length) Slot.unset).toArray = ls at hl ⊢
  have hl : lv_has ls 3 [(0, .ref q), (1, .int co), (2, .int (b2i z))] := hl
  have hf_75 := hts (.fieldLink RX6 75 "LoopRegionsModel" "thrown" "I") (by decide +kernel)
  have hi_RX6 : ∀ w ∈ wsX60, w ∈ wsX6_fails := by decide +kernel
  refine lv_aload_n hx hb dX6_fails_0 rfl (lv_at hl 0 rfl) ?_
  refine lv_iload_n hx hb dX6_fails_1 rfl (lv_at hl 2 rfl) ?_
  refine W_joinI (J := 10) (rest := [.ref q]) (fun z9 => z9 = if z then co else 0) (fun v_1 ev_1 => ?_) (fun K_2 => ?_)
  · skip
    refine va_put (D := E.1) (ci := 7) (v := .int v_1) (ty := .int) (C := RX6) (T := TX6) (N := 25) hx hb hts hi_RX6 tyX6 tyX6_ok nmX6 hown hE.1 hP hD hS 0 rfl rfl 0 (by decide) hf_75 (fun _ h9 => h9) rfl (by decide +kernel) (rfl) (rfl) (Nat.le_of_ble_eq_true rfl) dX6_fails_10 (fun H locs hP hD hS => ?_)
    have hP : va_P E.1 vwCl [(q, .inr (7, [.int v_1, .int (nI gw), .int (nI gh), .ref y1, .ref y2, .ref y3, .int to, .int (b2i wr), .ref y4, .ref y5, .int (nI k), .ref y6, .ref y7, .ref y8, .ref y9, .int (nI mk), .ref y10, .ref y11, .ref y12, .ref y13, .ref y14, .ref y15, .ref y16, .ref y17, .ref y18]))] H := hP
    have hD : va_D A [(q, .inr (7, [.int v_1, .int (nI gw), .int (nI gh), .ref y1, .ref y2, .ref y3, .int to, .int (b2i wr), .ref y4, .ref y5, .int (nI k), .ref y6, .ref y7, .ref y8, .ref y9, .int (nI mk), .ref y10, .ref y11, .ref y12, .ref y13, .ref y14, .ref y15, .ref y16, .ref y17, .ref y18]))] := hD
    refine lv_iload_n hx hb dX6_fails_13 rfl (lv_at hl 2 rfl) ?_
    exact W.zret (v := b2i z) hx hb hr (by first | exact b2i_nar _ | (subst_vars; exact b2i_nar _)) (fun t9 ht9 hW => ⟨⟨rfl, [(q, .inr (7, [.int v_1, .int (nI gw), .int (nI gh), .ref y1, .ref y2, .ref y3, .int to, .int (b2i wr), .ref y4, .ref y5, .int (nI k), .ref y6, .ref y7, .ref y8, .ref y9, .int (nI mk), .ref y10, .ref y11, .ref y12, .ref y13, .ref y14, .ref y15, .ref y16, .ref y17, .ref y18]))], by subst ev_1; rfl, by rw [ht9]; exact hP, hD⟩, hS.F ht9⟩) hS.2.2 dX6_fails_14
  · skip
    refine lv_if_eq (tgt := 9) hx hb dX6_fails_2 (by decide) (fun c_2 => ?_) (fun c_2 => ?_)
    · skip
      refine lv_iconst (v := 0) hx hb dX6_fails_9 (by decide) ?_
      exact K_2 _ (by rw [b2i_eq0] at c_2; simp [c_2])
    · skip
      refine lv_iload_n hx hb dX6_fails_5 rfl (lv_at hl 1 rfl) ?_
      refine lv_goto (tgt := 10) hx hb dX6_fails_6 (by decide) ?_
      exact K_2 _ (by rw [b2i_eq0] at c_2; simp [c_2])
set_option maxHeartbeats 4000000 in
set_option maxRecDepth 100000 in
theorem cX6_begin_ct (l : Launch) (E : GE) (sz : Nat) (q : Nat) (y1 : Nat) (y2 : Nat) (y3 : Nat) (y4 : Nat) (y5 : Nat) (y6 : Nat) (y7 : Nat) (y8 : Nat) (y9 : Nat) (y10 : Nat) (y11 : Nat) (y12 : Nat) (y13 : Nat) (y14 : Nat) (y15 : Nat) (y16 : Nat) (y17 : Nat) (y18 : Nat) (gw : Nat) (gh : Nat) (th : Int32) (to : Int32) (wr : Bool) (k : Nat) (mk : Nat) (nu : Nat → Int32) (pl : Nat → Int32) (bg : Nat → Int32) (t : Nat) (no pc : Int32) (hk : k < 900) (ht : bg k = nI t) : wrM l yX6_begin wsX6_begin ({ frames := 0, cells := 0, slots := 0, locals := 0 }) E sz [.ref q, .int no, .int pc] [(q, .inr (7, [.int th, .int (nI gw), .int (nI gh), .ref y1, .ref y2, .ref y3, .int to, .int (b2i wr), .ref y4, .ref y5, .int (nI k), .ref y6, .ref y7, .ref y8, .ref y9, .int (nI mk), .ref y10, .ref y11, .ref y12, .ref y13, .ref y14, .ref y15, .ref y16, .ref y17, .ref y18])), (y6, .inl (E.2 0, 900, .inl nu)), (y7, .inl (E.2 0, 900, .inl pl)), (y8, .inl (E.2 0, 901, .inl bg))] none (fun cs' => cs' = [(q, .inr (7, [.int th, .int (nI gw), .int (nI gh), .ref y1, .ref y2, .ref y3, .int to, .int (b2i wr), .ref y4, .ref y5, .int (nI (k + 1)), .ref y6, .ref y7, .ref y8, .ref y9, .int (nI mk), .ref y10, .ref y11, .ref y12, .ref y13, .ref y14, .ref y15, .ref y16, .ref y17, .ref y18])), (y6, .inl (E.2 0, 900, .inl (upd nu k no))), (y7, .inl (E.2 0, 900, .inl (upd pl k pc))), (y8, .inl (E.2 0, 901, .inl (upd bg (k + 1) (nI t))))]) 0 0 := by
  refine Met.ofW (cc := cX6_begin) (maxL := 3) (ret := none) (by decide) rfl ?_
  intro p e s m args below meth c s₁ B hml hv
  obtain ⟨rfl, hsz, hE, hP, hD0⟩ := hv
  have hx := B.exec
  have hb := B.bytes
  have hr := B.returns
  have hts := atoms_spec (ws := wsX6_begin) B.pre
  have hown : s.vm.findClass RX6 = some m.cls := findClass_of_methodNamed B.named
  have hlocks := B.notSynchronized
  subst hsz
  have hD := hD0.self (sz := s.heap.size)
  generalize hAe : va_A [(q, .inr (7, [.int th, .int (nI gw), .int (nI gh), .ref y1, .ref y2, .ref y3, .int to, .int (b2i wr), .ref y4, .ref y5, .int (nI k), .ref y6, .ref y7, .ref y8, .ref y9, .int (nI mk), .ref y10, .ref y11, .ref y12, .ref y13, .ref y14, .ref y15, .ref y16, .ref y17, .ref y18])), (y6, .inl (E.2 0, 900, .inl nu)), (y7, .inl (E.2 0, 900, .inl pl)), (y8, .inl (E.2 0, 901, .inl bg))] s.heap.size = A at hD ⊢
  have hA : ∀ q : Nat, s.heap.size ≤ q → A q := fun q h => by rw [← hAe]; exact Or.inr h
  have hS : va_S A s.heap s.heap [] := va_S.rf
  have hP : va_P E.1 vwCl [(q, .inr (7, [.int th, .int (nI gw), .int (nI gh), .ref y1, .ref y2, .ref y3, .int to, .int (b2i wr), .ref y4, .ref y5, .int (nI k), .ref y6, .ref y7, .ref y8, .ref y9, .int (nI mk), .ref y10, .ref y11, .ref y12, .ref y13, .ref y14, .ref y15, .ref y16, .ref y17, .ref y18])), (y6, .inl (E.2 0, 900, .inl nu)), (y7, .inl (E.2 0, 900, .inl pl)), (y8, .inl (E.2 0, 901, .inl bg))] s.heap := hP
  have hl := lv_entry ([.ref q, .int no, .int pc]) (n := 3) (Nat.le_of_ble_eq_true rfl)
  rw [lg_entry_eq]
  generalize (lg_sl ([.ref q, .int no, .int pc]) ++ List.replicate (3 - (lg_sl ([.ref q, .int no, .int pc])).length) Slot.unset).toArray = ls at hl ⊢
  have hl : lv_has ls 3 [(0, .ref q), (1, .int no), (2, .int pc)] := hl
  have hf_105 := hts (.fieldLink RX6 105 "LoopRegionsModel" "steps" "I") (by decide +kernel)
  have hf_29 := hts (.fieldLink RX6 29 "LoopRegionsModel" "numbers" "[I") (by decide +kernel)
  have hf_32 := hts (.fieldLink RX6 32 "LoopRegionsModel" "places" "[I") (by decide +kernel)
  have hf_35 := hts (.fieldLink RX6 35 "LoopRegionsModel" "begins" "[I") (by decide +kernel)
  have hi_RX6 : ∀ w ∈ wsX60, w ∈ wsX6_begin := by decide +kernel
  refine lv_aload_n hx hb dX6_begin_0 rfl (lv_at hl 0 rfl) ?_
  refine va_get (D := E.1) (ci := 7) (v := .ref y6) (C := RX6) (T := TX6) (N := 25) hx hb hts hi_RX6 hown hE.1 hP 0 rfl rfl 11 (by decide) hf_29 (fun _ h9 => h9) rfl dX6_begin_1 ?_
  refine lv_aload_n hx hb dX6_begin_4 rfl (lv_at hl 0 rfl) ?_
  refine va_get (D := E.1) (ci := 7) (v := .int (nI k)) (C := RX6) (T := TX6) (N := 25) hx hb hts hi_RX6 hown hE.1 hP 0 rfl rfl 10 (by decide) hf_105 (fun _ h9 => h9) rfl dX6_begin_5 ?_
  refine lv_iload_n hx hb dX6_begin_8 rfl (lv_at hl 1 rfl) ?_
  refine va_iast hx hb hE.1 hP hD hS 1 0 rfl rfl (show vp_in (nI k) 900 from vp_in_nI (by omega) (by decide)) dX6_begin_9 (fun H locs hP hD hS => ?_)
  rw [show (nI k : Int32).toNatClampNeg = k from nI_clamp (by omega)] at hP hD
  have hP : va_P E.1 vwCl [(q, .inr (7, [.int th, .int (nI gw), .int (nI gh), .ref y1, .ref y2, .ref y3, .int to, .int (b2i wr), .ref y4, .ref y5, .int (nI k), .ref y6, .ref y7, .ref y8, .ref y9, .int (nI mk), .ref y10, .ref y11, .ref y12, .ref y13, .ref y14, .ref y15, .ref y16, .ref y17, .ref y18])), (y6, .inl (E.2 0, 900, .inl (upd nu k no))), (y7, .inl (E.2 0, 900, .inl pl)), (y8, .inl (E.2 0, 901, .inl bg))] H := hP
  have hD : va_D A [(q, .inr (7, [.int th, .int (nI gw), .int (nI gh), .ref y1, .ref y2, .ref y3, .int to, .int (b2i wr), .ref y4, .ref y5, .int (nI k), .ref y6, .ref y7, .ref y8, .ref y9, .int (nI mk), .ref y10, .ref y11, .ref y12, .ref y13, .ref y14, .ref y15, .ref y16, .ref y17, .ref y18])), (y6, .inl (E.2 0, 900, .inl (upd nu k no))), (y7, .inl (E.2 0, 900, .inl pl)), (y8, .inl (E.2 0, 901, .inl bg))] := hD
  refine lv_aload_n hx hb dX6_begin_10 rfl (lv_at hl 0 rfl) ?_
  refine va_get (D := E.1) (ci := 7) (v := .ref y7) (C := RX6) (T := TX6) (N := 25) hx hb hts hi_RX6 hown hE.1 hP 0 rfl rfl 12 (by decide) hf_32 (fun _ h9 => h9) rfl dX6_begin_11 ?_
  refine lv_aload_n hx hb dX6_begin_14 rfl (lv_at hl 0 rfl) ?_
  refine va_get (D := E.1) (ci := 7) (v := .int (nI k)) (C := RX6) (T := TX6) (N := 25) hx hb hts hi_RX6 hown hE.1 hP 0 rfl rfl 10 (by decide) hf_105 (fun _ h9 => h9) rfl dX6_begin_15 ?_
  refine lv_iload_n hx hb dX6_begin_18 rfl (lv_at hl 2 rfl) ?_
  refine va_iast hx hb hE.1 hP hD hS 2 0 rfl rfl (show vp_in (nI k) 900 from vp_in_nI (by omega) (by decide)) dX6_begin_19 (fun H locs hP hD hS => ?_)
  rw [show (nI k : Int32).toNatClampNeg = k from nI_clamp (by omega)] at hP hD
  have hP : va_P E.1 vwCl [(q, .inr (7, [.int th, .int (nI gw), .int (nI gh), .ref y1, .ref y2, .ref y3, .int to, .int (b2i wr), .ref y4, .ref y5, .int (nI k), .ref y6, .ref y7, .ref y8, .ref y9, .int (nI mk), .ref y10, .ref y11, .ref y12, .ref y13, .ref y14, .ref y15, .ref y16, .ref y17, .ref y18])), (y6, .inl (E.2 0, 900, .inl (upd nu k no))), (y7, .inl (E.2 0, 900, .inl (upd pl k pc))), (y8, .inl (E.2 0, 901, .inl bg))] H := hP
  have hD : va_D A [(q, .inr (7, [.int th, .int (nI gw), .int (nI gh), .ref y1, .ref y2, .ref y3, .int to, .int (b2i wr), .ref y4, .ref y5, .int (nI k), .ref y6, .ref y7, .ref y8, .ref y9, .int (nI mk), .ref y10, .ref y11, .ref y12, .ref y13, .ref y14, .ref y15, .ref y16, .ref y17, .ref y18])), (y6, .inl (E.2 0, 900, .inl (upd nu k no))), (y7, .inl (E.2 0, 900, .inl (upd pl k pc))), (y8, .inl (E.2 0, 901, .inl bg))] := hD
  refine lv_aload_n hx hb dX6_begin_20 rfl (lv_at hl 0 rfl) ?_
  refine va_get (D := E.1) (ci := 7) (v := .ref y8) (C := RX6) (T := TX6) (N := 25) hx hb hts hi_RX6 hown hE.1 hP 0 rfl rfl 13 (by decide) hf_35 (fun _ h9 => h9) rfl dX6_begin_21 ?_
  refine lv_aload_n hx hb dX6_begin_24 rfl (lv_at hl 0 rfl) ?_
  refine va_get (D := E.1) (ci := 7) (v := .int (nI k)) (C := RX6) (T := TX6) (N := 25) hx hb hts hi_RX6 hown hE.1 hP 0 rfl rfl 10 (by decide) hf_105 (fun _ h9 => h9) rfl dX6_begin_25 ?_
  refine lv_iconst (v := 1) hx hb dX6_begin_28 (by decide) ?_
  refine lv_iadd hx hb dX6_begin_29 ?_
  refine lv_eqi (show ((nI k) + 1 : Int32) = nI (k + 1) from nI_add k 1) ?_
  refine lv_aload_n hx hb dX6_begin_30 rfl (lv_at hl 0 rfl) ?_
  refine va_get (D := E.1) (ci := 7) (v := .ref y8) (C := RX6) (T := TX6) (N := 25) hx hb hts hi_RX6 hown hE.1 hP 0 rfl rfl 13 (by decide) hf_35 (fun _ h9 => h9) rfl dX6_begin_31 ?_
  refine lv_aload_n hx hb dX6_begin_34 rfl (lv_at hl 0 rfl) ?_
  refine va_get (D := E.1) (ci := 7) (v := .int (nI k)) (C := RX6) (T := TX6) (N := 25) hx hb hts hi_RX6 hown hE.1 hP 0 rfl rfl 10 (by decide) hf_105 (fun _ h9 => h9) rfl dX6_begin_35 ?_
  refine va_iald hx hb hE.1 hP 3 0 rfl rfl (show vp_in (nI k) 901 from vp_in_nI (by omega) (by decide)) dX6_begin_38 ?_
  refine lv_eqi (congrArg bg (show (nI k : Int32).toNatClampNeg = k from nI_clamp (by omega))) ?_
  refine va_iast hx hb hE.1 hP hD hS 3 0 rfl rfl (show vp_in (nI (k + 1)) 901 from vp_in_nI (by omega) (by decide)) dX6_begin_39 (fun H locs hP hD hS => ?_)
  rw [show (nI (k + 1) : Int32).toNatClampNeg = (k + 1) from nI_clamp (by omega)] at hP hD
  have hP : va_P E.1 vwCl [(q, .inr (7, [.int th, .int (nI gw), .int (nI gh), .ref y1, .ref y2, .ref y3, .int to, .int (b2i wr), .ref y4, .ref y5, .int (nI k), .ref y6, .ref y7, .ref y8, .ref y9, .int (nI mk), .ref y10, .ref y11, .ref y12, .ref y13, .ref y14, .ref y15, .ref y16, .ref y17, .ref y18])), (y6, .inl (E.2 0, 900, .inl (upd nu k no))), (y7, .inl (E.2 0, 900, .inl (upd pl k pc))), (y8, .inl (E.2 0, 901, .inl (upd bg (k + 1) (bg k))))] H := hP
  have hD : va_D A [(q, .inr (7, [.int th, .int (nI gw), .int (nI gh), .ref y1, .ref y2, .ref y3, .int to, .int (b2i wr), .ref y4, .ref y5, .int (nI k), .ref y6, .ref y7, .ref y8, .ref y9, .int (nI mk), .ref y10, .ref y11, .ref y12, .ref y13, .ref y14, .ref y15, .ref y16, .ref y17, .ref y18])), (y6, .inl (E.2 0, 900, .inl (upd nu k no))), (y7, .inl (E.2 0, 900, .inl (upd pl k pc))), (y8, .inl (E.2 0, 901, .inl (upd bg (k + 1) (bg k))))] := hD
  refine lv_aload_n hx hb dX6_begin_40 rfl (lv_at hl 0 rfl) ?_
  refine lv_dup hx hb dX6_begin_41 rfl ?_
  refine va_get (D := E.1) (ci := 7) (v := .int (nI k)) (C := RX6) (T := TX6) (N := 25) hx hb hts hi_RX6 hown hE.1 hP 0 rfl rfl 10 (by decide) hf_105 (fun _ h9 => h9) rfl dX6_begin_42 ?_
  refine lv_iconst (v := 1) hx hb dX6_begin_45 (by decide) ?_
  refine lv_iadd hx hb dX6_begin_46 ?_
  refine lv_eqi (show ((nI k) + 1 : Int32) = nI (k + 1) from nI_add k 1) ?_
  refine va_put (D := E.1) (ci := 7) (v := .int (nI (k + 1))) (ty := .int) (C := RX6) (T := TX6) (N := 25) hx hb hts hi_RX6 tyX6 tyX6_ok nmX6 hown hE.1 hP hD hS 0 rfl rfl 10 (by decide) hf_105 (fun _ h9 => h9) rfl (by decide +kernel) (rfl) (rfl) (Nat.le_of_ble_eq_true rfl) dX6_begin_47 (fun H locs hP hD hS => ?_)
  have hP : va_P E.1 vwCl [(q, .inr (7, [.int th, .int (nI gw), .int (nI gh), .ref y1, .ref y2, .ref y3, .int to, .int (b2i wr), .ref y4, .ref y5, .int (nI (k + 1)), .ref y6, .ref y7, .ref y8, .ref y9, .int (nI mk), .ref y10, .ref y11, .ref y12, .ref y13, .ref y14, .ref y15, .ref y16, .ref y17, .ref y18])), (y6, .inl (E.2 0, 900, .inl (upd nu k no))), (y7, .inl (E.2 0, 900, .inl (upd pl k pc))), (y8, .inl (E.2 0, 901, .inl (upd bg (k + 1) (bg k))))] H := hP
  have hD : va_D A [(q, .inr (7, [.int th, .int (nI gw), .int (nI gh), .ref y1, .ref y2, .ref y3, .int to, .int (b2i wr), .ref y4, .ref y5, .int (nI (k + 1)), .ref y6, .ref y7, .ref y8, .ref y9, .int (nI mk), .ref y10, .ref y11, .ref y12, .ref y13, .ref y14, .ref y15, .ref y16, .ref y17, .ref y18])), (y6, .inl (E.2 0, 900, .inl (upd nu k no))), (y7, .inl (E.2 0, 900, .inl (upd pl k pc))), (y8, .inl (E.2 0, 901, .inl (upd bg (k + 1) (bg k))))] := hD
  exact W.vret hx hb hr (fun t9 ht9 hW => ⟨⟨rfl, [(q, .inr (7, [.int th, .int (nI gw), .int (nI gh), .ref y1, .ref y2, .ref y3, .int to, .int (b2i wr), .ref y4, .ref y5, .int (nI (k + 1)), .ref y6, .ref y7, .ref y8, .ref y9, .int (nI mk), .ref y10, .ref y11, .ref y12, .ref y13, .ref y14, .ref y15, .ref y16, .ref y17, .ref y18])), (y6, .inl (E.2 0, 900, .inl (upd nu k no))), (y7, .inl (E.2 0, 900, .inl (upd pl k pc))), (y8, .inl (E.2 0, 901, .inl (upd bg (k + 1) (bg k))))], by rw [ht], by rw [ht9]; exact hP, hD⟩, hS.F ht9⟩) hS.2.2 dX6_begin_50
set_option maxHeartbeats 4000000 in
set_option maxRecDepth 100000 in
theorem cX6_change_ct (l : Launch) (E : GE) (sz : Nat) (q : Nat) (y1 : Nat) (y2 : Nat) (y3 : Nat) (y4 : Nat) (y5 : Nat) (y6 : Nat) (y7 : Nat) (y8 : Nat) (y9 : Nat) (y10 : Nat) (y11 : Nat) (y12 : Nat) (y13 : Nat) (y14 : Nat) (y15 : Nat) (y16 : Nat) (y17 : Nat) (y18 : Nat) (gw : Nat) (gh : Nat) (th : Int32) (to : Int32) (wr : Bool) (k : Nat) (mk : Nat) (bg : Nat → Int32) (ch : Nat → Int32) (t : Nat) (wh : Int32) (hk : k < 900) (htm : t < 4000) (ht : bg (k + 1) = nI t) : wrM l yX6_change wsX6_change ({ frames := 0, cells := 0, slots := 0, locals := 0 }) E sz [.ref q, .int wh] [(q, .inr (7, [.int th, .int (nI gw), .int (nI gh), .ref y1, .ref y2, .ref y3, .int to, .int (b2i wr), .ref y4, .ref y5, .int (nI (k + 1)), .ref y6, .ref y7, .ref y8, .ref y9, .int (nI mk), .ref y10, .ref y11, .ref y12, .ref y13, .ref y14, .ref y15, .ref y16, .ref y17, .ref y18])), (y8, .inl (E.2 0, 901, .inl bg)), (y9, .inl (E.2 0, 4000, .inl ch))] none (fun cs' => cs' = [(q, .inr (7, [.int th, .int (nI gw), .int (nI gh), .ref y1, .ref y2, .ref y3, .int to, .int (b2i wr), .ref y4, .ref y5, .int (nI (k + 1)), .ref y6, .ref y7, .ref y8, .ref y9, .int (nI mk), .ref y10, .ref y11, .ref y12, .ref y13, .ref y14, .ref y15, .ref y16, .ref y17, .ref y18])), (y8, .inl (E.2 0, 901, .inl (upd bg (k + 1) (nI (t + 1))))), (y9, .inl (E.2 0, 4000, .inl (upd ch t wh)))]) 0 0 := by
  refine Met.ofW (cc := cX6_change) (maxL := 2) (ret := none) (by decide) rfl ?_
  intro p e s m args below meth c s₁ B hml hv
  obtain ⟨rfl, hsz, hE, hP, hD0⟩ := hv
  have hx := B.exec
  have hb := B.bytes
  have hr := B.returns
  have hts := atoms_spec (ws := wsX6_change) B.pre
  have hown : s.vm.findClass RX6 = some m.cls := findClass_of_methodNamed B.named
  have hlocks := B.notSynchronized
  subst hsz
  have hD := hD0.self (sz := s.heap.size)
  generalize hAe : va_A [(q, .inr (7, [.int th, .int (nI gw), .int (nI gh), .ref y1, .ref y2, .ref y3, .int to, .int (b2i wr), .ref y4, .ref y5, .int (nI (k + 1)), .ref y6, .ref y7, .ref y8, .ref y9, .int (nI mk), .ref y10, .ref y11, .ref y12, .ref y13, .ref y14, .ref y15, .ref y16, .ref y17, .ref y18])), (y8, .inl (E.2 0, 901, .inl bg)), (y9, .inl (E.2 0, 4000, .inl ch))] s.heap.size = A at hD ⊢
  have hA : ∀ q : Nat, s.heap.size ≤ q → A q := fun q h => by rw [← hAe]; exact Or.inr h
  have hS : va_S A s.heap s.heap [] := va_S.rf
  have hP : va_P E.1 vwCl [(q, .inr (7, [.int th, .int (nI gw), .int (nI gh), .ref y1, .ref y2, .ref y3, .int to, .int (b2i wr), .ref y4, .ref y5, .int (nI (k + 1)), .ref y6, .ref y7, .ref y8, .ref y9, .int (nI mk), .ref y10, .ref y11, .ref y12, .ref y13, .ref y14, .ref y15, .ref y16, .ref y17, .ref y18])), (y8, .inl (E.2 0, 901, .inl bg)), (y9, .inl (E.2 0, 4000, .inl ch))] s.heap := hP
  have hl := lv_entry ([.ref q, .int wh]) (n := 2) (Nat.le_of_ble_eq_true rfl)
  rw [lg_entry_eq]
  generalize (lg_sl ([.ref q, .int wh]) ++ List.replicate (2 - (lg_sl ([.ref q, .int wh])).length) Slot.unset).toArray = ls at hl ⊢
  have hl : lv_has ls 2 [(0, .ref q), (1, .int wh)] := hl
  have hf_105 := hts (.fieldLink RX6 105 "LoopRegionsModel" "steps" "I") (by decide +kernel)
  have hf_35 := hts (.fieldLink RX6 35 "LoopRegionsModel" "begins" "[I") (by decide +kernel)
  have hf_38 := hts (.fieldLink RX6 38 "LoopRegionsModel" "changes" "[I") (by decide +kernel)
  have hi_RX6 : ∀ w ∈ wsX60, w ∈ wsX6_change := by decide +kernel
  refine lv_aload_n hx hb dX6_change_0 rfl (lv_at hl 0 rfl) ?_
  refine va_get (D := E.1) (ci := 7) (v := .ref y9) (C := RX6) (T := TX6) (N := 25) hx hb hts hi_RX6 hown hE.1 hP 0 rfl rfl 14 (by decide) hf_38 (fun _ h9 => h9) rfl dX6_change_1 ?_
  refine lv_aload_n hx hb dX6_change_4 rfl (lv_at hl 0 rfl) ?_
  refine va_get (D := E.1) (ci := 7) (v := .ref y8) (C := RX6) (T := TX6) (N := 25) hx hb hts hi_RX6 hown hE.1 hP 0 rfl rfl 13 (by decide) hf_35 (fun _ h9 => h9) rfl dX6_change_5 ?_
  refine lv_aload_n hx hb dX6_change_8 rfl (lv_at hl 0 rfl) ?_
  refine va_get (D := E.1) (ci := 7) (v := .int (nI (k + 1))) (C := RX6) (T := TX6) (N := 25) hx hb hts hi_RX6 hown hE.1 hP 0 rfl rfl 10 (by decide) hf_105 (fun _ h9 => h9) rfl dX6_change_9 ?_
  refine va_iald hx hb hE.1 hP 1 0 rfl rfl (show vp_in (nI (k + 1)) 901 from vp_in_nI (by omega) (by decide)) dX6_change_12 ?_
  refine lv_eqi (congrArg bg (show (nI (k + 1) : Int32).toNatClampNeg = (k + 1) from nI_clamp (by omega))) ?_
  refine lv_eqi ht ?_
  refine lv_iload_n hx hb dX6_change_13 rfl (lv_at hl 1 rfl) ?_
  refine va_iast hx hb hE.1 hP hD hS 2 0 rfl rfl (show vp_in (nI t) 4000 from vp_in_nI (by omega) (by decide)) dX6_change_14 (fun H locs hP hD hS => ?_)
  rw [show (nI t : Int32).toNatClampNeg = t from nI_clamp (by omega)] at hP hD
  have hP : va_P E.1 vwCl [(q, .inr (7, [.int th, .int (nI gw), .int (nI gh), .ref y1, .ref y2, .ref y3, .int to, .int (b2i wr), .ref y4, .ref y5, .int (nI (k + 1)), .ref y6, .ref y7, .ref y8, .ref y9, .int (nI mk), .ref y10, .ref y11, .ref y12, .ref y13, .ref y14, .ref y15, .ref y16, .ref y17, .ref y18])), (y8, .inl (E.2 0, 901, .inl bg)), (y9, .inl (E.2 0, 4000, .inl (upd ch t wh)))] H := hP
  have hD : va_D A [(q, .inr (7, [.int th, .int (nI gw), .int (nI gh), .ref y1, .ref y2, .ref y3, .int to, .int (b2i wr), .ref y4, .ref y5, .int (nI (k + 1)), .ref y6, .ref y7, .ref y8, .ref y9, .int (nI mk), .ref y10, .ref y11, .ref y12, .ref y13, .ref y14, .ref y15, .ref y16, .ref y17, .ref y18])), (y8, .inl (E.2 0, 901, .inl bg)), (y9, .inl (E.2 0, 4000, .inl (upd ch t wh)))] := hD
  refine lv_aload_n hx hb dX6_change_15 rfl (lv_at hl 0 rfl) ?_
  refine va_get (D := E.1) (ci := 7) (v := .ref y8) (C := RX6) (T := TX6) (N := 25) hx hb hts hi_RX6 hown hE.1 hP 0 rfl rfl 13 (by decide) hf_35 (fun _ h9 => h9) rfl dX6_change_16 ?_
  refine lv_aload_n hx hb dX6_change_19 rfl (lv_at hl 0 rfl) ?_
  refine va_get (D := E.1) (ci := 7) (v := .int (nI (k + 1))) (C := RX6) (T := TX6) (N := 25) hx hb hts hi_RX6 hown hE.1 hP 0 rfl rfl 10 (by decide) hf_105 (fun _ h9 => h9) rfl dX6_change_20 ?_
  refine lv_dup2_11 hx hb dX6_change_23 rfl rfl ?_
  refine va_iald hx hb hE.1 hP 1 0 rfl rfl (show vp_in (nI (k + 1)) 901 from vp_in_nI (by omega) (by decide)) dX6_change_24 ?_
  refine lv_eqi (congrArg bg (show (nI (k + 1) : Int32).toNatClampNeg = (k + 1) from nI_clamp (by omega))) ?_
  refine lv_eqi ht ?_
  refine lv_iconst (v := 1) hx hb dX6_change_25 (by decide) ?_
  refine lv_iadd hx hb dX6_change_26 ?_
  refine lv_eqi (show ((nI t) + 1 : Int32) = nI (t + 1) from nI_add t 1) ?_
  refine va_iast hx hb hE.1 hP hD hS 1 0 rfl rfl (show vp_in (nI (k + 1)) 901 from vp_in_nI (by omega) (by decide)) dX6_change_27 (fun H locs hP hD hS => ?_)
  rw [show (nI (k + 1) : Int32).toNatClampNeg = (k + 1) from nI_clamp (by omega)] at hP hD
  have hP : va_P E.1 vwCl [(q, .inr (7, [.int th, .int (nI gw), .int (nI gh), .ref y1, .ref y2, .ref y3, .int to, .int (b2i wr), .ref y4, .ref y5, .int (nI (k + 1)), .ref y6, .ref y7, .ref y8, .ref y9, .int (nI mk), .ref y10, .ref y11, .ref y12, .ref y13, .ref y14, .ref y15, .ref y16, .ref y17, .ref y18])), (y8, .inl (E.2 0, 901, .inl (upd bg (k + 1) (nI (t + 1))))), (y9, .inl (E.2 0, 4000, .inl (upd ch t wh)))] H := hP
  have hD : va_D A [(q, .inr (7, [.int th, .int (nI gw), .int (nI gh), .ref y1, .ref y2, .ref y3, .int to, .int (b2i wr), .ref y4, .ref y5, .int (nI (k + 1)), .ref y6, .ref y7, .ref y8, .ref y9, .int (nI mk), .ref y10, .ref y11, .ref y12, .ref y13, .ref y14, .ref y15, .ref y16, .ref y17, .ref y18])), (y8, .inl (E.2 0, 901, .inl (upd bg (k + 1) (nI (t + 1))))), (y9, .inl (E.2 0, 4000, .inl (upd ch t wh)))] := hD
  exact W.vret hx hb hr (fun t9 ht9 hW => ⟨⟨rfl, [(q, .inr (7, [.int th, .int (nI gw), .int (nI gh), .ref y1, .ref y2, .ref y3, .int to, .int (b2i wr), .ref y4, .ref y5, .int (nI (k + 1)), .ref y6, .ref y7, .ref y8, .ref y9, .int (nI mk), .ref y10, .ref y11, .ref y12, .ref y13, .ref y14, .ref y15, .ref y16, .ref y17, .ref y18])), (y8, .inl (E.2 0, 901, .inl (upd bg (k + 1) (nI (t + 1))))), (y9, .inl (E.2 0, 4000, .inl (upd ch t wh)))], rfl, by rw [ht9]; exact hP, hD⟩, hS.F ht9⟩) hS.2.2 dX6_change_28
set_option maxHeartbeats 4000000 in
set_option maxRecDepth 100000 in
theorem cX6_isWrongAt_ct (l : Launch) (E : GE) (sz : Nat) (q : Nat) (y1 : Nat) (y2 : Nat) (y3 : Nat) (y4 : Nat) (y5 : Nat) (y6 : Nat) (y7 : Nat) (y8 : Nat) (y9 : Nat) (y10 : Nat) (y11 : Nat) (y12 : Nat) (y13 : Nat) (y14 : Nat) (y15 : Nat) (y16 : Nat) (y17 : Nat) (y18 : Nat) (gw : Nat) (gh : Nat) (th : Int32) (to : Int32) (wr : Bool) (k : Nat) (mk : Nat) (nu : Nat → Int32) (pl : Nat → Int32) (bg : Nat → Int32) (t : Nat) (no pc : Int32) (hk : k < 900) (ht : bg k = nI t) : wrM l yX6_isWrongAt wsX6_isWrongAt ({ frames := 1, cells := 0, slots := 0, locals := 22 }) E sz [.ref q, .int no, .int pc] [(q, .inr (7, [.int th, .int (nI gw), .int (nI gh), .ref y1, .ref y2, .ref y3, .int to, .int (b2i wr), .ref y4, .ref y5, .int (nI k), .ref y6, .ref y7, .ref y8, .ref y9, .int (nI mk), .ref y10, .ref y11, .ref y12, .ref y13, .ref y14, .ref y15, .ref y16, .ref y17, .ref y18])), (y6, .inl (E.2 0, 900, .inl nu)), (y7, .inl (E.2 0, 900, .inl pl)), (y8, .inl (E.2 0, 901, .inl bg))] (some (.int 1)) (fun cs' => cs' = [(q, .inr (7, [.int th, .int (nI gw), .int (nI gh), .ref y1, .ref y2, .ref y3, .int to, .int (b2i true), .ref y4, .ref y5, .int (nI (k + 1)), .ref y6, .ref y7, .ref y8, .ref y9, .int (nI mk), .ref y10, .ref y11, .ref y12, .ref y13, .ref y14, .ref y15, .ref y16, .ref y17, .ref y18])), (y6, .inl (E.2 0, 900, .inl (upd nu k no))), (y7, .inl (E.2 0, 900, .inl (upd pl k pc))), (y8, .inl (E.2 0, 901, .inl (upd bg (k + 1) (nI t))))]) 0 0 := by
  refine Met.ofW (cc := cX6_isWrongAt) (maxL := 3) (ret := (some .boolean)) (by decide) rfl ?_
  intro p e s m args below meth c s₁ B hml hv
  obtain ⟨rfl, hsz, hE, hP, hD0⟩ := hv
  have hx := B.exec
  have hb := B.bytes
  have hr := B.returns
  have hts := atoms_spec (ws := wsX6_isWrongAt) B.pre
  have hown : s.vm.findClass RX6 = some m.cls := findClass_of_methodNamed B.named
  have hlocks := B.notSynchronized
  subst hsz
  have hD := hD0.self (sz := s.heap.size)
  generalize hAe : va_A [(q, .inr (7, [.int th, .int (nI gw), .int (nI gh), .ref y1, .ref y2, .ref y3, .int to, .int (b2i wr), .ref y4, .ref y5, .int (nI k), .ref y6, .ref y7, .ref y8, .ref y9, .int (nI mk), .ref y10, .ref y11, .ref y12, .ref y13, .ref y14, .ref y15, .ref y16, .ref y17, .ref y18])), (y6, .inl (E.2 0, 900, .inl nu)), (y7, .inl (E.2 0, 900, .inl pl)), (y8, .inl (E.2 0, 901, .inl bg))] s.heap.size = A at hD ⊢
  have hA : ∀ q : Nat, s.heap.size ≤ q → A q := fun q h => by rw [← hAe]; exact Or.inr h
  have hS : va_S A s.heap s.heap [] := va_S.rf
  have hP : va_P E.1 vwCl [(q, .inr (7, [.int th, .int (nI gw), .int (nI gh), .ref y1, .ref y2, .ref y3, .int to, .int (b2i wr), .ref y4, .ref y5, .int (nI k), .ref y6, .ref y7, .ref y8, .ref y9, .int (nI mk), .ref y10, .ref y11, .ref y12, .ref y13, .ref y14, .ref y15, .ref y16, .ref y17, .ref y18])), (y6, .inl (E.2 0, 900, .inl nu)), (y7, .inl (E.2 0, 900, .inl pl)), (y8, .inl (E.2 0, 901, .inl bg))] s.heap := hP
  have hl := lv_entry ([.ref q, .int no, .int pc]) (n := 3) (Nat.le_of_ble_eq_true rfl)
  rw [lg_entry_eq]
  generalize (lg_sl ([.ref q, .int no, .int pc]) ++ List.replicate (3 - (lg_sl ([.ref q, .int no, .int pc])).length) Slot.unset).toArray = ls at hl ⊢
  have hl : lv_has ls 3 [(0, .ref q), (1, .int no), (2, .int pc)] := hl
  have hf_98 := hts (.fieldLink RX6 98 "LoopRegionsModel" "isWrong" "Z") (by decide +kernel)
  have hi_RX6 : ∀ w ∈ wsX60, w ∈ wsX6_isWrongAt := by decide +kernel
  refine lv_aload_n hx hb dX6_isWrongAt_0 rfl (lv_at hl 0 rfl) ?_
  refine lv_iload_n hx hb dX6_isWrongAt_1 rfl (lv_at hl 1 rfl) ?_
  refine lv_iload_n hx hb dX6_isWrongAt_2 rfl (lv_at hl 2 rfl) ?_
  refine wrV (As := [.int no, .int pc]) (rest := []) (wr := []) ⟨hx, hb, hml, hown, hts⟩ hE (cX6_begin_ct l E s.heap.size q y1 y2 y3 y4 y5 y6 y7 y8 y9 y10 y11 y12 y13 y14 y15 y16 y17 y18 gw gh th to wr k mk nu pl bg t no pc (by first | assumption | omega | (subst_vars; assumption)) (by first | assumption | omega | (subst_vars; assumption))) (cwV 2 hts gX6_isWrongAt_X6_begin rfl rfl rfl (by decide +kernel) ⟨Nat.le_of_ble_eq_true rfl, Nat.le_of_ble_eq_true rfl⟩) hP hD hS hA [0, 1, 2, 3] [] rfl rfl (by decide) (by decide) (hP.sub (ws' := [(q, .inr (7, [.int th, .int (nI gw), .int (nI gh), .ref y1, .ref y2, .ref y3, .int to, .int (b2i wr), .ref y4, .ref y5, .int (nI k), .ref y6, .ref y7, .ref y8, .ref y9, .int (nI mk), .ref y10, .ref y11, .ref y12, .ref y13, .ref y14, .ref y15, .ref y16, .ref y17, .ref y18])), (y6, .inl (E.2 0, 900, .inl nu)), (y7, .inl (E.2 0, 900, .inl pl)), (y8, .inl (E.2 0, 901, .inl bg))]) [0, 1, 2, 3] rfl) (hD.sub (ws' := [(q, .inr (7, [.int th, .int (nI gw), .int (nI gh), .ref y1, .ref y2, .ref y3, .int to, .int (b2i wr), .ref y4, .ref y5, .int (nI k), .ref y6, .ref y7, .ref y8, .ref y9, .int (nI mk), .ref y10, .ref y11, .ref y12, .ref y13, .ref y14, .ref y15, .ref y16, .ref y17, .ref y18])), (y6, .inl (E.2 0, 900, .inl nu)), (y7, .inl (E.2 0, 900, .inl pl)), (y8, .inl (E.2 0, 901, .inl bg))]) [0, 1, 2, 3] (by decide) rfl) (va_recv hE.1 hP (ci := 7) (q0 := 0) rfl rfl) rfl hl.1 rfl (Nat.le_of_ble_eq_true rfl) dX6_isWrongAt_3 ⟨Nat.zero_le _, Nat.zero_le _⟩ (fun cs_ H locs h_1 hP hD hS => ?_)
  subst h_1
  have hP : va_P E.1 vwCl [(q, .inr (7, [.int th, .int (nI gw), .int (nI gh), .ref y1, .ref y2, .ref y3, .int to, .int (b2i wr), .ref y4, .ref y5, .int (nI (k + 1)), .ref y6, .ref y7, .ref y8, .ref y9, .int (nI mk), .ref y10, .ref y11, .ref y12, .ref y13, .ref y14, .ref y15, .ref y16, .ref y17, .ref y18])), (y6, .inl (E.2 0, 900, .inl (upd nu k no))), (y7, .inl (E.2 0, 900, .inl (upd pl k pc))), (y8, .inl (E.2 0, 901, .inl (upd bg (k + 1) (nI t))))] H := hP.sub [0, 1, 2, 3] rfl
  have hD : va_D A [(q, .inr (7, [.int th, .int (nI gw), .int (nI gh), .ref y1, .ref y2, .ref y3, .int to, .int (b2i wr), .ref y4, .ref y5, .int (nI (k + 1)), .ref y6, .ref y7, .ref y8, .ref y9, .int (nI mk), .ref y10, .ref y11, .ref y12, .ref y13, .ref y14, .ref y15, .ref y16, .ref y17, .ref y18])), (y6, .inl (E.2 0, 900, .inl (upd nu k no))), (y7, .inl (E.2 0, 900, .inl (upd pl k pc))), (y8, .inl (E.2 0, 901, .inl (upd bg (k + 1) (nI t))))] := hD.sub [0, 1, 2, 3] (by decide) rfl
  refine lv_aload_n hx hb dX6_isWrongAt_6 rfl (lv_at hl 0 rfl) ?_
  refine lv_iconst (v := 1) hx hb dX6_isWrongAt_7 (by decide) ?_
  refine va_put (D := E.1) (ci := 7) (v := .int 1) (ty := .boolean) (C := RX6) (T := TX6) (N := 25) hx hb hts hi_RX6 tyX6 tyX6_ok nmX6 hown hE.1 hP hD hS 0 rfl rfl 7 (by decide) hf_98 (fun _ h9 => h9) rfl (by decide +kernel) (rfl) (rfl) (Nat.le_of_ble_eq_true rfl) dX6_isWrongAt_8 (fun H locs hP hD hS => ?_)
  have hP : va_P E.1 vwCl [(q, .inr (7, [.int th, .int (nI gw), .int (nI gh), .ref y1, .ref y2, .ref y3, .int to, .int (b2i true), .ref y4, .ref y5, .int (nI (k + 1)), .ref y6, .ref y7, .ref y8, .ref y9, .int (nI mk), .ref y10, .ref y11, .ref y12, .ref y13, .ref y14, .ref y15, .ref y16, .ref y17, .ref y18])), (y6, .inl (E.2 0, 900, .inl (upd nu k no))), (y7, .inl (E.2 0, 900, .inl (upd pl k pc))), (y8, .inl (E.2 0, 901, .inl (upd bg (k + 1) (nI t))))] H := hP
  have hD : va_D A [(q, .inr (7, [.int th, .int (nI gw), .int (nI gh), .ref y1, .ref y2, .ref y3, .int to, .int (b2i true), .ref y4, .ref y5, .int (nI (k + 1)), .ref y6, .ref y7, .ref y8, .ref y9, .int (nI mk), .ref y10, .ref y11, .ref y12, .ref y13, .ref y14, .ref y15, .ref y16, .ref y17, .ref y18])), (y6, .inl (E.2 0, 900, .inl (upd nu k no))), (y7, .inl (E.2 0, 900, .inl (upd pl k pc))), (y8, .inl (E.2 0, 901, .inl (upd bg (k + 1) (nI t))))] := hD
  refine lv_iconst (v := 1) hx hb dX6_isWrongAt_11 (by decide) ?_
  exact W.zret (v := 1) hx hb hr (rfl) (fun t9 ht9 hW => ⟨⟨rfl, [(q, .inr (7, [.int th, .int (nI gw), .int (nI gh), .ref y1, .ref y2, .ref y3, .int to, .int (b2i true), .ref y4, .ref y5, .int (nI (k + 1)), .ref y6, .ref y7, .ref y8, .ref y9, .int (nI mk), .ref y10, .ref y11, .ref y12, .ref y13, .ref y14, .ref y15, .ref y16, .ref y17, .ref y18])), (y6, .inl (E.2 0, 900, .inl (upd nu k no))), (y7, .inl (E.2 0, 900, .inl (upd pl k pc))), (y8, .inl (E.2 0, 901, .inl (upd bg (k + 1) (nI t))))], rfl, by rw [ht9]; exact hP, hD⟩, hS.F ht9⟩) hS.2.2 dX6_isWrongAt_12
set_option maxHeartbeats 4000000 in
set_option maxRecDepth 100000 in
theorem cX6_set_ct (l : Launch) (E : GE) (sz : Nat) (q : Nat) (y1 : Nat) (y2 : Nat) (y3 : Nat) (y4 : Nat) (y5 : Nat) (y6 : Nat) (y7 : Nat) (y8 : Nat) (y9 : Nat) (y10 : Nat) (y11 : Nat) (y12 : Nat) (y13 : Nat) (y14 : Nat) (y15 : Nat) (y16 : Nat) (y17 : Nat) (y18 : Nat) (gw : Nat) (gh : Nat) (th : Int32) (to : Int32) (wr : Bool) (k : Nat) (mk : Nat) (ed : Nat → Int32) (eb : Nat → Int32) (bg : Nat → Int32) (ch : Nat → Int32) (t : Nat) (ea : Nat) (z : Bool) (hea : ea < 128) (hk : k < 900) (htm : t < 4000) (ht : bg (k + 1) = nI t) : wrM l yX6_set wsX6_set ({ frames := 1, cells := 0, slots := 0, locals := 21 }) E sz [.ref q, .int (nI ea), .int (sv z)] [(q, .inr (7, [.int th, .int (nI gw), .int (nI gh), .ref y1, .ref y2, .ref y3, .int to, .int (b2i wr), .ref y4, .ref y5, .int (nI (k + 1)), .ref y6, .ref y7, .ref y8, .ref y9, .int (nI mk), .ref y10, .ref y11, .ref y12, .ref y13, .ref y14, .ref y15, .ref y16, .ref y17, .ref y18])), (y1, .inl (E.2 0, 128, .inl ed)), (y4, .inl (E.2 0, 128, .inl eb)), (y8, .inl (E.2 0, 901, .inl bg)), (y9, .inl (E.2 0, 4000, .inl ch))] none (fun cs' => cs' = [(q, .inr (7, [.int th, .int (nI gw), .int (nI gh), .ref y1, .ref y2, .ref y3, .int to, .int (b2i wr), .ref y4, .ref y5, .int (nI (k + 1)), .ref y6, .ref y7, .ref y8, .ref y9, .int (nI mk), .ref y10, .ref y11, .ref y12, .ref y13, .ref y14, .ref y15, .ref y16, .ref y17, .ref y18])), (y1, .inl (E.2 0, 128, .inl (upd ed ea (sv z)))), (y4, .inl (E.2 0, 128, .inl (upd eb ea (nI k)))), (y8, .inl (E.2 0, 901, .inl (upd bg (k + 1) (nI (t + 1))))), (y9, .inl (E.2 0, 4000, .inl (upd ch t (chV (nI ea) z))))]) 0 0 := by
  refine Met.ofW (cc := cX6_set) (maxL := 3) (ret := none) (by decide) rfl ?_
  intro p e s m args below meth c s₁ B hml hv
  obtain ⟨rfl, hsz, hE, hP, hD0⟩ := hv
  have hx := B.exec
  have hb := B.bytes
  have hr := B.returns
  have hts := atoms_spec (ws := wsX6_set) B.pre
  have hown : s.vm.findClass RX6 = some m.cls := findClass_of_methodNamed B.named
  have hlocks := B.notSynchronized
  subst hsz
  have hD := hD0.self (sz := s.heap.size)
  generalize hAe : va_A [(q, .inr (7, [.int th, .int (nI gw), .int (nI gh), .ref y1, .ref y2, .ref y3, .int to, .int (b2i wr), .ref y4, .ref y5, .int (nI (k + 1)), .ref y6, .ref y7, .ref y8, .ref y9, .int (nI mk), .ref y10, .ref y11, .ref y12, .ref y13, .ref y14, .ref y15, .ref y16, .ref y17, .ref y18])), (y1, .inl (E.2 0, 128, .inl ed)), (y4, .inl (E.2 0, 128, .inl eb)), (y8, .inl (E.2 0, 901, .inl bg)), (y9, .inl (E.2 0, 4000, .inl ch))] s.heap.size = A at hD ⊢
  have hA : ∀ q : Nat, s.heap.size ≤ q → A q := fun q h => by rw [← hAe]; exact Or.inr h
  have hS : va_S A s.heap s.heap [] := va_S.rf
  have hP : va_P E.1 vwCl [(q, .inr (7, [.int th, .int (nI gw), .int (nI gh), .ref y1, .ref y2, .ref y3, .int to, .int (b2i wr), .ref y4, .ref y5, .int (nI (k + 1)), .ref y6, .ref y7, .ref y8, .ref y9, .int (nI mk), .ref y10, .ref y11, .ref y12, .ref y13, .ref y14, .ref y15, .ref y16, .ref y17, .ref y18])), (y1, .inl (E.2 0, 128, .inl ed)), (y4, .inl (E.2 0, 128, .inl eb)), (y8, .inl (E.2 0, 901, .inl bg)), (y9, .inl (E.2 0, 4000, .inl ch))] s.heap := hP
  have hl := lv_entry ([.ref q, .int (nI ea), .int (sv z)]) (n := 3) (Nat.le_of_ble_eq_true rfl)
  rw [lg_entry_eq]
  generalize (lg_sl ([.ref q, .int (nI ea), .int (sv z)]) ++ List.replicate (3 - (lg_sl ([.ref q, .int (nI ea), .int (sv z)])).length) Slot.unset).toArray = ls at hl ⊢
  have hl : lv_has ls 3 [(0, .ref q), (1, .int (nI ea)), (2, .int (sv z))] := hl
  have hf_105 := hts (.fieldLink RX6 105 "LoopRegionsModel" "steps" "I") (by decide +kernel)
  have hf_23 := hts (.fieldLink RX6 23 "LoopRegionsModel" "edgeBy" "[I") (by decide +kernel)
  have hf_7 := hts (.fieldLink RX6 7 "LoopRegionsModel" "edges" "[I") (by decide +kernel)
  have hi_RX6 : ∀ w ∈ wsX60, w ∈ wsX6_set := by decide +kernel
  refine lv_aload_n hx hb dX6_set_0 rfl (lv_at hl 0 rfl) ?_
  refine va_get (D := E.1) (ci := 7) (v := .ref y1) (C := RX6) (T := TX6) (N := 25) hx hb hts hi_RX6 hown hE.1 hP 0 rfl rfl 3 (by decide) hf_7 (fun _ h9 => h9) rfl dX6_set_1 ?_
  refine lv_iload_n hx hb dX6_set_4 rfl (lv_at hl 1 rfl) ?_
  refine lv_iload_n hx hb dX6_set_5 rfl (lv_at hl 2 rfl) ?_
  refine va_iast hx hb hE.1 hP hD hS 1 0 rfl rfl (show vp_in (nI ea) 128 from vp_in_nI (by omega) (by decide)) dX6_set_6 (fun H locs hP hD hS => ?_)
  rw [show (nI ea : Int32).toNatClampNeg = ea from nI_clamp (by omega)] at hP hD
  have hP : va_P E.1 vwCl [(q, .inr (7, [.int th, .int (nI gw), .int (nI gh), .ref y1, .ref y2, .ref y3, .int to, .int (b2i wr), .ref y4, .ref y5, .int (nI (k + 1)), .ref y6, .ref y7, .ref y8, .ref y9, .int (nI mk), .ref y10, .ref y11, .ref y12, .ref y13, .ref y14, .ref y15, .ref y16, .ref y17, .ref y18])), (y1, .inl (E.2 0, 128, .inl (upd ed ea (sv z)))), (y4, .inl (E.2 0, 128, .inl eb)), (y8, .inl (E.2 0, 901, .inl bg)), (y9, .inl (E.2 0, 4000, .inl ch))] H := hP
  have hD : va_D A [(q, .inr (7, [.int th, .int (nI gw), .int (nI gh), .ref y1, .ref y2, .ref y3, .int to, .int (b2i wr), .ref y4, .ref y5, .int (nI (k + 1)), .ref y6, .ref y7, .ref y8, .ref y9, .int (nI mk), .ref y10, .ref y11, .ref y12, .ref y13, .ref y14, .ref y15, .ref y16, .ref y17, .ref y18])), (y1, .inl (E.2 0, 128, .inl (upd ed ea (sv z)))), (y4, .inl (E.2 0, 128, .inl eb)), (y8, .inl (E.2 0, 901, .inl bg)), (y9, .inl (E.2 0, 4000, .inl ch))] := hD
  refine lv_aload_n hx hb dX6_set_7 rfl (lv_at hl 0 rfl) ?_
  refine va_get (D := E.1) (ci := 7) (v := .ref y4) (C := RX6) (T := TX6) (N := 25) hx hb hts hi_RX6 hown hE.1 hP 0 rfl rfl 8 (by decide) hf_23 (fun _ h9 => h9) rfl dX6_set_8 ?_
  refine lv_iload_n hx hb dX6_set_11 rfl (lv_at hl 1 rfl) ?_
  refine lv_aload_n hx hb dX6_set_12 rfl (lv_at hl 0 rfl) ?_
  refine va_get (D := E.1) (ci := 7) (v := .int (nI (k + 1))) (C := RX6) (T := TX6) (N := 25) hx hb hts hi_RX6 hown hE.1 hP 0 rfl rfl 10 (by decide) hf_105 (fun _ h9 => h9) rfl dX6_set_13 ?_
  refine lv_iconst (v := 1) hx hb dX6_set_16 (by decide) ?_
  refine lv_isub hx hb dX6_set_17 ?_
  refine lv_eqi (show ((nI (k + 1)) - 1 : Int32) = nI ((k + 1) - 1) from pk_sub (a := (k + 1)) (b := 1) (by omega)) ?_
  refine lv_eqi (show nI (k + 1 - 1) = nI k from congrArg nI (by omega)) ?_
  refine va_iast hx hb hE.1 hP hD hS 2 0 rfl rfl (show vp_in (nI ea) 128 from vp_in_nI (by omega) (by decide)) dX6_set_18 (fun H locs hP hD hS => ?_)
  rw [show (nI ea : Int32).toNatClampNeg = ea from nI_clamp (by omega)] at hP hD
  have hP : va_P E.1 vwCl [(q, .inr (7, [.int th, .int (nI gw), .int (nI gh), .ref y1, .ref y2, .ref y3, .int to, .int (b2i wr), .ref y4, .ref y5, .int (nI (k + 1)), .ref y6, .ref y7, .ref y8, .ref y9, .int (nI mk), .ref y10, .ref y11, .ref y12, .ref y13, .ref y14, .ref y15, .ref y16, .ref y17, .ref y18])), (y1, .inl (E.2 0, 128, .inl (upd ed ea (sv z)))), (y4, .inl (E.2 0, 128, .inl (upd eb ea (nI k)))), (y8, .inl (E.2 0, 901, .inl bg)), (y9, .inl (E.2 0, 4000, .inl ch))] H := hP
  have hD : va_D A [(q, .inr (7, [.int th, .int (nI gw), .int (nI gh), .ref y1, .ref y2, .ref y3, .int to, .int (b2i wr), .ref y4, .ref y5, .int (nI (k + 1)), .ref y6, .ref y7, .ref y8, .ref y9, .int (nI mk), .ref y10, .ref y11, .ref y12, .ref y13, .ref y14, .ref y15, .ref y16, .ref y17, .ref y18])), (y1, .inl (E.2 0, 128, .inl (upd ed ea (sv z)))), (y4, .inl (E.2 0, 128, .inl (upd eb ea (nI k)))), (y8, .inl (E.2 0, 901, .inl bg)), (y9, .inl (E.2 0, 4000, .inl ch))] := hD
  refine lv_aload_n hx hb dX6_set_19 rfl (lv_at hl 0 rfl) ?_
  refine lv_iload_n hx hb dX6_set_20 rfl (lv_at hl 2 rfl) ?_
  refine lv_iconst (v := 1) hx hb dX6_set_21 (by decide) ?_
  refine W_joinI (J := 36) (rest := [.ref q]) (fun z9 => z9 = chV (nI ea) z) (fun v_1 ev_1 => ?_) (fun K_22 => ?_)
  · skip
    subst ev_1
    refine wrV (As := [.int (chV (nI ea) z)]) (rest := []) (wr := [(y1, .inl (E.2 0, 128, .inl (upd ed ea (sv z)))), (y4, .inl (E.2 0, 128, .inl (upd eb ea (nI k))))]) ⟨hx, hb, hml, hown, hts⟩ hE (cX6_change_ct l E H.size q y1 y2 y3 y4 y5 y6 y7 y8 y9 y10 y11 y12 y13 y14 y15 y16 y17 y18 gw gh th to wr k mk bg ch t (chV (nI ea) z) (by first | assumption | omega | (subst_vars; assumption)) (by first | assumption | omega | (subst_vars; assumption)) (by first | assumption | omega | (subst_vars; assumption))) (cwV 1 hts gX6_set_X6_change rfl rfl rfl (by decide +kernel) ⟨Nat.le_of_ble_eq_true rfl, Nat.le_of_ble_eq_true rfl⟩) hP hD hS hA [0, 3, 4] [1, 2] rfl rfl (by decide) (by decide) (hP.sub (ws' := [(q, .inr (7, [.int th, .int (nI gw), .int (nI gh), .ref y1, .ref y2, .ref y3, .int to, .int (b2i wr), .ref y4, .ref y5, .int (nI (k + 1)), .ref y6, .ref y7, .ref y8, .ref y9, .int (nI mk), .ref y10, .ref y11, .ref y12, .ref y13, .ref y14, .ref y15, .ref y16, .ref y17, .ref y18])), (y8, .inl (E.2 0, 901, .inl bg)), (y9, .inl (E.2 0, 4000, .inl ch))]) [0, 3, 4] rfl) (hD.sub (ws' := [(q, .inr (7, [.int th, .int (nI gw), .int (nI gh), .ref y1, .ref y2, .ref y3, .int to, .int (b2i wr), .ref y4, .ref y5, .int (nI (k + 1)), .ref y6, .ref y7, .ref y8, .ref y9, .int (nI mk), .ref y10, .ref y11, .ref y12, .ref y13, .ref y14, .ref y15, .ref y16, .ref y17, .ref y18])), (y8, .inl (E.2 0, 901, .inl bg)), (y9, .inl (E.2 0, 4000, .inl ch))]) [0, 3, 4] (by decide) rfl) (va_recv hE.1 hP (ci := 7) (q0 := 0) rfl rfl) rfl hl.1 rfl (Nat.le_of_ble_eq_true rfl) dX6_set_36 ⟨Nat.zero_le _, Nat.zero_le _⟩ (fun cs_ H locs h_2 hP hD hS => ?_)
    subst h_2
    have hP : va_P E.1 vwCl [(q, .inr (7, [.int th, .int (nI gw), .int (nI gh), .ref y1, .ref y2, .ref y3, .int to, .int (b2i wr), .ref y4, .ref y5, .int (nI (k + 1)), .ref y6, .ref y7, .ref y8, .ref y9, .int (nI mk), .ref y10, .ref y11, .ref y12, .ref y13, .ref y14, .ref y15, .ref y16, .ref y17, .ref y18])), (y1, .inl (E.2 0, 128, .inl (upd ed ea (sv z)))), (y4, .inl (E.2 0, 128, .inl (upd eb ea (nI k)))), (y8, .inl (E.2 0, 901, .inl (upd bg (k + 1) (nI (t + 1))))), (y9, .inl (E.2 0, 4000, .inl (upd ch t (chV (nI ea) z))))] H := hP.sub [2, 0, 1, 3, 4] rfl
    have hD : va_D A [(q, .inr (7, [.int th, .int (nI gw), .int (nI gh), .ref y1, .ref y2, .ref y3, .int to, .int (b2i wr), .ref y4, .ref y5, .int (nI (k + 1)), .ref y6, .ref y7, .ref y8, .ref y9, .int (nI mk), .ref y10, .ref y11, .ref y12, .ref y13, .ref y14, .ref y15, .ref y16, .ref y17, .ref y18])), (y1, .inl (E.2 0, 128, .inl (upd ed ea (sv z)))), (y4, .inl (E.2 0, 128, .inl (upd eb ea (nI k)))), (y8, .inl (E.2 0, 901, .inl (upd bg (k + 1) (nI (t + 1))))), (y9, .inl (E.2 0, 4000, .inl (upd ch t (chV (nI ea) z))))] := hD.sub [2, 0, 1, 3, 4] (by decide) rfl
    exact W.vret hx hb hr (fun t9 ht9 hW => ⟨⟨rfl, [(q, .inr (7, [.int th, .int (nI gw), .int (nI gh), .ref y1, .ref y2, .ref y3, .int to, .int (b2i wr), .ref y4, .ref y5, .int (nI (k + 1)), .ref y6, .ref y7, .ref y8, .ref y9, .int (nI mk), .ref y10, .ref y11, .ref y12, .ref y13, .ref y14, .ref y15, .ref y16, .ref y17, .ref y18])), (y1, .inl (E.2 0, 128, .inl (upd ed ea (sv z)))), (y4, .inl (E.2 0, 128, .inl (upd eb ea (nI k)))), (y8, .inl (E.2 0, 901, .inl (upd bg (k + 1) (nI (t + 1))))), (y9, .inl (E.2 0, 4000, .inl (upd ch t (chV (nI ea) z))))], rfl, by rw [ht9]; exact hP, hD⟩, hS.F ht9⟩) hS.2.2 dX6_set_39
  · skip
    refine lv_icmp_ne (tgt := 33) hx hb dX6_set_22 (by decide) (fun c_22 => ?_) (fun c_22 => ?_)
    · skip
      refine lv_iconst (v := 2) hx hb dX6_set_33 (by decide) ?_
      refine lv_iload_n hx hb dX6_set_34 rfl (lv_at hl 1 rfl) ?_
      refine lv_imul hx hb dX6_set_35 ?_
      refine lv_eqi (show (2 * (nI ea) : Int32) = nI (2 * ea) from pk_mul 2 ea) ?_
      exact K_22 _ (sv_ch0 c_22)
    · skip
      refine lv_iconst (v := 2) hx hb dX6_set_25 (by decide) ?_
      refine lv_iload_n hx hb dX6_set_26 rfl (lv_at hl 1 rfl) ?_
      refine lv_imul hx hb dX6_set_27 ?_
      refine lv_eqi (show (2 * (nI ea) : Int32) = nI (2 * ea) from pk_mul 2 ea) ?_
      refine lv_iconst (v := 1) hx hb dX6_set_28 (by decide) ?_
      refine lv_iadd hx hb dX6_set_29 ?_
      refine lv_eqi (show ((nI (2 * ea)) + 1 : Int32) = nI ((2 * ea) + 1) from nI_add (2 * ea) 1) ?_
      refine lv_goto (tgt := 36) hx hb dX6_set_30 (by decide) ?_
      exact K_22 _ (sv_ch1 c_22)
set_option maxHeartbeats 4000000 in
set_option maxRecDepth 100000 in
theorem cX6_paint_ct (l : Launch) (E : GE) (sz : Nat) (q : Nat) (y1 : Nat) (y2 : Nat) (y3 : Nat) (y4 : Nat) (y5 : Nat) (y6 : Nat) (y7 : Nat) (y8 : Nat) (y9 : Nat) (y10 : Nat) (y11 : Nat) (y12 : Nat) (y13 : Nat) (y14 : Nat) (y15 : Nat) (y16 : Nat) (y17 : Nat) (y18 : Nat) (gw : Nat) (gh : Nat) (th : Int32) (to : Int32) (wr : Bool) (k : Nat) (mk : Nat) (sh : Nat → Int32) (sb : Nat → Int32) (bg : Nat → Int32) (ch : Nat → Int32) (t : Nat) (ea : Nat) (z : Bool) (hea : ea < 64) (hk : k < 900) (htm : t < 4000) (ht : bg (k + 1) = nI t) : wrM l yX6_paint wsX6_paint ({ frames := 1, cells := 0, slots := 0, locals := 21 }) E sz [.ref q, .int (nI ea), .int (sv z)] [(q, .inr (7, [.int th, .int (nI gw), .int (nI gh), .ref y1, .ref y2, .ref y3, .int to, .int (b2i wr), .ref y4, .ref y5, .int (nI (k + 1)), .ref y6, .ref y7, .ref y8, .ref y9, .int (nI mk), .ref y10, .ref y11, .ref y12, .ref y13, .ref y14, .ref y15, .ref y16, .ref y17, .ref y18])), (y3, .inl (E.2 0, 64, .inl sh)), (y5, .inl (E.2 0, 64, .inl sb)), (y8, .inl (E.2 0, 901, .inl bg)), (y9, .inl (E.2 0, 4000, .inl ch))] none (fun cs' => cs' = [(q, .inr (7, [.int th, .int (nI gw), .int (nI gh), .ref y1, .ref y2, .ref y3, .int to, .int (b2i wr), .ref y4, .ref y5, .int (nI (k + 1)), .ref y6, .ref y7, .ref y8, .ref y9, .int (nI mk), .ref y10, .ref y11, .ref y12, .ref y13, .ref y14, .ref y15, .ref y16, .ref y17, .ref y18])), (y3, .inl (E.2 0, 64, .inl (upd sh ea (sv z)))), (y5, .inl (E.2 0, 64, .inl (upd sb ea (nI k)))), (y8, .inl (E.2 0, 901, .inl (upd bg (k + 1) (nI (t + 1))))), (y9, .inl (E.2 0, 4000, .inl (upd ch t (chV (nI ea) z))))]) 0 0 := by
  refine Met.ofW (cc := cX6_paint) (maxL := 3) (ret := none) (by decide) rfl ?_
  intro p e s m args below meth c s₁ B hml hv
  obtain ⟨rfl, hsz, hE, hP, hD0⟩ := hv
  have hx := B.exec
  have hb := B.bytes
  have hr := B.returns
  have hts := atoms_spec (ws := wsX6_paint) B.pre
  have hown : s.vm.findClass RX6 = some m.cls := findClass_of_methodNamed B.named
  have hlocks := B.notSynchronized
  subst hsz
  have hD := hD0.self (sz := s.heap.size)
  generalize hAe : va_A [(q, .inr (7, [.int th, .int (nI gw), .int (nI gh), .ref y1, .ref y2, .ref y3, .int to, .int (b2i wr), .ref y4, .ref y5, .int (nI (k + 1)), .ref y6, .ref y7, .ref y8, .ref y9, .int (nI mk), .ref y10, .ref y11, .ref y12, .ref y13, .ref y14, .ref y15, .ref y16, .ref y17, .ref y18])), (y3, .inl (E.2 0, 64, .inl sh)), (y5, .inl (E.2 0, 64, .inl sb)), (y8, .inl (E.2 0, 901, .inl bg)), (y9, .inl (E.2 0, 4000, .inl ch))] s.heap.size = A at hD ⊢
  have hA : ∀ q : Nat, s.heap.size ≤ q → A q := fun q h => by rw [← hAe]; exact Or.inr h
  have hS : va_S A s.heap s.heap [] := va_S.rf
  have hP : va_P E.1 vwCl [(q, .inr (7, [.int th, .int (nI gw), .int (nI gh), .ref y1, .ref y2, .ref y3, .int to, .int (b2i wr), .ref y4, .ref y5, .int (nI (k + 1)), .ref y6, .ref y7, .ref y8, .ref y9, .int (nI mk), .ref y10, .ref y11, .ref y12, .ref y13, .ref y14, .ref y15, .ref y16, .ref y17, .ref y18])), (y3, .inl (E.2 0, 64, .inl sh)), (y5, .inl (E.2 0, 64, .inl sb)), (y8, .inl (E.2 0, 901, .inl bg)), (y9, .inl (E.2 0, 4000, .inl ch))] s.heap := hP
  have hl := lv_entry ([.ref q, .int (nI ea), .int (sv z)]) (n := 3) (Nat.le_of_ble_eq_true rfl)
  rw [lg_entry_eq]
  generalize (lg_sl ([.ref q, .int (nI ea), .int (sv z)]) ++ List.replicate (3 - (lg_sl ([.ref q, .int (nI ea), .int (sv z)])).length) Slot.unset).toArray = ls at hl ⊢
  have hl : lv_has ls 3 [(0, .ref q), (1, .int (nI ea)), (2, .int (sv z))] := hl
  have hf_105 := hts (.fieldLink RX6 105 "LoopRegionsModel" "steps" "I") (by decide +kernel)
  have hf_16 := hts (.fieldLink RX6 16 "LoopRegionsModel" "shades" "[I") (by decide +kernel)
  have hf_26 := hts (.fieldLink RX6 26 "LoopRegionsModel" "shadeBy" "[I") (by decide +kernel)
  have hi_RX6 : ∀ w ∈ wsX60, w ∈ wsX6_paint := by decide +kernel
  refine lv_aload_n hx hb dX6_paint_0 rfl (lv_at hl 0 rfl) ?_
  refine va_get (D := E.1) (ci := 7) (v := .ref y3) (C := RX6) (T := TX6) (N := 25) hx hb hts hi_RX6 hown hE.1 hP 0 rfl rfl 5 (by decide) hf_16 (fun _ h9 => h9) rfl dX6_paint_1 ?_
  refine lv_iload_n hx hb dX6_paint_4 rfl (lv_at hl 1 rfl) ?_
  refine lv_iload_n hx hb dX6_paint_5 rfl (lv_at hl 2 rfl) ?_
  refine va_iast hx hb hE.1 hP hD hS 1 0 rfl rfl (show vp_in (nI ea) 64 from vp_in_nI (by omega) (by decide)) dX6_paint_6 (fun H locs hP hD hS => ?_)
  rw [show (nI ea : Int32).toNatClampNeg = ea from nI_clamp (by omega)] at hP hD
  have hP : va_P E.1 vwCl [(q, .inr (7, [.int th, .int (nI gw), .int (nI gh), .ref y1, .ref y2, .ref y3, .int to, .int (b2i wr), .ref y4, .ref y5, .int (nI (k + 1)), .ref y6, .ref y7, .ref y8, .ref y9, .int (nI mk), .ref y10, .ref y11, .ref y12, .ref y13, .ref y14, .ref y15, .ref y16, .ref y17, .ref y18])), (y3, .inl (E.2 0, 64, .inl (upd sh ea (sv z)))), (y5, .inl (E.2 0, 64, .inl sb)), (y8, .inl (E.2 0, 901, .inl bg)), (y9, .inl (E.2 0, 4000, .inl ch))] H := hP
  have hD : va_D A [(q, .inr (7, [.int th, .int (nI gw), .int (nI gh), .ref y1, .ref y2, .ref y3, .int to, .int (b2i wr), .ref y4, .ref y5, .int (nI (k + 1)), .ref y6, .ref y7, .ref y8, .ref y9, .int (nI mk), .ref y10, .ref y11, .ref y12, .ref y13, .ref y14, .ref y15, .ref y16, .ref y17, .ref y18])), (y3, .inl (E.2 0, 64, .inl (upd sh ea (sv z)))), (y5, .inl (E.2 0, 64, .inl sb)), (y8, .inl (E.2 0, 901, .inl bg)), (y9, .inl (E.2 0, 4000, .inl ch))] := hD
  refine lv_aload_n hx hb dX6_paint_7 rfl (lv_at hl 0 rfl) ?_
  refine va_get (D := E.1) (ci := 7) (v := .ref y5) (C := RX6) (T := TX6) (N := 25) hx hb hts hi_RX6 hown hE.1 hP 0 rfl rfl 9 (by decide) hf_26 (fun _ h9 => h9) rfl dX6_paint_8 ?_
  refine lv_iload_n hx hb dX6_paint_11 rfl (lv_at hl 1 rfl) ?_
  refine lv_aload_n hx hb dX6_paint_12 rfl (lv_at hl 0 rfl) ?_
  refine va_get (D := E.1) (ci := 7) (v := .int (nI (k + 1))) (C := RX6) (T := TX6) (N := 25) hx hb hts hi_RX6 hown hE.1 hP 0 rfl rfl 10 (by decide) hf_105 (fun _ h9 => h9) rfl dX6_paint_13 ?_
  refine lv_iconst (v := 1) hx hb dX6_paint_16 (by decide) ?_
  refine lv_isub hx hb dX6_paint_17 ?_
  refine lv_eqi (show ((nI (k + 1)) - 1 : Int32) = nI ((k + 1) - 1) from pk_sub (a := (k + 1)) (b := 1) (by omega)) ?_
  refine lv_eqi (show nI (k + 1 - 1) = nI k from congrArg nI (by omega)) ?_
  refine va_iast hx hb hE.1 hP hD hS 2 0 rfl rfl (show vp_in (nI ea) 64 from vp_in_nI (by omega) (by decide)) dX6_paint_18 (fun H locs hP hD hS => ?_)
  rw [show (nI ea : Int32).toNatClampNeg = ea from nI_clamp (by omega)] at hP hD
  have hP : va_P E.1 vwCl [(q, .inr (7, [.int th, .int (nI gw), .int (nI gh), .ref y1, .ref y2, .ref y3, .int to, .int (b2i wr), .ref y4, .ref y5, .int (nI (k + 1)), .ref y6, .ref y7, .ref y8, .ref y9, .int (nI mk), .ref y10, .ref y11, .ref y12, .ref y13, .ref y14, .ref y15, .ref y16, .ref y17, .ref y18])), (y3, .inl (E.2 0, 64, .inl (upd sh ea (sv z)))), (y5, .inl (E.2 0, 64, .inl (upd sb ea (nI k)))), (y8, .inl (E.2 0, 901, .inl bg)), (y9, .inl (E.2 0, 4000, .inl ch))] H := hP
  have hD : va_D A [(q, .inr (7, [.int th, .int (nI gw), .int (nI gh), .ref y1, .ref y2, .ref y3, .int to, .int (b2i wr), .ref y4, .ref y5, .int (nI (k + 1)), .ref y6, .ref y7, .ref y8, .ref y9, .int (nI mk), .ref y10, .ref y11, .ref y12, .ref y13, .ref y14, .ref y15, .ref y16, .ref y17, .ref y18])), (y3, .inl (E.2 0, 64, .inl (upd sh ea (sv z)))), (y5, .inl (E.2 0, 64, .inl (upd sb ea (nI k)))), (y8, .inl (E.2 0, 901, .inl bg)), (y9, .inl (E.2 0, 4000, .inl ch))] := hD
  refine lv_aload_n hx hb dX6_paint_19 rfl (lv_at hl 0 rfl) ?_
  refine lv_iload_n hx hb dX6_paint_20 rfl (lv_at hl 2 rfl) ?_
  refine lv_iconst (v := 1) hx hb dX6_paint_21 (by decide) ?_
  refine W_joinI (J := 36) (rest := [.ref q]) (fun z9 => z9 = chV (nI ea) z) (fun v_1 ev_1 => ?_) (fun K_22 => ?_)
  · skip
    subst ev_1
    refine wrV (As := [.int (chV (nI ea) z)]) (rest := []) (wr := [(y3, .inl (E.2 0, 64, .inl (upd sh ea (sv z)))), (y5, .inl (E.2 0, 64, .inl (upd sb ea (nI k))))]) ⟨hx, hb, hml, hown, hts⟩ hE (cX6_change_ct l E H.size q y1 y2 y3 y4 y5 y6 y7 y8 y9 y10 y11 y12 y13 y14 y15 y16 y17 y18 gw gh th to wr k mk bg ch t (chV (nI ea) z) (by first | assumption | omega | (subst_vars; assumption)) (by first | assumption | omega | (subst_vars; assumption)) (by first | assumption | omega | (subst_vars; assumption))) (cwV 1 hts gX6_paint_X6_change rfl rfl rfl (by decide +kernel) ⟨Nat.le_of_ble_eq_true rfl, Nat.le_of_ble_eq_true rfl⟩) hP hD hS hA [0, 3, 4] [1, 2] rfl rfl (by decide) (by decide) (hP.sub (ws' := [(q, .inr (7, [.int th, .int (nI gw), .int (nI gh), .ref y1, .ref y2, .ref y3, .int to, .int (b2i wr), .ref y4, .ref y5, .int (nI (k + 1)), .ref y6, .ref y7, .ref y8, .ref y9, .int (nI mk), .ref y10, .ref y11, .ref y12, .ref y13, .ref y14, .ref y15, .ref y16, .ref y17, .ref y18])), (y8, .inl (E.2 0, 901, .inl bg)), (y9, .inl (E.2 0, 4000, .inl ch))]) [0, 3, 4] rfl) (hD.sub (ws' := [(q, .inr (7, [.int th, .int (nI gw), .int (nI gh), .ref y1, .ref y2, .ref y3, .int to, .int (b2i wr), .ref y4, .ref y5, .int (nI (k + 1)), .ref y6, .ref y7, .ref y8, .ref y9, .int (nI mk), .ref y10, .ref y11, .ref y12, .ref y13, .ref y14, .ref y15, .ref y16, .ref y17, .ref y18])), (y8, .inl (E.2 0, 901, .inl bg)), (y9, .inl (E.2 0, 4000, .inl ch))]) [0, 3, 4] (by decide) rfl) (va_recv hE.1 hP (ci := 7) (q0 := 0) rfl rfl) rfl hl.1 rfl (Nat.le_of_ble_eq_true rfl) dX6_paint_36 ⟨Nat.zero_le _, Nat.zero_le _⟩ (fun cs_ H locs h_2 hP hD hS => ?_)
    subst h_2
    have hP : va_P E.1 vwCl [(q, .inr (7, [.int th, .int (nI gw), .int (nI gh), .ref y1, .ref y2, .ref y3, .int to, .int (b2i wr), .ref y4, .ref y5, .int (nI (k + 1)), .ref y6, .ref y7, .ref y8, .ref y9, .int (nI mk), .ref y10, .ref y11, .ref y12, .ref y13, .ref y14, .ref y15, .ref y16, .ref y17, .ref y18])), (y3, .inl (E.2 0, 64, .inl (upd sh ea (sv z)))), (y5, .inl (E.2 0, 64, .inl (upd sb ea (nI k)))), (y8, .inl (E.2 0, 901, .inl (upd bg (k + 1) (nI (t + 1))))), (y9, .inl (E.2 0, 4000, .inl (upd ch t (chV (nI ea) z))))] H := hP.sub [2, 0, 1, 3, 4] rfl
    have hD : va_D A [(q, .inr (7, [.int th, .int (nI gw), .int (nI gh), .ref y1, .ref y2, .ref y3, .int to, .int (b2i wr), .ref y4, .ref y5, .int (nI (k + 1)), .ref y6, .ref y7, .ref y8, .ref y9, .int (nI mk), .ref y10, .ref y11, .ref y12, .ref y13, .ref y14, .ref y15, .ref y16, .ref y17, .ref y18])), (y3, .inl (E.2 0, 64, .inl (upd sh ea (sv z)))), (y5, .inl (E.2 0, 64, .inl (upd sb ea (nI k)))), (y8, .inl (E.2 0, 901, .inl (upd bg (k + 1) (nI (t + 1))))), (y9, .inl (E.2 0, 4000, .inl (upd ch t (chV (nI ea) z))))] := hD.sub [2, 0, 1, 3, 4] (by decide) rfl
    exact W.vret hx hb hr (fun t9 ht9 hW => ⟨⟨rfl, [(q, .inr (7, [.int th, .int (nI gw), .int (nI gh), .ref y1, .ref y2, .ref y3, .int to, .int (b2i wr), .ref y4, .ref y5, .int (nI (k + 1)), .ref y6, .ref y7, .ref y8, .ref y9, .int (nI mk), .ref y10, .ref y11, .ref y12, .ref y13, .ref y14, .ref y15, .ref y16, .ref y17, .ref y18])), (y3, .inl (E.2 0, 64, .inl (upd sh ea (sv z)))), (y5, .inl (E.2 0, 64, .inl (upd sb ea (nI k)))), (y8, .inl (E.2 0, 901, .inl (upd bg (k + 1) (nI (t + 1))))), (y9, .inl (E.2 0, 4000, .inl (upd ch t (chV (nI ea) z))))], rfl, by rw [ht9]; exact hP, hD⟩, hS.F ht9⟩) hS.2.2 dX6_paint_39
  · skip
    refine lv_icmp_ne (tgt := 33) hx hb dX6_paint_22 (by decide) (fun c_22 => ?_) (fun c_22 => ?_)
    · skip
      refine lv_iconst (v := 2) hx hb dX6_paint_33 (by decide) ?_
      refine lv_iload_n hx hb dX6_paint_34 rfl (lv_at hl 1 rfl) ?_
      refine lv_imul hx hb dX6_paint_35 ?_
      refine lv_eqi (show (2 * (nI ea) : Int32) = nI (2 * ea) from pk_mul 2 ea) ?_
      exact K_22 _ (sv_ch0 c_22)
    · skip
      refine lv_iconst (v := 2) hx hb dX6_paint_25 (by decide) ?_
      refine lv_iload_n hx hb dX6_paint_26 rfl (lv_at hl 1 rfl) ?_
      refine lv_imul hx hb dX6_paint_27 ?_
      refine lv_eqi (show (2 * (nI ea) : Int32) = nI (2 * ea) from pk_mul 2 ea) ?_
      refine lv_iconst (v := 1) hx hb dX6_paint_28 (by decide) ?_
      refine lv_iadd hx hb dX6_paint_29 ?_
      refine lv_eqi (show ((nI (2 * ea)) + 1 : Int32) = nI ((2 * ea) + 1) from nI_add (2 * ea) 1) ?_
      refine lv_goto (tgt := 36) hx hb dX6_paint_30 (by decide) ?_
      exact K_22 _ (sv_ch1 c_22)
