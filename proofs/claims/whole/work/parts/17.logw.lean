/-! WRITERS of StepLog: laid by wip/s_logw.py -/
def cStart (ce : Nat → Int32) (k : Nat) : Int32 := if k = 0 then 0 else ce (k - 1)
theorem fStart_nI {n k : Nat} {ce : Nat → Int32} (hn : n < 2 ^ 31) (hk : k ≤ n) : fStart n ce (nI k) = cStart ce k := by
  unfold fStart cStart
  rcases Nat.eq_zero_or_pos k with h | h
  · subst h; simp [nI_0]
  · obtain ⟨j, rfl⟩ : ∃ j, k = j + 1 := ⟨k - 1, by omega⟩
    rw [if_neg (nI_nle h (by omega)), if_neg (nI_nlt hk hn), nI_pred, nI_clamp (by omega), if_neg (by omega)]
    rfl
theorem hasStep_last {n k : Nat} (hn : n < 2 ^ 31) (hk : k < n) : fHasStep (nI (k + 1)) n (nI k) = true := by
  have h1 : ¬ nI k < 0 := nI_pos (by omega)
  have h2 : ¬ nI (k + 1) ≤ nI k := nI_ge (by omega) (by omega)
  have h3 : ¬ nI n ≤ nI k := nI_ge hk hn
  simp [fHasStep, h1, h2, h3]
set_option maxHeartbeats 4000000 in
set_option maxRecDepth 100000 in
theorem cX4_begin_ct (l : Launch) (E : GE) (sz : Nat) (q a1 a2 a3 a4 n mm : Nat) (nu pl ce ch : Nat → Int32) (k t : Nat) (no pc : Int32) (hn : n < 2 ^ 31) (hk : k < n) (ht : cStart ce k = nI t) : wrM l yX4_begin wsX4_begin ({ frames := 1, cells := 0, slots := 0, locals := 21 }) E sz [.ref q, .int no, .int pc] [(q, .inr (5, [.ref a1, .ref a2, .ref a3, .ref a4, .int (nI k)])), (a1, .inl (E.2 0, n, .inl nu)), (a2, .inl (E.2 0, n, .inl pl)), (a3, .inl (E.2 0, n, .inl ce)), (a4, .inl (E.2 0, mm, .inl ch))] none (fun cs' => cs' = [(q, .inr (5, [.ref a1, .ref a2, .ref a3, .ref a4, .int (nI (k + 1))])), (a1, .inl (E.2 0, n, .inl (upd nu k no))), (a2, .inl (E.2 0, n, .inl (upd pl k pc))), (a3, .inl (E.2 0, n, .inl (upd ce k (nI t)))), (a4, .inl (E.2 0, mm, .inl ch))]) 0 0 := by
  refine Met.ofW (cc := cX4_begin) (maxL := 3) (ret := none) (by decide) rfl ?_
  intro p e s m args below meth c s₁ B hml hv
  obtain ⟨rfl, hsz, hE, hP, hD0⟩ := hv
  have hx := B.exec
  have hb := B.bytes
  have hr := B.returns
  have hts := atoms_spec (ws := wsX4_begin) B.pre
  have hown : s.vm.findClass RX4 = some m.cls := findClass_of_methodNamed B.named
  have hlocks := B.notSynchronized
  subst hsz
  have hD := hD0.self (sz := s.heap.size)
  generalize hAe : va_A [(q, .inr (5, [.ref a1, .ref a2, .ref a3, .ref a4, .int (nI k)])), (a1, .inl (E.2 0, n, .inl nu)), (a2, .inl (E.2 0, n, .inl pl)), (a3, .inl (E.2 0, n, .inl ce)), (a4, .inl (E.2 0, mm, .inl ch))] s.heap.size = A at hD ⊢
  have hA : ∀ q : Nat, s.heap.size ≤ q → A q := fun q h => by rw [← hAe]; exact Or.inr h
  have hS : va_S A s.heap s.heap [] := va_S.rf
  have hP : va_P E.1 vwCl [(q, .inr (5, [.ref a1, .ref a2, .ref a3, .ref a4, .int (nI k)])), (a1, .inl (E.2 0, n, .inl nu)), (a2, .inl (E.2 0, n, .inl pl)), (a3, .inl (E.2 0, n, .inl ce)), (a4, .inl (E.2 0, mm, .inl ch))] s.heap := hP
  have hl := lv_entry ([.ref q, .int no, .int pc]) (n := 3) (Nat.le_of_ble_eq_true rfl)
  rw [lg_entry_eq]
  generalize (lg_sl ([.ref q, .int no, .int pc]) ++ List.replicate (3 - (lg_sl ([.ref q, .int no, .int pc])).length) Slot.unset).toArray = ls at hl ⊢
  have hl : lv_has ls 3 [(0, .ref q), (1, .int no), (2, .int pc)] := hl
  have hf_15 := hts (.fieldLink RX4 15 "LoopRegions$StepLog" "places" "[I") (by decide +kernel)
  have hf_18 := hts (.fieldLink RX4 18 "LoopRegions$StepLog" "changeEnds" "[I") (by decide +kernel)
  have hf_24 := hts (.fieldLink RX4 24 "LoopRegions$StepLog" "count" "I") (by decide +kernel)
  have hf_9 := hts (.fieldLink RX4 9 "LoopRegions$StepLog" "numbers" "[I") (by decide +kernel)
  have hi_RX4 : ∀ w ∈ wsX40, w ∈ wsX4_begin := by decide +kernel
  refine lv_aload_n hx hb dX4_begin_0 rfl (lv_at hl 0 rfl) ?_
  refine va_get (D := E.1) (ci := 5) (v := .int (nI k)) (C := RX4) (T := TX4) (N := 5) hx hb hts hi_RX4 hown hE.1 hP 0 rfl rfl 4 (by decide) hf_24 (fun _ h9 => h9) rfl dX4_begin_1 ?_
  refine lv_if_lt (tgt := 19) hx hb dX4_begin_4 (by decide) (fun c_4 => ?_) (fun c_4 => ?_)
  · skip
    exact absurd c_4 (nI_pos (by omega))
  · skip
    refine lv_aload_n hx hb dX4_begin_7 rfl (lv_at hl 0 rfl) ?_
    refine va_get (D := E.1) (ci := 5) (v := .int (nI k)) (C := RX4) (T := TX4) (N := 5) hx hb hts hi_RX4 hown hE.1 hP 0 rfl rfl 4 (by decide) hf_24 (fun _ h9 => h9) rfl dX4_begin_8 ?_
    refine lv_aload_n hx hb dX4_begin_11 rfl (lv_at hl 0 rfl) ?_
    refine va_get (D := E.1) (ci := 5) (v := .ref a1) (C := RX4) (T := TX4) (N := 5) hx hb hts hi_RX4 hown hE.1 hP 0 rfl rfl 0 (by decide) hf_9 (fun _ h9 => h9) rfl dX4_begin_12 ?_
    refine va_alen (v := nI n) hx hb hE.1 hP 1 0 rfl rfl rfl dX4_begin_15 ?_
    refine lv_icmp_lt (tgt := 20) hx hb dX4_begin_16 (by decide) (fun c_16 => ?_) (fun c_16 => ?_)
    · skip
      refine lv_aload_n hx hb dX4_begin_20 rfl (lv_at hl 0 rfl) ?_
      refine va_get (D := E.1) (ci := 5) (v := .ref a1) (C := RX4) (T := TX4) (N := 5) hx hb hts hi_RX4 hown hE.1 hP 0 rfl rfl 0 (by decide) hf_9 (fun _ h9 => h9) rfl dX4_begin_21 ?_
      refine lv_aload_n hx hb dX4_begin_24 rfl (lv_at hl 0 rfl) ?_
      refine va_get (D := E.1) (ci := 5) (v := .int (nI k)) (C := RX4) (T := TX4) (N := 5) hx hb hts hi_RX4 hown hE.1 hP 0 rfl rfl 4 (by decide) hf_24 (fun _ h9 => h9) rfl dX4_begin_25 ?_
      refine lv_iload_n hx hb dX4_begin_28 rfl (lv_at hl 1 rfl) ?_
      refine va_iast hx hb hE.1 hP hD hS 1 0 rfl rfl (show vp_in (nI k) n from vp_in_nI hk hn) dX4_begin_29 (fun H locs hP hD hS => ?_)
      rw [show (nI k : Int32).toNatClampNeg = k from nI_clamp (by omega)] at hP hD
      have hP : va_P E.1 vwCl [(q, .inr (5, [.ref a1, .ref a2, .ref a3, .ref a4, .int (nI k)])), (a1, .inl (E.2 0, n, .inl (upd nu k no))), (a2, .inl (E.2 0, n, .inl pl)), (a3, .inl (E.2 0, n, .inl ce)), (a4, .inl (E.2 0, mm, .inl ch))] H := hP
      have hD : va_D A [(q, .inr (5, [.ref a1, .ref a2, .ref a3, .ref a4, .int (nI k)])), (a1, .inl (E.2 0, n, .inl (upd nu k no))), (a2, .inl (E.2 0, n, .inl pl)), (a3, .inl (E.2 0, n, .inl ce)), (a4, .inl (E.2 0, mm, .inl ch))] := hD
      refine lv_aload_n hx hb dX4_begin_30 rfl (lv_at hl 0 rfl) ?_
      refine va_get (D := E.1) (ci := 5) (v := .ref a2) (C := RX4) (T := TX4) (N := 5) hx hb hts hi_RX4 hown hE.1 hP 0 rfl rfl 1 (by decide) hf_15 (fun _ h9 => h9) rfl dX4_begin_31 ?_
      refine lv_aload_n hx hb dX4_begin_34 rfl (lv_at hl 0 rfl) ?_
      refine va_get (D := E.1) (ci := 5) (v := .int (nI k)) (C := RX4) (T := TX4) (N := 5) hx hb hts hi_RX4 hown hE.1 hP 0 rfl rfl 4 (by decide) hf_24 (fun _ h9 => h9) rfl dX4_begin_35 ?_
      refine lv_iload_n hx hb dX4_begin_38 rfl (lv_at hl 2 rfl) ?_
      refine va_iast hx hb hE.1 hP hD hS 2 0 rfl rfl (show vp_in (nI k) n from vp_in_nI hk hn) dX4_begin_39 (fun H locs hP hD hS => ?_)
      rw [show (nI k : Int32).toNatClampNeg = k from nI_clamp (by omega)] at hP hD
      have hP : va_P E.1 vwCl [(q, .inr (5, [.ref a1, .ref a2, .ref a3, .ref a4, .int (nI k)])), (a1, .inl (E.2 0, n, .inl (upd nu k no))), (a2, .inl (E.2 0, n, .inl (upd pl k pc))), (a3, .inl (E.2 0, n, .inl ce)), (a4, .inl (E.2 0, mm, .inl ch))] H := hP
      have hD : va_D A [(q, .inr (5, [.ref a1, .ref a2, .ref a3, .ref a4, .int (nI k)])), (a1, .inl (E.2 0, n, .inl (upd nu k no))), (a2, .inl (E.2 0, n, .inl (upd pl k pc))), (a3, .inl (E.2 0, n, .inl ce)), (a4, .inl (E.2 0, mm, .inl ch))] := hD
      refine lv_aload_n hx hb dX4_begin_40 rfl (lv_at hl 0 rfl) ?_
      refine va_get (D := E.1) (ci := 5) (v := .ref a3) (C := RX4) (T := TX4) (N := 5) hx hb hts hi_RX4 hown hE.1 hP 0 rfl rfl 2 (by decide) hf_18 (fun _ h9 => h9) rfl dX4_begin_41 ?_
      refine lv_aload_n hx hb dX4_begin_44 rfl (lv_at hl 0 rfl) ?_
      refine va_get (D := E.1) (ci := 5) (v := .int (nI k)) (C := RX4) (T := TX4) (N := 5) hx hb hts hi_RX4 hown hE.1 hP 0 rfl rfl 4 (by decide) hf_24 (fun _ h9 => h9) rfl dX4_begin_45 ?_
      refine lv_aload_n hx hb dX4_begin_48 rfl (lv_at hl 0 rfl) ?_
      refine lv_aload_n hx hb dX4_begin_49 rfl (lv_at hl 0 rfl) ?_
      refine va_get (D := E.1) (ci := 5) (v := .int (nI k)) (C := RX4) (T := TX4) (N := 5) hx hb hts hi_RX4 hown hE.1 hP 0 rfl rfl 4 (by decide) hf_24 (fun _ h9 => h9) rfl dX4_begin_50 ?_
      refine crVi (As := [.int (nI k)]) (rest := [.int (nI k), .ref a3]) ⟨hx, hb, hml, hown, hts⟩ hE (cX4_changeStart_ct l E q a1 a2 a3 a4 n mm (upd nu k no) (upd pl k pc) ce ch (nI k) hn (nI k)) (cwV 1 hts gX4_begin_X4_changeStart rfl rfl rfl (by decide +kernel) ⟨Nat.le_of_ble_eq_true rfl, Nat.le_of_ble_eq_true rfl⟩) (hP.sub (ws' := [(q, .inr (5, [.ref a1, .ref a2, .ref a3, .ref a4, .int (nI k)])), (a1, .inl (E.2 0, n, .inl (upd nu k no))), (a2, .inl (E.2 0, n, .inl (upd pl k pc))), (a3, .inl (E.2 0, n, .inl ce)), (a4, .inl (E.2 0, mm, .inl ch))]) [0, 1, 2, 3, 4] rfl) (va_recv hE.1 hP (ci := 5) (q0 := 0) rfl rfl) rfl hl.1 rfl (Nat.le_of_ble_eq_true rfl) dX4_begin_53 ⟨Nat.zero_le _, Nat.zero_le _⟩ ?_
      rw [fStart_nI hn (by omega)]
      refine va_iast hx hb hE.1 hP hD hS 3 0 rfl rfl (show vp_in (nI k) n from vp_in_nI hk hn) dX4_begin_56 (fun H locs hP hD hS => ?_)
      rw [show (nI k : Int32).toNatClampNeg = k from nI_clamp (by omega)] at hP hD
      have hP : va_P E.1 vwCl [(q, .inr (5, [.ref a1, .ref a2, .ref a3, .ref a4, .int (nI k)])), (a1, .inl (E.2 0, n, .inl (upd nu k no))), (a2, .inl (E.2 0, n, .inl (upd pl k pc))), (a3, .inl (E.2 0, n, .inl (upd ce k (cStart ce k)))), (a4, .inl (E.2 0, mm, .inl ch))] H := hP
      have hD : va_D A [(q, .inr (5, [.ref a1, .ref a2, .ref a3, .ref a4, .int (nI k)])), (a1, .inl (E.2 0, n, .inl (upd nu k no))), (a2, .inl (E.2 0, n, .inl (upd pl k pc))), (a3, .inl (E.2 0, n, .inl (upd ce k (cStart ce k)))), (a4, .inl (E.2 0, mm, .inl ch))] := hD
      refine lv_aload_n hx hb dX4_begin_57 rfl (lv_at hl 0 rfl) ?_
      refine lv_dup hx hb dX4_begin_58 rfl ?_
      refine va_get (D := E.1) (ci := 5) (v := .int (nI k)) (C := RX4) (T := TX4) (N := 5) hx hb hts hi_RX4 hown hE.1 hP 0 rfl rfl 4 (by decide) hf_24 (fun _ h9 => h9) rfl dX4_begin_59 ?_
      refine lv_iconst (v := 1) hx hb dX4_begin_62 (by decide) ?_
      refine lv_iadd hx hb dX4_begin_63 ?_
      refine lv_topi (fun x_1 ex_1 => ?_)
      refine va_put (D := E.1) (ci := 5) (v := .int x_1) (ty := .int) (C := RX4) (T := TX4) (N := 5) hx hb hts hi_RX4 tyX4 tyX4_ok nmX4 hown hE.1 hP hD hS 0 rfl rfl 4 (by decide) hf_24 (fun _ h9 => h9) rfl (by decide +kernel) (rfl) (rfl) (Nat.le_of_ble_eq_true rfl) dX4_begin_64 (fun H locs hP hD hS => ?_)
      have hP : va_P E.1 vwCl [(q, .inr (5, [.ref a1, .ref a2, .ref a3, .ref a4, .int x_1])), (a1, .inl (E.2 0, n, .inl (upd nu k no))), (a2, .inl (E.2 0, n, .inl (upd pl k pc))), (a3, .inl (E.2 0, n, .inl (upd ce k (cStart ce k)))), (a4, .inl (E.2 0, mm, .inl ch))] H := hP
      have hD : va_D A [(q, .inr (5, [.ref a1, .ref a2, .ref a3, .ref a4, .int x_1])), (a1, .inl (E.2 0, n, .inl (upd nu k no))), (a2, .inl (E.2 0, n, .inl (upd pl k pc))), (a3, .inl (E.2 0, n, .inl (upd ce k (cStart ce k)))), (a4, .inl (E.2 0, mm, .inl ch))] := hD
      exact W.vret hx hb hr (fun t9 ht9 hW => ⟨⟨rfl, [(q, .inr (5, [.ref a1, .ref a2, .ref a3, .ref a4, .int x_1])), (a1, .inl (E.2 0, n, .inl (upd nu k no))), (a2, .inl (E.2 0, n, .inl (upd pl k pc))), (a3, .inl (E.2 0, n, .inl (upd ce k (cStart ce k)))), (a4, .inl (E.2 0, mm, .inl ch))], by rw [ex_1, nI_1, ht], by rw [ht9]; exact hP, hD⟩, hS.F ht9⟩) hS.2.2 dX4_begin_67
    · skip
      exact absurd (nI_lt hk hn) c_16
set_option maxHeartbeats 4000000 in
set_option maxRecDepth 100000 in
theorem cX4_addChange_ct (l : Launch) (E : GE) (sz : Nat) (q a1 a2 a3 a4 n mm : Nat) (nu pl ce ch : Nat → Int32) (k t : Nat) (th : Int32) (z : Bool) (hn : n < 2 ^ 31) (hm : mm < 2 ^ 31) (hk : k < n) (htm : t < mm) (ht : ce k = nI t) : wrM l yX4_addChange wsX4_addChange ({ frames := 1, cells := 0, slots := 0, locals := 21 }) E sz [.ref q, .int th, .int (b2i z)] [(q, .inr (5, [.ref a1, .ref a2, .ref a3, .ref a4, .int (nI (k + 1))])), (a1, .inl (E.2 0, n, .inl nu)), (a2, .inl (E.2 0, n, .inl pl)), (a3, .inl (E.2 0, n, .inl ce)), (a4, .inl (E.2 0, mm, .inl ch))] none (fun cs' => cs' = [(q, .inr (5, [.ref a1, .ref a2, .ref a3, .ref a4, .int (nI (k + 1))])), (a1, .inl (E.2 0, n, .inl nu)), (a2, .inl (E.2 0, n, .inl pl)), (a3, .inl (E.2 0, n, .inl (upd ce k (nI (t + 1))))), (a4, .inl (E.2 0, mm, .inl (upd ch t (2 * th + b2i z))))]) 0 0 := by
  refine Met.ofW (cc := cX4_addChange) (maxL := 5) (ret := none) (by decide) rfl ?_
  intro p e s m args below meth c s₁ B hml hv
  obtain ⟨rfl, hsz, hE, hP, hD0⟩ := hv
  have hx := B.exec
  have hb := B.bytes
  have hr := B.returns
  have hts := atoms_spec (ws := wsX4_addChange) B.pre
  have hown : s.vm.findClass RX4 = some m.cls := findClass_of_methodNamed B.named
  have hlocks := B.notSynchronized
  subst hsz
  have hD := hD0.self (sz := s.heap.size)
  generalize hAe : va_A [(q, .inr (5, [.ref a1, .ref a2, .ref a3, .ref a4, .int (nI (k + 1))])), (a1, .inl (E.2 0, n, .inl nu)), (a2, .inl (E.2 0, n, .inl pl)), (a3, .inl (E.2 0, n, .inl ce)), (a4, .inl (E.2 0, mm, .inl ch))] s.heap.size = A at hD ⊢
  have hA : ∀ q : Nat, s.heap.size ≤ q → A q := fun q h => by rw [← hAe]; exact Or.inr h
  have hS : va_S A s.heap s.heap [] := va_S.rf
  have hP : va_P E.1 vwCl [(q, .inr (5, [.ref a1, .ref a2, .ref a3, .ref a4, .int (nI (k + 1))])), (a1, .inl (E.2 0, n, .inl nu)), (a2, .inl (E.2 0, n, .inl pl)), (a3, .inl (E.2 0, n, .inl ce)), (a4, .inl (E.2 0, mm, .inl ch))] s.heap := hP
  have hl := lv_entry ([.ref q, .int th, .int (b2i z)]) (n := 5) (Nat.le_of_ble_eq_true rfl)
  rw [lg_entry_eq]
  generalize (lg_sl ([.ref q, .int th, .int (b2i z)]) ++ List.replicate (5 - (lg_sl ([.ref q, .int th, .int (b2i z)])).length) Slot.unset).toArray = ls at hl ⊢
  have hl : lv_has ls 5 [(0, .ref q), (1, .int th), (2, .int (b2i z))] := hl
  have hf_18 := hts (.fieldLink RX4 18 "LoopRegions$StepLog" "changeEnds" "[I") (by decide +kernel)
  have hf_21 := hts (.fieldLink RX4 21 "LoopRegions$StepLog" "changes" "[I") (by decide +kernel)
  have hf_24 := hts (.fieldLink RX4 24 "LoopRegions$StepLog" "count" "I") (by decide +kernel)
  have hi_RX4 : ∀ w ∈ wsX40, w ∈ wsX4_addChange := by decide +kernel
  refine lv_aload_n hx hb dX4_addChange_0 rfl (lv_at hl 0 rfl) ?_
  refine va_get (D := E.1) (ci := 5) (v := .int (nI (k + 1))) (C := RX4) (T := TX4) (N := 5) hx hb hts hi_RX4 hown hE.1 hP 0 rfl rfl 4 (by decide) hf_24 (fun _ h9 => h9) rfl dX4_addChange_1 ?_
  refine lv_iconst (v := 1) hx hb dX4_addChange_4 (by decide) ?_
  refine lv_isub hx hb dX4_addChange_5 ?_
  refine lv_topi (fun x_1 ex_1 => ?_)
  refine lv_istore_n (lv' := [(3, .int x_1), (0, .ref q), (1, .int th), (2, .int (b2i z))]) hx hb dX4_addChange_6 rfl hl (by decide) rfl (fun ls hl => ?_)
  obtain rfl : x_1 = nI k := by rw [ex_1]; exact nI_pred k
  refine lv_aload_n hx hb dX4_addChange_7 rfl (lv_at hl 1 rfl) ?_
  refine lv_iload_n hx hb dX4_addChange_8 rfl (lv_at hl 0 rfl) ?_
  refine crVi (As := [.int (nI k)]) (rest := []) ⟨hx, hb, hml, hown, hts⟩ hE (cX4_hasStep_ct l E q a1 a2 a3 a4 n mm nu pl ce ch (nI (k + 1)) hn (nI k)) (cwV 1 hts gX4_addChange_X4_hasStep rfl rfl rfl (by decide +kernel) ⟨Nat.le_of_ble_eq_true rfl, Nat.le_of_ble_eq_true rfl⟩) (hP.sub (ws' := [(q, .inr (5, [.ref a1, .ref a2, .ref a3, .ref a4, .int (nI (k + 1))])), (a1, .inl (E.2 0, n, .inl nu)), (a2, .inl (E.2 0, n, .inl pl)), (a3, .inl (E.2 0, n, .inl ce)), (a4, .inl (E.2 0, mm, .inl ch))]) [0, 1, 2, 3, 4] rfl) (va_recv hE.1 hP (ci := 5) (q0 := 0) rfl rfl) rfl hl.1 rfl (Nat.le_of_ble_eq_true rfl) dX4_addChange_9 ⟨Nat.zero_le _, Nat.zero_le _⟩ ?_
  have hs : ¬ b2i (fHasStep (nI (k + 1)) n (nI k)) = 0 := by rw [b2i_eq0, hasStep_last hn hk]; decide
  refine lv_if_ne (tgt := 16) hx hb dX4_addChange_12 (by decide) (fun c_12 => ?_) (fun c_12 => ?_)
  · skip
    refine lv_aload_n hx hb dX4_addChange_16 rfl (lv_at hl 1 rfl) ?_
    refine va_get (D := E.1) (ci := 5) (v := .ref a3) (C := RX4) (T := TX4) (N := 5) hx hb hts hi_RX4 hown hE.1 hP 0 rfl rfl 2 (by decide) hf_18 (fun _ h9 => h9) rfl dX4_addChange_17 ?_
    refine lv_iload_n hx hb dX4_addChange_20 rfl (lv_at hl 0 rfl) ?_
    refine va_iald hx hb hE.1 hP 3 0 rfl rfl (show vp_in (nI k) n from vp_in_nI hk hn) dX4_addChange_21 ?_
    rw [show (nI k : Int32).toNatClampNeg = k from nI_clamp (by omega)]
    refine lv_topi (fun x_2 ex_2 => ?_)
    refine lv_istore (lv' := [(4, .int x_2), (3, .int (nI k)), (0, .ref q), (1, .int th), (2, .int (b2i z))]) hx hb dX4_addChange_22 hl (by decide) rfl (fun ls hl => ?_)
    obtain rfl : x_2 = nI t := by rw [ex_2, ht]
    refine lv_iload hx hb dX4_addChange_24 (lv_at hl 0 rfl) ?_
    refine lv_if_lt (tgt := 39) hx hb dX4_addChange_26 (by decide) (fun c_26 => ?_) (fun c_26 => ?_)
    · skip
      exact absurd c_26 (nI_pos (by omega))
    · skip
      refine lv_iload hx hb dX4_addChange_29 (lv_at hl 0 rfl) ?_
      refine lv_aload_n hx hb dX4_addChange_31 rfl (lv_at hl 2 rfl) ?_
      refine va_get (D := E.1) (ci := 5) (v := .ref a4) (C := RX4) (T := TX4) (N := 5) hx hb hts hi_RX4 hown hE.1 hP 0 rfl rfl 3 (by decide) hf_21 (fun _ h9 => h9) rfl dX4_addChange_32 ?_
      refine va_alen (v := nI mm) hx hb hE.1 hP 4 0 rfl rfl rfl dX4_addChange_35 ?_
      refine lv_icmp_lt (tgt := 40) hx hb dX4_addChange_36 (by decide) (fun c_36 => ?_) (fun c_36 => ?_)
      · skip
        refine lv_aload_n hx hb dX4_addChange_40 rfl (lv_at hl 2 rfl) ?_
        refine va_get (D := E.1) (ci := 5) (v := .ref a4) (C := RX4) (T := TX4) (N := 5) hx hb hts hi_RX4 hown hE.1 hP 0 rfl rfl 3 (by decide) hf_21 (fun _ h9 => h9) rfl dX4_addChange_41 ?_
        refine lv_iload hx hb dX4_addChange_44 (lv_at hl 0 rfl) ?_
        refine lv_iconst (v := 2) hx hb dX4_addChange_46 (by decide) ?_
        refine lv_iload_n hx hb dX4_addChange_47 rfl (lv_at hl 3 rfl) ?_
        refine lv_imul hx hb dX4_addChange_48 ?_
        refine lv_iload_n hx hb dX4_addChange_49 rfl (lv_at hl 4 rfl) ?_
        refine W_joinI (J := 58) (rest := [.int (2 * th), .int (nI t), .ref a4]) (fun z9 => z9 = b2i z) (fun v_3 ev_3 => ?_) (fun K_50 => ?_)
        · skip
          refine lv_iadd hx hb dX4_addChange_58 ?_
          refine va_iast hx hb hE.1 hP hD hS 4 0 rfl rfl (show vp_in (nI t) mm from vp_in_nI htm hm) dX4_addChange_59 (fun H locs hP hD hS => ?_)
          rw [show (nI t : Int32).toNatClampNeg = t from nI_clamp (by omega)] at hP hD
          have hP : va_P E.1 vwCl [(q, .inr (5, [.ref a1, .ref a2, .ref a3, .ref a4, .int (nI (k + 1))])), (a1, .inl (E.2 0, n, .inl nu)), (a2, .inl (E.2 0, n, .inl pl)), (a3, .inl (E.2 0, n, .inl ce)), (a4, .inl (E.2 0, mm, .inl (upd ch t ((2 * th) + v_3))))] H := hP
          have hD : va_D A [(q, .inr (5, [.ref a1, .ref a2, .ref a3, .ref a4, .int (nI (k + 1))])), (a1, .inl (E.2 0, n, .inl nu)), (a2, .inl (E.2 0, n, .inl pl)), (a3, .inl (E.2 0, n, .inl ce)), (a4, .inl (E.2 0, mm, .inl (upd ch t ((2 * th) + v_3))))] := hD
          refine lv_aload_n hx hb dX4_addChange_60 rfl (lv_at hl 2 rfl) ?_
          refine va_get (D := E.1) (ci := 5) (v := .ref a3) (C := RX4) (T := TX4) (N := 5) hx hb hts hi_RX4 hown hE.1 hP 0 rfl rfl 2 (by decide) hf_18 (fun _ h9 => h9) rfl dX4_addChange_61 ?_
          refine lv_iload_n hx hb dX4_addChange_64 rfl (lv_at hl 1 rfl) ?_
          refine lv_iload hx hb dX4_addChange_65 (lv_at hl 0 rfl) ?_
          refine lv_iconst (v := 1) hx hb dX4_addChange_67 (by decide) ?_
          refine lv_iadd hx hb dX4_addChange_68 ?_
          refine va_iast hx hb hE.1 hP hD hS 3 0 rfl rfl (show vp_in (nI k) n from vp_in_nI hk hn) dX4_addChange_69 (fun H locs hP hD hS => ?_)
          rw [show (nI k : Int32).toNatClampNeg = k from nI_clamp (by omega)] at hP hD
          have hP : va_P E.1 vwCl [(q, .inr (5, [.ref a1, .ref a2, .ref a3, .ref a4, .int (nI (k + 1))])), (a1, .inl (E.2 0, n, .inl nu)), (a2, .inl (E.2 0, n, .inl pl)), (a3, .inl (E.2 0, n, .inl (upd ce k ((nI t) + 1)))), (a4, .inl (E.2 0, mm, .inl (upd ch t ((2 * th) + v_3))))] H := hP
          have hD : va_D A [(q, .inr (5, [.ref a1, .ref a2, .ref a3, .ref a4, .int (nI (k + 1))])), (a1, .inl (E.2 0, n, .inl nu)), (a2, .inl (E.2 0, n, .inl pl)), (a3, .inl (E.2 0, n, .inl (upd ce k ((nI t) + 1)))), (a4, .inl (E.2 0, mm, .inl (upd ch t ((2 * th) + v_3))))] := hD
          exact W.vret hx hb hr (fun t9 ht9 hW => ⟨⟨rfl, [(q, .inr (5, [.ref a1, .ref a2, .ref a3, .ref a4, .int (nI (k + 1))])), (a1, .inl (E.2 0, n, .inl nu)), (a2, .inl (E.2 0, n, .inl pl)), (a3, .inl (E.2 0, n, .inl (upd ce k ((nI t) + 1)))), (a4, .inl (E.2 0, mm, .inl (upd ch t ((2 * th) + v_3))))], by rw [ev_3, nI_1], by rw [ht9]; exact hP, hD⟩, hS.F ht9⟩) hS.2.2 dX4_addChange_70
        · skip
          refine lv_if_eq (tgt := 57) hx hb dX4_addChange_50 (by decide) (fun c_50 => ?_) (fun c_50 => ?_)
          · skip
            refine lv_iconst (v := 0) hx hb dX4_addChange_57 (by decide) ?_
            exact K_50 _ (by rw [b2i_eq0] at c_50; simp [b2i, c_50])
          · skip
            refine lv_iconst (v := 1) hx hb dX4_addChange_53 (by decide) ?_
            refine lv_goto (tgt := 58) hx hb dX4_addChange_54 (by decide) ?_
            exact K_50 _ (by rw [b2i_eq0] at c_50; simp [b2i, c_50])
      · skip
        exact absurd (nI_lt htm hm) c_36
  · skip
    exact absurd c_12 hs
