def rRaw (gw ca da : Nat) : Int32 := if da = 0 then 2 * (nI ca - nI gw) + 1 else if da = 1 then nI (2 * ca) else if da = 2 then nI (2 * ca + 1) else if ca % gw ≤ 0 then -1 else nI (2 * (ca - 1))
def rEOf (gw gh ca da : Nat) : Int32 := if rIsE gw gh (rRaw gw ca da) then rRaw gw ca da else -1
theorem rEOf_some {gw gh ca da : Nat} (hca : ca < 64) (hg : gw ≤ 8) (hh : gh ≤ 8) (h : ¬ rEOf gw gh ca da < 0) : ∃ e, e < 128 ∧ rEOf gw gh ca da = nI e ∧ isEn gw gh e = true := by
  unfold rEOf at h ⊢
  by_cases h1 : rIsE gw gh (rRaw gw ca da) = true
  · rw [if_pos h1] at h ⊢
    obtain ⟨e, he, hq⟩ := nI_of h
    rw [hq, rIsE_nI he] at h1
    refine ⟨e, ?_, hq, h1⟩
    have hN : gw * gh ≤ 64 := Nat.mul_le_mul hg hh
    simp only [isEn, Bool.and_eq_true, decide_eq_true_eq] at h1
    omega
  · rw [if_neg h1] at h
    exact absurd (by decide) h
/-- whether the edge in direction d of cell c is v: 1 or 0 -/
def cn1 (gw gh : Nat) (ed : Nat → Int32) (ca : Nat) (v : Int32) (da : Nat) : Nat := if rEOf gw gh ca da < 0 then 0 else if ed (rEOf gw gh ca da).toNatClampNeg = v then 1 else 0
def cntR (gw gh : Nat) (ed : Nat → Int32) (ca : Nat) (v : Int32) : Nat → Nat
  | 0 => 0
  | k + 1 => cn1 gw gh ed ca v (4 - (k + 1)) + cntR gw gh ed ca v k
def cnt (gw gh : Nat) (ed : Nat → Int32) (ca : Nat) (v : Int32) : Nat := cntR gw gh ed ca v 4
theorem cn1_le (gw gh : Nat) (ed : Nat → Int32) (ca : Nat) (v : Int32) (da : Nat) : cn1 gw gh ed ca v da ≤ 1 := by
  unfold cn1; split
  · omega
  · split <;> omega
theorem cntR_le (gw gh : Nat) (ed : Nat → Int32) (ca : Nat) (v : Int32) (k : Nat) : cntR gw gh ed ca v k ≤ k := by
  induction k with
  | zero => exact Nat.le_refl _
  | succ k ih => have := cn1_le gw gh ed ca v (4 - (k + 1)); rw [cntR]; omega
def rNeed (gw gh : Nat) (ed du : Nat → Int32) (ca : Nat) : Bool := decide (du ca = 1) || decide (¬ cnt gw gh ed ca 1 ≤ 0)
set_option maxHeartbeats 4000000 in
set_option maxRecDepth 100000 in
theorem cX6_edgeOf_ct (l : Launch) (E : GE) (q : Nat) (y1 : Nat) (y2 : Nat) (y3 : Nat) (y4 : Nat) (y5 : Nat) (y6 : Nat) (y7 : Nat) (y8 : Nat) (y9 : Nat) (y10 : Nat) (y11 : Nat) (y12 : Nat) (y13 : Nat) (y14 : Nat) (y15 : Nat) (y16 : Nat) (y17 : Nat) (y18 : Nat) (gw : Nat) (gh : Nat) (th : Int32) (to : Int32) (wr : Bool) (k : Nat) (mk : Nat) (ca da : Nat) (hca : ca < 64) (hda : da < 2 ^ 31) (hg1 : 1 ≤ gw) (hh1 : 1 ≤ gh) (hg8 : gw ≤ 8) (hh8 : gh ≤ 8) : rdI l yX6_edgeOf wsX6_edgeOf ({ frames := 2, cells := 0, slots := 0, locals := 41 }) E [.ref q, .int (nI ca), .int (nI da)] [(q, .inr (7, [.int th, .int (nI gw), .int (nI gh), .ref y1, .ref y2, .ref y3, .int to, .int (b2i wr), .ref y4, .ref y5, .int (nI k), .ref y6, .ref y7, .ref y8, .ref y9, .int (nI mk), .ref y10, .ref y11, .ref y12, .ref y13, .ref y14, .ref y15, .ref y16, .ref y17, .ref y18]))] (rEOf gw gh ca da) := by
  refine Met.ofW (cc := cX6_edgeOf) (maxL := 4) (ret := (some .int)) (by decide) rfl ?_
  intro p e s m args below meth c s₁ B hml hv
  obtain ⟨rfl, hE, hP⟩ := hv
  have hx := B.exec
  have hb := B.bytes
  have hr := B.returns
  have hts := atoms_spec (ws := wsX6_edgeOf) B.pre
  have hown : s.vm.findClass RX6 = some m.cls := findClass_of_methodNamed B.named
  have hlocks := B.notSynchronized
  have hP : va_P E.1 vwCl [(q, .inr (7, [.int th, .int (nI gw), .int (nI gh), .ref y1, .ref y2, .ref y3, .int to, .int (b2i wr), .ref y4, .ref y5, .int (nI k), .ref y6, .ref y7, .ref y8, .ref y9, .int (nI mk), .ref y10, .ref y11, .ref y12, .ref y13, .ref y14, .ref y15, .ref y16, .ref y17, .ref y18]))] s.heap := hP
  have hl := lv_entry ([.ref q, .int (nI ca), .int (nI da)]) (n := 4) (Nat.le_of_ble_eq_true rfl)
  rw [lg_entry_eq]
  generalize (lg_sl ([.ref q, .int (nI ca), .int (nI da)]) ++ List.replicate (4 - (lg_sl ([.ref q, .int (nI ca), .int (nI da)])).length) Slot.unset).toArray = ls at hl ⊢
  have hl : lv_has ls 4 [(0, .ref q), (1, .int (nI ca)), (2, .int (nI da))] := hl
  have hf_69 := hts (.fieldLink RX6 69 "LoopRegionsModel" "width" "I") (by decide +kernel)
  have hi_RX6 : ∀ w ∈ wsX60, w ∈ wsX6_edgeOf := by decide +kernel
  have hN : gw * gh ≤ 64 := Nat.mul_le_mul hg8 hh8
  have hN1 : 1 ≤ gw * gh := Nat.mul_le_mul hg1 hh1
  refine lv_iload_n hx hb dX6_edgeOf_0 rfl (lv_at hl 2 rfl) ?_
  refine W_joinI (J := 59) (rest := []) (fun z9 => z9 = rRaw gw ca da) (fun v_1 ev_1 => ?_) (fun K_1 => ?_)
  · skip
    refine lv_istore_n (lv' := [(3, .int v_1), (0, .ref q), (1, .int (nI ca)), (2, .int (nI da))]) hx hb dX6_edgeOf_59 rfl hl (by decide) rfl (fun ls hl => ?_)
    refine lv_aload_n hx hb dX6_edgeOf_60 rfl (lv_at hl 1 rfl) ?_
    refine lv_iload_n hx hb dX6_edgeOf_61 rfl (lv_at hl 0 rfl) ?_
    refine crVi (As := [.int v_1]) (rest := []) ⟨hx, hb, hml, hown, hts⟩ hE (cX6_isEdge_ct l E q y1 y2 y3 y4 y5 y6 y7 y8 y9 y10 y11 y12 y13 y14 y15 y16 y17 y18 gw gh th to wr k mk v_1 (by first | assumption | omega | (subst_vars; assumption)) (by first | assumption | omega | (subst_vars; assumption)) (by first | assumption | omega | (subst_vars; assumption)) (by first | assumption | omega | (subst_vars; assumption))) (cwV 1 hts gX6_edgeOf_X6_isEdge rfl rfl rfl (by decide +kernel) ⟨Nat.le_of_ble_eq_true rfl, Nat.le_of_ble_eq_true rfl⟩) (hP.sub (ws' := [(q, .inr (7, [.int th, .int (nI gw), .int (nI gh), .ref y1, .ref y2, .ref y3, .int to, .int (b2i wr), .ref y4, .ref y5, .int (nI k), .ref y6, .ref y7, .ref y8, .ref y9, .int (nI mk), .ref y10, .ref y11, .ref y12, .ref y13, .ref y14, .ref y15, .ref y16, .ref y17, .ref y18]))]) [0] rfl) (va_recv hE.1 hP (ci := 7) (q0 := 0) rfl rfl) rfl hl.1 rfl (Nat.le_of_ble_eq_true rfl) dX6_edgeOf_62 ⟨Nat.zero_le _, Nat.zero_le _⟩ ?_
    refine lv_if_eq (tgt := 72) hx hb dX6_edgeOf_65 (by decide) (fun c_65 => ?_) (fun c_65 => ?_)
    · skip
      refine lv_iconst (v := (-1)) hx hb dX6_edgeOf_72 (by decide) ?_
      exact W.iret (v := (-1)) hx hb hr (fun t9 ht9 _ => ⟨(-1), rfl, by rw [b2i_eq0] at c_65; simp [rEOf, ← ev_1, c_65], ht9⟩) (fun q h => absurd h List.not_mem_nil) dX6_edgeOf_73
    · skip
      refine lv_iload_n hx hb dX6_edgeOf_68 rfl (lv_at hl 0 rfl) ?_
      refine lv_goto (tgt := 73) hx hb dX6_edgeOf_69 (by decide) ?_
      exact W.iret (v := v_1) hx hb hr (fun t9 ht9 _ => ⟨v_1, rfl, by rw [b2i_eq0] at c_65; simp [rEOf, ← ev_1, c_65], ht9⟩) (fun q h => absurd h List.not_mem_nil) dX6_edgeOf_73
  · skip
    refine lv_if_ne (tgt := 17) hx hb dX6_edgeOf_1 (by decide) (fun c_1 => ?_) (fun c_1 => ?_)
    · skip
      have m_1 : ¬ da = 0 := fun q => c_1 ((nI_eq (a := da) (b := 0) (by omega) (by omega)).mpr q)
      refine lv_iload_n hx hb dX6_edgeOf_17 rfl (lv_at hl 2 rfl) ?_
      refine lv_iconst (v := 1) hx hb dX6_edgeOf_18 (by decide) ?_
      refine lv_icmp_ne (tgt := 28) hx hb dX6_edgeOf_19 (by decide) (fun c_19 => ?_) (fun c_19 => ?_)
      · skip
        have m_19 : ¬ da = 1 := fun q => c_19 ((nI_eq (a := da) (b := 1) (by omega) (by omega)).mpr q)
        refine lv_iload_n hx hb dX6_edgeOf_28 rfl (lv_at hl 2 rfl) ?_
        refine lv_iconst (v := 2) hx hb dX6_edgeOf_29 (by decide) ?_
        refine lv_icmp_ne (tgt := 41) hx hb dX6_edgeOf_30 (by decide) (fun c_30 => ?_) (fun c_30 => ?_)
        · skip
          have m_30 : ¬ da = 2 := fun q => c_30 ((nI_eq (a := da) (b := 2) (by omega) (by omega)).mpr q)
          refine lv_iload_n hx hb dX6_edgeOf_41 rfl (lv_at hl 1 rfl) ?_
          refine lv_aload_n hx hb dX6_edgeOf_42 rfl (lv_at hl 0 rfl) ?_
          refine va_get (D := E.1) (ci := 7) (v := .int (nI gw)) (C := RX6) (T := TX6) (N := 25) hx hb hts hi_RX6 hown hE.1 hP 0 rfl rfl 1 (by decide) hf_69 (fun _ h9 => h9) rfl dX6_edgeOf_43 ?_
          refine lv_irem hx hb dX6_edgeOf_46 (nI_ne0 (by omega) (by omega)) ?_
          refine lv_eqi (show ((nI ca) - (nI ca) / (nI gw) * (nI gw) : Int32) = nI (ca % gw) from pk_rem (a := ca) (d := gw) (by omega) (by omega) (by omega)) ?_
          have hq_46 : ca % gw ≤ ca := Nat.mod_le _ _
          refine lv_if_le (tgt := 58) hx hb dX6_edgeOf_47 (by decide) (fun c_47 => ?_) (fun c_47 => ?_)
          · skip
            have m_47 : (ca % gw) ≤ 0 := (nI_leI (a := (ca % gw)) (b := 0) (by omega) (by omega)).mp c_47
            have k_47 : ¬ 0 < (ca % gw) := Nat.not_lt.mpr m_47
            refine lv_iconst (v := (-1)) hx hb dX6_edgeOf_58 (by decide) ?_
            exact K_1 _ (by simp [rRaw, m_1, m_19, m_30, m_47])
          · skip
            have m_47 : ¬ (ca % gw) ≤ 0 := fun q => c_47 ((nI_leI (a := (ca % gw)) (b := 0) (by omega) (by omega)).mpr q)
            have k_47 : 0 < (ca % gw) := Nat.lt_of_not_le m_47
            have hc1 : 1 ≤ ca := Nat.pos_of_ne_zero (fun h => by rw [h, Nat.zero_mod] at m_47; omega)
            refine lv_iconst (v := 2) hx hb dX6_edgeOf_50 (by decide) ?_
            refine lv_iload_n hx hb dX6_edgeOf_51 rfl (lv_at hl 1 rfl) ?_
            refine lv_iconst (v := 1) hx hb dX6_edgeOf_52 (by decide) ?_
            refine lv_isub hx hb dX6_edgeOf_53 ?_
            refine lv_eqi (show ((nI ca) - 1 : Int32) = nI (ca - 1) from pk_sub (a := ca) (b := 1) (by omega)) ?_
            refine lv_imul hx hb dX6_edgeOf_54 ?_
            refine lv_eqi (show (2 * (nI (ca - 1)) : Int32) = nI (2 * (ca - 1)) from pk_mul 2 (ca - 1)) ?_
            refine lv_goto (tgt := 59) hx hb dX6_edgeOf_55 (by decide) ?_
            exact K_1 _ (by simp [rRaw, m_1, m_19, m_30, m_47])
        · skip
          have m_30 : da = 2 := (nI_eq (a := da) (b := 2) (by omega) (by omega)).mp c_30
          refine lv_iconst (v := 2) hx hb dX6_edgeOf_33 (by decide) ?_
          refine lv_iload_n hx hb dX6_edgeOf_34 rfl (lv_at hl 1 rfl) ?_
          refine lv_imul hx hb dX6_edgeOf_35 ?_
          refine lv_eqi (show (2 * (nI ca) : Int32) = nI (2 * ca) from pk_mul 2 ca) ?_
          refine lv_iconst (v := 1) hx hb dX6_edgeOf_36 (by decide) ?_
          refine lv_iadd hx hb dX6_edgeOf_37 ?_
          refine lv_eqi (show ((nI (2 * ca)) + 1 : Int32) = nI ((2 * ca) + 1) from nI_add (2 * ca) 1) ?_
          refine lv_goto (tgt := 59) hx hb dX6_edgeOf_38 (by decide) ?_
          exact K_1 _ (by simp [rRaw, m_1, m_19, m_30])
      · skip
        have m_19 : da = 1 := (nI_eq (a := da) (b := 1) (by omega) (by omega)).mp c_19
        refine lv_iconst (v := 2) hx hb dX6_edgeOf_22 (by decide) ?_
        refine lv_iload_n hx hb dX6_edgeOf_23 rfl (lv_at hl 1 rfl) ?_
        refine lv_imul hx hb dX6_edgeOf_24 ?_
        refine lv_eqi (show (2 * (nI ca) : Int32) = nI (2 * ca) from pk_mul 2 ca) ?_
        refine lv_goto (tgt := 59) hx hb dX6_edgeOf_25 (by decide) ?_
        exact K_1 _ (by simp [rRaw, m_1, m_19])
    · skip
      have m_1 : da = 0 := (nI_eq (a := da) (b := 0) (by omega) (by omega)).mp c_1
      refine lv_iconst (v := 2) hx hb dX6_edgeOf_4 (by decide) ?_
      refine lv_iload_n hx hb dX6_edgeOf_5 rfl (lv_at hl 1 rfl) ?_
      refine lv_aload_n hx hb dX6_edgeOf_6 rfl (lv_at hl 0 rfl) ?_
      refine va_get (D := E.1) (ci := 7) (v := .int (nI gw)) (C := RX6) (T := TX6) (N := 25) hx hb hts hi_RX6 hown hE.1 hP 0 rfl rfl 1 (by decide) hf_69 (fun _ h9 => h9) rfl dX6_edgeOf_7 ?_
      refine lv_isub hx hb dX6_edgeOf_10 ?_
      refine lv_imul hx hb dX6_edgeOf_11 ?_
      refine lv_iconst (v := 1) hx hb dX6_edgeOf_12 (by decide) ?_
      refine lv_iadd hx hb dX6_edgeOf_13 ?_
      refine lv_goto (tgt := 59) hx hb dX6_edgeOf_14 (by decide) ?_
      exact K_1 _ (by simp [rRaw, m_1])
set_option maxHeartbeats 4000000 in
set_option maxRecDepth 100000 in
theorem cX6_count_ct (l : Launch) (E : GE) (q : Nat) (y1 : Nat) (y2 : Nat) (y3 : Nat) (y4 : Nat) (y5 : Nat) (y6 : Nat) (y7 : Nat) (y8 : Nat) (y9 : Nat) (y10 : Nat) (y11 : Nat) (y12 : Nat) (y13 : Nat) (y14 : Nat) (y15 : Nat) (y16 : Nat) (y17 : Nat) (y18 : Nat) (gw : Nat) (gh : Nat) (th : Int32) (to : Int32) (wr : Bool) (k : Nat) (mk : Nat) (ed : Nat → Int32) (ca : Nat) (v : Int32) (hca : ca < 64) (hg1 : 1 ≤ gw) (hh1 : 1 ≤ gh) (hg8 : gw ≤ 8) (hh8 : gh ≤ 8) : rdI l yX6_count wsX6_count ({ frames := 3, cells := 0, slots := 0, locals := 64 }) E [.ref q, .int (nI ca), .int v] [(q, .inr (7, [.int th, .int (nI gw), .int (nI gh), .ref y1, .ref y2, .ref y3, .int to, .int (b2i wr), .ref y4, .ref y5, .int (nI k), .ref y6, .ref y7, .ref y8, .ref y9, .int (nI mk), .ref y10, .ref y11, .ref y12, .ref y13, .ref y14, .ref y15, .ref y16, .ref y17, .ref y18])), (y1, .inl (E.2 0, 128, .inl ed))] (nI (cnt gw gh ed ca v)) := by
  refine Met.ofW (cc := cX6_count) (maxL := 5) (ret := (some .int)) (by decide) rfl ?_
  intro p e s m args below meth c s₁ B hml hv
  obtain ⟨rfl, hE, hP⟩ := hv
  have hx := B.exec
  have hb := B.bytes
  have hr := B.returns
  have hts := atoms_spec (ws := wsX6_count) B.pre
  have hown : s.vm.findClass RX6 = some m.cls := findClass_of_methodNamed B.named
  have hlocks := B.notSynchronized
  have hP : va_P E.1 vwCl [(q, .inr (7, [.int th, .int (nI gw), .int (nI gh), .ref y1, .ref y2, .ref y3, .int to, .int (b2i wr), .ref y4, .ref y5, .int (nI k), .ref y6, .ref y7, .ref y8, .ref y9, .int (nI mk), .ref y10, .ref y11, .ref y12, .ref y13, .ref y14, .ref y15, .ref y16, .ref y17, .ref y18])), (y1, .inl (E.2 0, 128, .inl ed))] s.heap := hP
  have hl := lv_entry ([.ref q, .int (nI ca), .int v]) (n := 5) (Nat.le_of_ble_eq_true rfl)
  rw [lg_entry_eq]
  generalize (lg_sl ([.ref q, .int (nI ca), .int v]) ++ List.replicate (5 - (lg_sl ([.ref q, .int (nI ca), .int v])).length) Slot.unset).toArray = ls at hl ⊢
  have hl : lv_has ls 5 [(0, .ref q), (1, .int (nI ca)), (2, .int v)] := hl
  have hf_7 := hts (.fieldLink RX6 7 "LoopRegionsModel" "edges" "[I") (by decide +kernel)
  have hi_RX6 : ∀ w ∈ wsX60, w ∈ wsX6_count := by decide +kernel
  have hN : gw * gh ≤ 64 := Nat.mul_le_mul hg8 hh8
  have hN1 : 1 ≤ gw * gh := Nat.mul_le_mul hg1 hh1
  refine lv_iconst (v := 0) hx hb dX6_count_0 (by decide) ?_
  refine lv_istore_n (lv' := [(3, .int 0), (0, .ref q), (1, .int (nI ca)), (2, .int v)]) hx hb dX6_count_1 rfl hl (by decide) rfl (fun ls hl => ?_)
  refine lv_iconst (v := 0) hx hb dX6_count_2 (by decide) ?_
  refine lv_istore (lv' := [(4, .int 0), (3, .int 0), (0, .ref q), (1, .int (nI ca)), (2, .int v)]) hx hb dX6_count_3 hl (by decide) rfl (fun ls hl => ?_)
  refine W_loopR (σ := Int32 × Int32) (J := 5) (nL := 5) (fun n9 x => ∃ k9 a9, n9 = k9 + 1 ∧ k9 ≤ 4 ∧ x.1 = nI (4 - k9) ∧ x.2 = nI a9 ∧ a9 + cntR gw gh ed ca v k9 = cnt gw gh ed ca v) (fun x => [(4, .int x.1), (3, .int x.2), (0, .ref q), (1, .int (nI ca)), (2, .int v)]) (fun x h => by obtain ⟨k9, a9, h, _⟩ := h; exact absurd h (by omega)) (fun n_5 ih_5 x ls hI_5 hl => ?_) (5) (0, 0) (⟨4, 0, rfl, Nat.le_refl _, rfl, rfl, Nat.zero_add _⟩) (lv_sub hl [0, 1, 2, 3, 4] rfl)
  obtain ⟨dd, aa⟩ := x
  try dsimp only at hI_5
  have hl : lv_has ls 5 [(4, .int dd), (3, .int aa), (0, .ref q), (1, .int (nI ca)), (2, .int v)] := hl
  obtain ⟨k9, a9, hk_5, hN_5, rfl, rfl, hv⟩ := hI_5
  obtain rfl : n_5 = k9 := Nat.succ.inj hk_5
  have hl : lv_has ls 5 [(4, .int (nI (4 - n_5))), (3, .int (nI a9)), (0, .ref q), (1, .int (nI ca)), (2, .int v)] := hl
  have hc4 := cntR_le gw gh ed ca v n_5
  have hc5 := cntR_le gw gh ed ca v 4
  have hce : cnt gw gh ed ca v = cntR gw gh ed ca v 4 := rfl
  refine lv_iload hx hb dX6_count_5 (lv_at hl 0 rfl) ?_
  refine lv_iconst (v := 4) hx hb dX6_count_7 (by decide) ?_
  refine lv_icmp_ge (tgt := 51) hx hb dX6_count_8 (by decide) (fun c_8 => ?_) (fun c_8 => ?_)
  · skip
    have m_8 : 4 ≤ (4 - n_5) := (nI_leI (a := 4) (b := (4 - n_5)) (by omega) (by omega)).mp c_8
    have k_8 : ¬ (4 - n_5) < 4 := Nat.not_lt.mpr m_8
    refine lv_iload_n hx hb dX6_count_51 rfl (lv_at hl 1 rfl) ?_
    exact W.iret (v := nI a9) hx hb hr (fun t9 ht9 _ => ⟨nI a9, rfl, by have h0 : n_5 = 0 := (by omega); subst h0; rw [← hv]; rfl, ht9⟩) (fun q h => absurd h List.not_mem_nil) dX6_count_52
  · skip
    have m_8 : ¬ 4 ≤ (4 - n_5) := fun q => c_8 ((nI_leI (a := 4) (b := (4 - n_5)) (by omega) (by omega)).mpr q)
    have k_8 : (4 - n_5) < 4 := Nat.lt_of_not_le m_8
    obtain ⟨j, rfl⟩ : ∃ j, n_5 = j + 1 := ⟨n_5 - 1, by omega⟩
    refine lv_iload_n hx hb dX6_count_11 rfl (lv_at hl 1 rfl) ?_
    refine lv_aload_n hx hb dX6_count_12 rfl (lv_at hl 2 rfl) ?_
    refine lv_iload_n hx hb dX6_count_13 rfl (lv_at hl 3 rfl) ?_
    refine lv_iload hx hb dX6_count_14 (lv_at hl 0 rfl) ?_
    refine crVi (As := [.int (nI ca), .int (nI (4 - (j + 1)))]) (rest := [.int (nI a9)]) ⟨hx, hb, hml, hown, hts⟩ hE (cX6_edgeOf_ct l E q y1 y2 y3 y4 y5 y6 y7 y8 y9 y10 y11 y12 y13 y14 y15 y16 y17 y18 gw gh th to wr k mk ca (4 - (j + 1)) (by first | assumption | omega | (subst_vars; assumption)) (by first | assumption | omega | (subst_vars; assumption)) (by first | assumption | omega | (subst_vars; assumption)) (by first | assumption | omega | (subst_vars; assumption)) (by first | assumption | omega | (subst_vars; assumption)) (by first | assumption | omega | (subst_vars; assumption))) (cwV 2 hts gX6_count_X6_edgeOf rfl rfl rfl (by decide +kernel) ⟨Nat.le_of_ble_eq_true rfl, Nat.le_of_ble_eq_true rfl⟩) (hP.sub (ws' := [(q, .inr (7, [.int th, .int (nI gw), .int (nI gh), .ref y1, .ref y2, .ref y3, .int to, .int (b2i wr), .ref y4, .ref y5, .int (nI k), .ref y6, .ref y7, .ref y8, .ref y9, .int (nI mk), .ref y10, .ref y11, .ref y12, .ref y13, .ref y14, .ref y15, .ref y16, .ref y17, .ref y18]))]) [0] rfl) (va_recv hE.1 hP (ci := 7) (q0 := 0) rfl rfl) rfl hl.1 rfl (Nat.le_of_ble_eq_true rfl) dX6_count_16 ⟨Nat.zero_le _, Nat.zero_le _⟩ ?_
    refine W_joinI (J := 43) (rest := [.int (nI a9)]) (fun z9 => z9 = nI (cn1 gw gh ed ca v (4 - (j + 1)))) (fun v_1 ev_1 => ?_) (fun K_19 => ?_)
    · skip
      subst ev_1
      have hc1 := cn1_le gw gh ed ca v (4 - (j + 1))
      refine lv_iadd hx hb dX6_count_43 ?_
      refine lv_eqi (show ((nI a9) + (nI (cn1 gw gh ed ca v (4 - (j + 1)))) : Int32) = nI (a9 + (cn1 gw gh ed ca v (4 - (j + 1)))) from nI_add a9 (cn1 gw gh ed ca v (4 - (j + 1)))) ?_
      refine lv_istore_n (lv' := [(3, .int (nI (a9 + (cn1 gw gh ed ca v (4 - (j + 1)))))), (4, .int (nI (4 - (j + 1)))), (0, .ref q), (1, .int (nI ca)), (2, .int v)]) hx hb dX6_count_44 rfl hl (by decide) rfl (fun ls hl => ?_)
      refine lv_iinc (v := nI ((4 - (j + 1)) + 1)) (lv' := [(4, .int (nI ((4 - (j + 1)) + 1))), (3, .int (nI (a9 + (cn1 gw gh ed ca v (4 - (j + 1)))))), (0, .ref q), (1, .int (nI ca)), (2, .int v)]) hx hb dX6_count_45 hl (k := 1) rfl (nI_1 _) (by decide) rfl (fun ls hl => ?_)
      refine lv_goto (tgt := 5) hx hb dX6_count_48 (by decide) ?_
      exact ih_5 (nI ((4 - (j + 1)) + 1), nI (a9 + (cn1 gw gh ed ca v (4 - (j + 1))))) ls (⟨j, a9 + cn1 gw gh ed ca v (4 - (j + 1)), rfl, by omega, congrArg nI (show 4 - (j + 1) + 1 = 4 - j by omega), rfl, by rw [cntR] at hv; omega⟩) (lv_sub hl [0, 1, 2, 3, 4] rfl)
    · skip
      refine lv_if_lt (tgt := 42) hx hb dX6_count_19 (by decide) (fun c_19 => ?_) (fun c_19 => ?_)
      · skip
        refine lv_iconst (v := 0) hx hb dX6_count_42 (by decide) ?_
        exact K_19 _ (by rw [cn1, if_pos c_19]; rfl)
      · skip
        obtain ⟨e1, he1, hq1, hi1⟩ := rEOf_some hca hg8 hh8 c_19
        refine lv_aload_n hx hb dX6_count_22 rfl (lv_at hl 2 rfl) ?_
        refine va_get (D := E.1) (ci := 7) (v := .ref y1) (C := RX6) (T := TX6) (N := 25) hx hb hts hi_RX6 hown hE.1 hP 0 rfl rfl 3 (by decide) hf_7 (fun _ h9 => h9) rfl dX6_count_23 ?_
        refine lv_aload_n hx hb dX6_count_26 rfl (lv_at hl 2 rfl) ?_
        refine lv_iload_n hx hb dX6_count_27 rfl (lv_at hl 3 rfl) ?_
        refine lv_iload hx hb dX6_count_28 (lv_at hl 0 rfl) ?_
        refine crVi (As := [.int (nI ca), .int (nI (4 - (j + 1)))]) (rest := [.ref y1, .int (nI a9)]) ⟨hx, hb, hml, hown, hts⟩ hE (cX6_edgeOf_ct l E q y1 y2 y3 y4 y5 y6 y7 y8 y9 y10 y11 y12 y13 y14 y15 y16 y17 y18 gw gh th to wr k mk ca (4 - (j + 1)) (by first | assumption | omega | (subst_vars; assumption)) (by first | assumption | omega | (subst_vars; assumption)) (by first | assumption | omega | (subst_vars; assumption)) (by first | assumption | omega | (subst_vars; assumption)) (by first | assumption | omega | (subst_vars; assumption)) (by first | assumption | omega | (subst_vars; assumption))) (cwV 2 hts gX6_count_X6_edgeOf rfl rfl rfl (by decide +kernel) ⟨Nat.le_of_ble_eq_true rfl, Nat.le_of_ble_eq_true rfl⟩) (hP.sub (ws' := [(q, .inr (7, [.int th, .int (nI gw), .int (nI gh), .ref y1, .ref y2, .ref y3, .int to, .int (b2i wr), .ref y4, .ref y5, .int (nI k), .ref y6, .ref y7, .ref y8, .ref y9, .int (nI mk), .ref y10, .ref y11, .ref y12, .ref y13, .ref y14, .ref y15, .ref y16, .ref y17, .ref y18]))]) [0] rfl) (va_recv hE.1 hP (ci := 7) (q0 := 0) rfl rfl) rfl hl.1 rfl (Nat.le_of_ble_eq_true rfl) dX6_count_30 ⟨Nat.zero_le _, Nat.zero_le _⟩ ?_
        refine lv_eqi hq1 ?_
        refine va_iald hx hb hE.1 hP 1 0 rfl rfl (show vp_in (nI e1) 128 from vp_in_nI (by omega) (by decide)) dX6_count_33 ?_
        refine lv_eqi (congrArg ed (show (nI e1 : Int32).toNatClampNeg = e1 from nI_clamp (by omega))) ?_
        refine lv_iload_n hx hb dX6_count_34 rfl (lv_at hl 4 rfl) ?_
        refine lv_icmp_ne (tgt := 42) hx hb dX6_count_35 (by decide) (fun c_35 => ?_) (fun c_35 => ?_)
        · skip
          refine lv_iconst (v := 0) hx hb dX6_count_42 (by decide) ?_
          exact K_19 _ (by rw [cn1, if_neg c_19, hq1, nI_clamp (by omega)]; simp only [c_35, if_true, if_false]; rfl)
        · skip
          refine lv_iconst (v := 1) hx hb dX6_count_38 (by decide) ?_
          refine lv_goto (tgt := 43) hx hb dX6_count_39 (by decide) ?_
          exact K_19 _ (by rw [cn1, if_neg c_19, hq1, nI_clamp (by omega)]; simp only [c_35, if_true, if_false]; rfl)
set_option maxHeartbeats 4000000 in
set_option maxRecDepth 100000 in
theorem cX6_needs_ct (l : Launch) (E : GE) (q : Nat) (y1 : Nat) (y2 : Nat) (y3 : Nat) (y4 : Nat) (y5 : Nat) (y6 : Nat) (y7 : Nat) (y8 : Nat) (y9 : Nat) (y10 : Nat) (y11 : Nat) (y12 : Nat) (y13 : Nat) (y14 : Nat) (y15 : Nat) (y16 : Nat) (y17 : Nat) (y18 : Nat) (gw : Nat) (gh : Nat) (th : Int32) (to : Int32) (wr : Bool) (k : Nat) (mk : Nat) (ed : Nat → Int32) (du : Nat → Int32) (ca : Nat) (hca : ca < 64) (hg1 : 1 ≤ gw) (hh1 : 1 ≤ gh) (hg8 : gw ≤ 8) (hh8 : gh ≤ 8) : rdI l yX6_needs wsX6_needs ({ frames := 4, cells := 0, slots := 0, locals := 88 }) E [.ref q, .int (nI ca)] [(q, .inr (7, [.int th, .int (nI gw), .int (nI gh), .ref y1, .ref y2, .ref y3, .int to, .int (b2i wr), .ref y4, .ref y5, .int (nI k), .ref y6, .ref y7, .ref y8, .ref y9, .int (nI mk), .ref y10, .ref y11, .ref y12, .ref y13, .ref y14, .ref y15, .ref y16, .ref y17, .ref y18])), (y1, .inl (E.2 0, 128, .inl ed)), (y2, .inl (E.2 0, 64, .inl du))] (b2i (rNeed gw gh ed du ca)) := by
  refine Met.ofW (cc := cX6_needs) (maxL := 2) (ret := (some .boolean)) (by decide) rfl ?_
  intro p e s m args below meth c s₁ B hml hv
  obtain ⟨rfl, hE, hP⟩ := hv
  have hx := B.exec
  have hb := B.bytes
  have hr := B.returns
  have hts := atoms_spec (ws := wsX6_needs) B.pre
  have hown : s.vm.findClass RX6 = some m.cls := findClass_of_methodNamed B.named
  have hlocks := B.notSynchronized
  have hP : va_P E.1 vwCl [(q, .inr (7, [.int th, .int (nI gw), .int (nI gh), .ref y1, .ref y2, .ref y3, .int to, .int (b2i wr), .ref y4, .ref y5, .int (nI k), .ref y6, .ref y7, .ref y8, .ref y9, .int (nI mk), .ref y10, .ref y11, .ref y12, .ref y13, .ref y14, .ref y15, .ref y16, .ref y17, .ref y18])), (y1, .inl (E.2 0, 128, .inl ed)), (y2, .inl (E.2 0, 64, .inl du))] s.heap := hP
  have hl := lv_entry ([.ref q, .int (nI ca)]) (n := 2) (Nat.le_of_ble_eq_true rfl)
  rw [lg_entry_eq]
  generalize (lg_sl ([.ref q, .int (nI ca)]) ++ List.replicate (2 - (lg_sl ([.ref q, .int (nI ca)])).length) Slot.unset).toArray = ls at hl ⊢
  have hl : lv_has ls 2 [(0, .ref q), (1, .int (nI ca))] := hl
  have hf_13 := hts (.fieldLink RX6 13 "LoopRegionsModel" "duties" "[I") (by decide +kernel)
  have hi_RX6 : ∀ w ∈ wsX60, w ∈ wsX6_needs := by decide +kernel
  have hN : gw * gh ≤ 64 := Nat.mul_le_mul hg8 hh8
  have hN1 : 1 ≤ gw * gh := Nat.mul_le_mul hg1 hh1
  have hc5 := cntR_le gw gh ed ca 1 4
  have hce : cnt gw gh ed ca 1 = cntR gw gh ed ca 1 4 := rfl
  refine lv_aload_n hx hb dX6_needs_0 rfl (lv_at hl 0 rfl) ?_
  refine va_get (D := E.1) (ci := 7) (v := .ref y2) (C := RX6) (T := TX6) (N := 25) hx hb hts hi_RX6 hown hE.1 hP 0 rfl rfl 4 (by decide) hf_13 (fun _ h9 => h9) rfl dX6_needs_1 ?_
  refine lv_iload_n hx hb dX6_needs_4 rfl (lv_at hl 1 rfl) ?_
  refine va_iald hx hb hE.1 hP 2 0 rfl rfl (show vp_in (nI ca) 64 from vp_in_nI (by omega) (by decide)) dX6_needs_5 ?_
  refine lv_eqi (congrArg du (show (nI ca : Int32).toNatClampNeg = ca from nI_clamp (by omega))) ?_
  refine lv_iconst (v := 1) hx hb dX6_needs_6 (by decide) ?_
  refine lv_icmp_eq (tgt := 19) hx hb dX6_needs_7 (by decide) (fun c_7 => ?_) (fun c_7 => ?_)
  · skip
    refine lv_iconst (v := 1) hx hb dX6_needs_19 (by decide) ?_
    refine lv_goto (tgt := 24) hx hb dX6_needs_20 (by decide) ?_
    exact W.zret (v := 1) hx hb hr (rfl) (fun t9 ht9 _ => ⟨1, rfl, by simp [rNeed, b2i, c_7], ht9⟩) (fun q h => absurd h List.not_mem_nil) dX6_needs_24
  · skip
    refine lv_aload_n hx hb dX6_needs_10 rfl (lv_at hl 0 rfl) ?_
    refine lv_iload_n hx hb dX6_needs_11 rfl (lv_at hl 1 rfl) ?_
    refine lv_iconst (v := 1) hx hb dX6_needs_12 (by decide) ?_
    refine crVi (As := [.int (nI ca), .int 1]) (rest := []) ⟨hx, hb, hml, hown, hts⟩ hE (cX6_count_ct l E q y1 y2 y3 y4 y5 y6 y7 y8 y9 y10 y11 y12 y13 y14 y15 y16 y17 y18 gw gh th to wr k mk ed ca 1 (by first | assumption | omega | (subst_vars; assumption)) (by first | assumption | omega | (subst_vars; assumption)) (by first | assumption | omega | (subst_vars; assumption)) (by first | assumption | omega | (subst_vars; assumption)) (by first | assumption | omega | (subst_vars; assumption))) (cwV 2 hts gX6_needs_X6_count rfl rfl rfl (by decide +kernel) ⟨Nat.le_of_ble_eq_true rfl, Nat.le_of_ble_eq_true rfl⟩) (hP.sub (ws' := [(q, .inr (7, [.int th, .int (nI gw), .int (nI gh), .ref y1, .ref y2, .ref y3, .int to, .int (b2i wr), .ref y4, .ref y5, .int (nI k), .ref y6, .ref y7, .ref y8, .ref y9, .int (nI mk), .ref y10, .ref y11, .ref y12, .ref y13, .ref y14, .ref y15, .ref y16, .ref y17, .ref y18])), (y1, .inl (E.2 0, 128, .inl ed))]) [0, 1] rfl) (va_recv hE.1 hP (ci := 7) (q0 := 0) rfl rfl) rfl hl.1 rfl (Nat.le_of_ble_eq_true rfl) dX6_needs_13 ⟨Nat.zero_le _, Nat.zero_le _⟩ ?_
    refine lv_if_le (tgt := 23) hx hb dX6_needs_16 (by decide) (fun c_16 => ?_) (fun c_16 => ?_)
    · skip
      have m_16 : (cnt gw gh ed ca 1) ≤ 0 := (nI_leI (a := (cnt gw gh ed ca 1)) (b := 0) (by omega) (by omega)).mp c_16
      have k_16 : ¬ 0 < (cnt gw gh ed ca 1) := Nat.not_lt.mpr m_16
      refine lv_iconst (v := 0) hx hb dX6_needs_23 (by decide) ?_
      exact W.zret (v := 0) hx hb hr (rfl) (fun t9 ht9 _ => ⟨0, rfl, by simp [rNeed, b2i, c_7, m_16], ht9⟩) (fun q h => absurd h List.not_mem_nil) dX6_needs_24
    · skip
      have m_16 : ¬ (cnt gw gh ed ca 1) ≤ 0 := fun q => c_16 ((nI_leI (a := (cnt gw gh ed ca 1)) (b := 0) (by omega) (by omega)).mpr q)
      have k_16 : 0 < (cnt gw gh ed ca 1) := Nat.lt_of_not_le m_16
      refine lv_iconst (v := 1) hx hb dX6_needs_19 (by decide) ?_
      refine lv_goto (tgt := 24) hx hb dX6_needs_20 (by decide) ?_
      exact W.zret (v := 1) hx hb hr (rfl) (fun t9 ht9 _ => ⟨1, rfl, by simp [rNeed, b2i, c_7, m_16], ht9⟩) (fun q h => absurd h List.not_mem_nil) dX6_needs_24
