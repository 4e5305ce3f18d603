def rFst (P : Nat → Bool) (N : Nat) : Nat → Int32
  | 0 => -1
  | k + 1 => if P (N - (k + 1)) = true then nI (N - (k + 1)) else rFst P N k
def rAny (P : Nat → Bool) (N : Nat) : Nat → Bool
  | 0 => false
  | k + 1 => if P (N - (k + 1)) = true then true else rAny P N k
def rCt (P : Nat → Bool) (N : Nat) : Nat → Nat
  | 0 => 0
  | k + 1 => (if P (N - (k + 1)) = true then 1 else 0) + rCt P N k
theorem rCt_le (P : Nat → Bool) (N k : Nat) : rCt P N k ≤ k := by
  induction k with
  | zero => exact Nat.le_refl _
  | succ k ih => rw [rCt]; split <;> omega
set_option maxHeartbeats 4000000 in
set_option maxRecDepth 100000 in
theorem cX6_firstBlack_ct (l : Launch) (E : GE) (q : Nat) (y1 : Nat) (y2 : Nat) (y3 : Nat) (y4 : Nat) (y5 : Nat) (y6 : Nat) (y7 : Nat) (y8 : Nat) (y9 : Nat) (y10 : Nat) (y11 : Nat) (y12 : Nat) (y13 : Nat) (y14 : Nat) (y15 : Nat) (y16 : Nat) (y17 : Nat) (y18 : Nat) (gw : Nat) (gh : Nat) (th : Int32) (to : Int32) (wr : Bool) (k : Nat) (mk : Nat) (sh : Nat → Int32)  (hg1 : 1 ≤ gw) (hh1 : 1 ≤ gh) (hg8 : gw ≤ 8) (hh8 : gh ≤ 8) : rdI l yX6_firstBlack wsX6_firstBlack ({ frames := 1, cells := 0, slots := 0, locals := 20 }) E [.ref q] [(q, .inr (7, [.int th, .int (nI gw), .int (nI gh), .ref y1, .ref y2, .ref y3, .int to, .int (b2i wr), .ref y4, .ref y5, .int (nI k), .ref y6, .ref y7, .ref y8, .ref y9, .int (nI mk), .ref y10, .ref y11, .ref y12, .ref y13, .ref y14, .ref y15, .ref y16, .ref y17, .ref y18])), (y3, .inl (E.2 0, 64, .inl sh))] (rFst (fun i => decide (sh i = 1)) (gw * gh) (gw * gh)) := by
  refine Met.ofW (cc := cX6_firstBlack) (maxL := 2) (ret := (some .int)) (by decide) rfl ?_
  intro p e s m args below meth c s₁ B hml hv
  obtain ⟨rfl, hE, hP⟩ := hv
  have hx := B.exec
  have hb := B.bytes
  have hr := B.returns
  have hts := atoms_spec (ws := wsX6_firstBlack) B.pre
  have hown : s.vm.findClass RX6 = some m.cls := findClass_of_methodNamed B.named
  have hlocks := B.notSynchronized
  have hP : va_P E.1 vwCl [(q, .inr (7, [.int th, .int (nI gw), .int (nI gh), .ref y1, .ref y2, .ref y3, .int to, .int (b2i wr), .ref y4, .ref y5, .int (nI k), .ref y6, .ref y7, .ref y8, .ref y9, .int (nI mk), .ref y10, .ref y11, .ref y12, .ref y13, .ref y14, .ref y15, .ref y16, .ref y17, .ref y18])), (y3, .inl (E.2 0, 64, .inl sh))] s.heap := hP
  have hl := lv_entry ([.ref q]) (n := 2) (Nat.le_of_ble_eq_true rfl)
  rw [lg_entry_eq]
  generalize (lg_sl ([.ref q]) ++ List.replicate (2 - (lg_sl ([.ref q])).length) Slot.unset).toArray = ls at hl ⊢
  have hl : lv_has ls 2 [(0, .ref q)] := hl
  have hf_16 := hts (.fieldLink RX6 16 "LoopRegionsModel" "shades" "[I") (by decide +kernel)
  have hi_RX6 : ∀ w ∈ wsX60, w ∈ wsX6_firstBlack := by decide +kernel
  have hN : gw * gh ≤ 64 := Nat.mul_le_mul hg8 hh8
  have hN1 : 1 ≤ gw * gh := Nat.mul_le_mul hg1 hh1
  refine lv_iconst (v := 0) hx hb dX6_firstBlack_0 (by decide) ?_
  refine lv_istore_n (lv' := [(1, .int 0), (0, .ref q)]) hx hb dX6_firstBlack_1 rfl hl (by decide) rfl (fun ls hl => ?_)
  refine W_loopR (σ := Int32) (J := 2) (nL := 2) (fun n9 x => ∃ k9, n9 = k9 + 1 ∧ k9 ≤ gw * gh ∧ x = nI (gw * gh - k9) ∧ rFst (fun i => decide (sh i = 1)) (gw * gh) k9 = rFst (fun i => decide (sh i = 1)) (gw * gh) (gw * gh)) (fun x => [(1, .int x), (0, .ref q)]) (fun x h => by obtain ⟨k9, h, _⟩ := h; exact absurd h (by omega)) (fun n_2 ih_2 x ls hI_2 hl => ?_) (gw * gh + 1) 0 (⟨gw * gh, rfl, Nat.le_refl _, by rw [Nat.sub_self]; rfl, rfl⟩) (lv_sub hl [0, 1] rfl)
  obtain ⟨x_2_, rfl⟩ : ∃ z, z = x := ⟨_, rfl⟩
  try dsimp only at hI_2
  have hl : lv_has ls 2 [(1, .int x_2_), (0, .ref q)] := hl
  obtain ⟨k9, hk_2, hN_2, rfl, hv_2⟩ := hI_2
  obtain rfl : n_2 = k9 := Nat.succ.inj hk_2
  have hl : lv_has ls 2 [(1, .int (nI (gw * gh - n_2))), (0, .ref q)] := hl
  refine lv_iload_n hx hb dX6_firstBlack_2 rfl (lv_at hl 0 rfl) ?_
  refine lv_aload_n hx hb dX6_firstBlack_3 rfl (lv_at hl 1 rfl) ?_
  refine crVi (As := []) (rest := [.int (nI (gw * gh - n_2))]) ⟨hx, hb, hml, hown, hts⟩ hE (cX6_all_ct l E q y1 y2 y3 y4 y5 y6 y7 y8 y9 y10 y11 y12 y13 y14 y15 y16 y17 y18 gw gh th to wr k mk) (cwV 0 hts gX6_firstBlack_X6_all rfl rfl rfl (by decide +kernel) ⟨Nat.le_of_ble_eq_true rfl, Nat.le_of_ble_eq_true rfl⟩) (hP.sub (ws' := [(q, .inr (7, [.int th, .int (nI gw), .int (nI gh), .ref y1, .ref y2, .ref y3, .int to, .int (b2i wr), .ref y4, .ref y5, .int (nI k), .ref y6, .ref y7, .ref y8, .ref y9, .int (nI mk), .ref y10, .ref y11, .ref y12, .ref y13, .ref y14, .ref y15, .ref y16, .ref y17, .ref y18]))]) [0] rfl) (va_recv hE.1 hP (ci := 7) (q0 := 0) rfl rfl) rfl hl.1 rfl (Nat.le_of_ble_eq_true rfl) dX6_firstBlack_4 ⟨Nat.zero_le _, Nat.zero_le _⟩ ?_
  refine lv_icmp_ge (tgt := 28) hx hb dX6_firstBlack_7 (by decide) (fun c_7 => ?_) (fun c_7 => ?_)
  · skip
    have m_7 : (gw * gh) ≤ (gw * gh - n_2) := (nI_leI (a := (gw * gh)) (b := (gw * gh - n_2)) (by omega) (by omega)).mp c_7
    have k_7 : ¬ (gw * gh - n_2) < (gw * gh) := Nat.not_lt.mpr m_7
    refine lv_iconst (v := (-1)) hx hb dX6_firstBlack_28 (by decide) ?_
    exact W.iret (v := (-1)) hx hb hr (fun t9 ht9 _ => ⟨(-1), rfl, by have h0 : n_2 = 0 := (by omega); subst h0; rw [← hv_2]; rfl, ht9⟩) (fun q h => absurd h List.not_mem_nil) dX6_firstBlack_29
  · skip
    have m_7 : ¬ (gw * gh) ≤ (gw * gh - n_2) := fun q => c_7 ((nI_leI (a := (gw * gh)) (b := (gw * gh - n_2)) (by omega) (by omega)).mpr q)
    have k_7 : (gw * gh - n_2) < (gw * gh) := Nat.lt_of_not_le m_7
    obtain ⟨j_2, rfl⟩ : ∃ j, n_2 = j + 1 := ⟨n_2 - 1, by omega⟩
    obtain ⟨i_2, hi_2⟩ : ∃ i, i = gw * gh - (j_2 + 1) := ⟨_, rfl⟩
    have hib_2 : i_2 < gw * gh := by omega
    rw [← hi_2] at hl
    have hl : lv_has ls 2 [(1, .int (nI i_2)), (0, .ref q)] := hl
    refine lv_aload_n hx hb dX6_firstBlack_10 rfl (lv_at hl 1 rfl) ?_
    refine va_get (D := E.1) (ci := 7) (v := .ref y3) (C := RX6) (T := TX6) (N := 25) hx hb hts hi_RX6 hown hE.1 hP 0 rfl rfl 5 (by decide) hf_16 (fun _ h9 => h9) rfl dX6_firstBlack_11 ?_
    refine lv_iload_n hx hb dX6_firstBlack_14 rfl (lv_at hl 0 rfl) ?_
    refine va_iald hx hb hE.1 hP 1 0 rfl rfl (show vp_in (nI i_2) 64 from vp_in_nI (by omega) (by decide)) dX6_firstBlack_15 ?_
    refine lv_eqi (congrArg sh (show (nI i_2 : Int32).toNatClampNeg = i_2 from nI_clamp (by omega))) ?_
    refine lv_iconst (v := 1) hx hb dX6_firstBlack_16 (by decide) ?_
    refine lv_icmp_ne (tgt := 22) hx hb dX6_firstBlack_17 (by decide) (fun c_17 => ?_) (fun c_17 => ?_)
    · skip
      rw [rFst, ← hi_2, if_neg (by simpa using c_17)] at hv_2
      refine lv_iinc (v := nI (i_2 + 1)) (lv' := [(1, .int (nI (i_2 + 1))), (0, .ref q)]) hx hb dX6_firstBlack_22 hl (k := 0) rfl (nI_1 _) (by decide) rfl (fun ls hl => ?_)
      refine lv_goto (tgt := 2) hx hb dX6_firstBlack_25 (by decide) ?_
      exact ih_2 (nI (i_2 + 1)) ls (⟨j_2, rfl, by omega, congrArg nI (by omega), hv_2⟩) (lv_sub hl [0, 1] rfl)
    · skip
      refine lv_iload_n hx hb dX6_firstBlack_20 rfl (lv_at hl 0 rfl) ?_
      exact W.iret (v := nI i_2) hx hb hr (fun t9 ht9 _ => ⟨nI i_2, rfl, by rw [← hv_2, rFst, ← hi_2, if_pos (by simpa using c_17)], ht9⟩) (fun q h => absurd h List.not_mem_nil) dX6_firstBlack_21
set_option maxHeartbeats 4000000 in
set_option maxRecDepth 100000 in
theorem cX6_isClosed_ct (l : Launch) (E : GE) (q : Nat) (y1 : Nat) (y2 : Nat) (y3 : Nat) (y4 : Nat) (y5 : Nat) (y6 : Nat) (y7 : Nat) (y8 : Nat) (y9 : Nat) (y10 : Nat) (y11 : Nat) (y12 : Nat) (y13 : Nat) (y14 : Nat) (y15 : Nat) (y16 : Nat) (y17 : Nat) (y18 : Nat) (gw : Nat) (gh : Nat) (th : Int32) (to : Int32) (wr : Bool) (k : Nat) (mk : Nat) (ed : Nat → Int32) (rc : Nat → Int32)  (hg1 : 1 ≤ gw) (hh1 : 1 ≤ gh) (hg8 : gw ≤ 8) (hh8 : gh ≤ 8) : rdI l yX6_isClosed wsX6_isClosed ({ frames := 4, cells := 0, slots := 0, locals := 88 }) E [.ref q] [(q, .inr (7, [.int th, .int (nI gw), .int (nI gh), .ref y1, .ref y2, .ref y3, .int to, .int (b2i wr), .ref y4, .ref y5, .int (nI k), .ref y6, .ref y7, .ref y8, .ref y9, .int (nI mk), .ref y10, .ref y11, .ref y12, .ref y13, .ref y14, .ref y15, .ref y16, .ref y17, .ref y18])), (y1, .inl (E.2 0, 128, .inl ed)), (y18, .inl (E.2 1, 64, .inl rc))] (b2i (!rAny (fun i => decide (¬ rc i = 0) && decide (¬ cnt gw gh ed i 1 = 2)) (gw * gh) (gw * gh))) := by
  refine Met.ofW (cc := cX6_isClosed) (maxL := 2) (ret := (some .boolean)) (by decide) rfl ?_
  intro p e s m args below meth c s₁ B hml hv
  obtain ⟨rfl, hE, hP⟩ := hv
  have hx := B.exec
  have hb := B.bytes
  have hr := B.returns
  have hts := atoms_spec (ws := wsX6_isClosed) B.pre
  have hown : s.vm.findClass RX6 = some m.cls := findClass_of_methodNamed B.named
  have hlocks := B.notSynchronized
  have hP : va_P E.1 vwCl [(q, .inr (7, [.int th, .int (nI gw), .int (nI gh), .ref y1, .ref y2, .ref y3, .int to, .int (b2i wr), .ref y4, .ref y5, .int (nI k), .ref y6, .ref y7, .ref y8, .ref y9, .int (nI mk), .ref y10, .ref y11, .ref y12, .ref y13, .ref y14, .ref y15, .ref y16, .ref y17, .ref y18])), (y1, .inl (E.2 0, 128, .inl ed)), (y18, .inl (E.2 1, 64, .inl rc))] s.heap := hP
  have hl := lv_entry ([.ref q]) (n := 2) (Nat.le_of_ble_eq_true rfl)
  rw [lg_entry_eq]
  generalize (lg_sl ([.ref q]) ++ List.replicate (2 - (lg_sl ([.ref q])).length) Slot.unset).toArray = ls at hl ⊢
  have hl : lv_has ls 2 [(0, .ref q)] := hl
  have hf_66 := hts (.fieldLink RX6 66 "LoopRegionsModel" "reached" "[Z") (by decide +kernel)
  have hi_RX6 : ∀ w ∈ wsX60, w ∈ wsX6_isClosed := by decide +kernel
  have hN : gw * gh ≤ 64 := Nat.mul_le_mul hg8 hh8
  have hN1 : 1 ≤ gw * gh := Nat.mul_le_mul hg1 hh1
  refine lv_iconst (v := 0) hx hb dX6_isClosed_0 (by decide) ?_
  refine lv_istore_n (lv' := [(1, .int 0), (0, .ref q)]) hx hb dX6_isClosed_1 rfl hl (by decide) rfl (fun ls hl => ?_)
  refine W_loopR (σ := Int32) (J := 2) (nL := 2) (fun n9 x => ∃ k9, n9 = k9 + 1 ∧ k9 ≤ gw * gh ∧ x = nI (gw * gh - k9) ∧ rAny (fun i => decide (¬ rc i = 0) && decide (¬ cnt gw gh ed i 1 = 2)) (gw * gh) k9 = rAny (fun i => decide (¬ rc i = 0) && decide (¬ cnt gw gh ed i 1 = 2)) (gw * gh) (gw * gh)) (fun x => [(1, .int x), (0, .ref q)]) (fun x h => by obtain ⟨k9, h, _⟩ := h; exact absurd h (by omega)) (fun n_2 ih_2 x ls hI_2 hl => ?_) (gw * gh + 1) 0 (⟨gw * gh, rfl, Nat.le_refl _, by rw [Nat.sub_self]; rfl, rfl⟩) (lv_sub hl [0, 1] rfl)
  obtain ⟨x_2_, rfl⟩ : ∃ z, z = x := ⟨_, rfl⟩
  try dsimp only at hI_2
  have hl : lv_has ls 2 [(1, .int x_2_), (0, .ref q)] := hl
  obtain ⟨k9, hk_2, hN_2, rfl, hv_2⟩ := hI_2
  obtain rfl : n_2 = k9 := Nat.succ.inj hk_2
  have hl : lv_has ls 2 [(1, .int (nI (gw * gh - n_2))), (0, .ref q)] := hl
  refine lv_iload_n hx hb dX6_isClosed_2 rfl (lv_at hl 0 rfl) ?_
  refine lv_aload_n hx hb dX6_isClosed_3 rfl (lv_at hl 1 rfl) ?_
  refine crVi (As := []) (rest := [.int (nI (gw * gh - n_2))]) ⟨hx, hb, hml, hown, hts⟩ hE (cX6_all_ct l E q y1 y2 y3 y4 y5 y6 y7 y8 y9 y10 y11 y12 y13 y14 y15 y16 y17 y18 gw gh th to wr k mk) (cwV 0 hts gX6_isClosed_X6_all rfl rfl rfl (by decide +kernel) ⟨Nat.le_of_ble_eq_true rfl, Nat.le_of_ble_eq_true rfl⟩) (hP.sub (ws' := [(q, .inr (7, [.int th, .int (nI gw), .int (nI gh), .ref y1, .ref y2, .ref y3, .int to, .int (b2i wr), .ref y4, .ref y5, .int (nI k), .ref y6, .ref y7, .ref y8, .ref y9, .int (nI mk), .ref y10, .ref y11, .ref y12, .ref y13, .ref y14, .ref y15, .ref y16, .ref y17, .ref y18]))]) [0] rfl) (va_recv hE.1 hP (ci := 7) (q0 := 0) rfl rfl) rfl hl.1 rfl (Nat.le_of_ble_eq_true rfl) dX6_isClosed_4 ⟨Nat.zero_le _, Nat.zero_le _⟩ ?_
  refine lv_icmp_ge (tgt := 37) hx hb dX6_isClosed_7 (by decide) (fun c_7 => ?_) (fun c_7 => ?_)
  · skip
    have m_7 : (gw * gh) ≤ (gw * gh - n_2) := (nI_leI (a := (gw * gh)) (b := (gw * gh - n_2)) (by omega) (by omega)).mp c_7
    have k_7 : ¬ (gw * gh - n_2) < (gw * gh) := Nat.not_lt.mpr m_7
    refine lv_iconst (v := 1) hx hb dX6_isClosed_37 (by decide) ?_
    exact W.zret (v := 1) hx hb hr (rfl) (fun t9 ht9 _ => ⟨1, rfl, by have h0 : n_2 = 0 := (by omega); subst h0; rw [← hv_2]; rfl, ht9⟩) (fun q h => absurd h List.not_mem_nil) dX6_isClosed_38
  · skip
    have m_7 : ¬ (gw * gh) ≤ (gw * gh - n_2) := fun q => c_7 ((nI_leI (a := (gw * gh)) (b := (gw * gh - n_2)) (by omega) (by omega)).mpr q)
    have k_7 : (gw * gh - n_2) < (gw * gh) := Nat.lt_of_not_le m_7
    obtain ⟨j_2, rfl⟩ : ∃ j, n_2 = j + 1 := ⟨n_2 - 1, by omega⟩
    obtain ⟨i_2, hi_2⟩ : ∃ i, i = gw * gh - (j_2 + 1) := ⟨_, rfl⟩
    have hib_2 : i_2 < gw * gh := by omega
    rw [← hi_2] at hl
    have hl : lv_has ls 2 [(1, .int (nI i_2)), (0, .ref q)] := hl
    refine lv_aload_n hx hb dX6_isClosed_10 rfl (lv_at hl 1 rfl) ?_
    refine va_get (D := E.1) (ci := 7) (v := .ref y18) (C := RX6) (T := TX6) (N := 25) hx hb hts hi_RX6 hown hE.1 hP 0 rfl rfl 24 (by decide) hf_66 (fun _ h9 => h9) rfl dX6_isClosed_11 ?_
    refine lv_iload_n hx hb dX6_isClosed_14 rfl (lv_at hl 0 rfl) ?_
    refine va_zald hx hb hE.1 hP 2 1 rfl rfl (show vp_in (nI i_2) 64 from vp_in_nI (by omega) (by decide)) dX6_isClosed_15 ?_
    refine lv_eqi (congrArg rc (show (nI i_2 : Int32).toNatClampNeg = i_2 from nI_clamp (by omega))) ?_
    refine lv_if_eq (tgt := 31) hx hb dX6_isClosed_16 (by decide) (fun c_16 => ?_) (fun c_16 => ?_)
    · skip
      rw [rAny, ← hi_2, if_neg (by simp [c_16])] at hv_2
      refine lv_iinc (v := nI (i_2 + 1)) (lv' := [(1, .int (nI (i_2 + 1))), (0, .ref q)]) hx hb dX6_isClosed_31 hl (k := 0) rfl (nI_1 _) (by decide) rfl (fun ls hl => ?_)
      refine lv_goto (tgt := 2) hx hb dX6_isClosed_34 (by decide) ?_
      exact ih_2 (nI (i_2 + 1)) ls (⟨j_2, rfl, by omega, congrArg nI (by omega), hv_2⟩) (lv_sub hl [0, 1] rfl)
    · skip
      refine lv_aload_n hx hb dX6_isClosed_19 rfl (lv_at hl 1 rfl) ?_
      refine lv_iload_n hx hb dX6_isClosed_20 rfl (lv_at hl 0 rfl) ?_
      refine lv_iconst (v := 1) hx hb dX6_isClosed_21 (by decide) ?_
      refine crVi (As := [.int (nI i_2), .int 1]) (rest := []) ⟨hx, hb, hml, hown, hts⟩ hE (cX6_count_ct l E q y1 y2 y3 y4 y5 y6 y7 y8 y9 y10 y11 y12 y13 y14 y15 y16 y17 y18 gw gh th to wr k mk ed i_2 1 (by first | assumption | omega | (subst_vars; assumption)) (by first | assumption | omega | (subst_vars; assumption)) (by first | assumption | omega | (subst_vars; assumption)) (by first | assumption | omega | (subst_vars; assumption)) (by first | assumption | omega | (subst_vars; assumption))) (cwV 2 hts gX6_isClosed_X6_count rfl rfl rfl (by decide +kernel) ⟨Nat.le_of_ble_eq_true rfl, Nat.le_of_ble_eq_true rfl⟩) (hP.sub (ws' := [(q, .inr (7, [.int th, .int (nI gw), .int (nI gh), .ref y1, .ref y2, .ref y3, .int to, .int (b2i wr), .ref y4, .ref y5, .int (nI k), .ref y6, .ref y7, .ref y8, .ref y9, .int (nI mk), .ref y10, .ref y11, .ref y12, .ref y13, .ref y14, .ref y15, .ref y16, .ref y17, .ref y18])), (y1, .inl (E.2 0, 128, .inl ed))]) [0, 1] rfl) (va_recv hE.1 hP (ci := 7) (q0 := 0) rfl rfl) rfl hl.1 rfl (Nat.le_of_ble_eq_true rfl) dX6_isClosed_22 ⟨Nat.zero_le _, Nat.zero_le _⟩ ?_
      have hcb : cnt gw gh ed i_2 1 ≤ 4 := cntR_le gw gh ed i_2 1 4
      refine lv_iconst (v := 2) hx hb dX6_isClosed_25 (by decide) ?_
      refine lv_icmp_eq (tgt := 31) hx hb dX6_isClosed_26 (by decide) (fun c_26 => ?_) (fun c_26 => ?_)
      · skip
        have m_26 : (cnt gw gh ed i_2 1) = 2 := (nI_eq (a := (cnt gw gh ed i_2 1)) (b := 2) (by omega) (by omega)).mp c_26
        rw [rAny, ← hi_2, if_neg (by simp [m_26])] at hv_2
        refine lv_iinc (v := nI (i_2 + 1)) (lv' := [(1, .int (nI (i_2 + 1))), (0, .ref q)]) hx hb dX6_isClosed_31 hl (k := 0) rfl (nI_1 _) (by decide) rfl (fun ls hl => ?_)
        refine lv_goto (tgt := 2) hx hb dX6_isClosed_34 (by decide) ?_
        exact ih_2 (nI (i_2 + 1)) ls (⟨j_2, rfl, by omega, congrArg nI (by omega), hv_2⟩) (lv_sub hl [0, 1] rfl)
      · skip
        have m_26 : ¬ (cnt gw gh ed i_2 1) = 2 := fun q => c_26 ((nI_eq (a := (cnt gw gh ed i_2 1)) (b := 2) (by omega) (by omega)).mpr q)
        refine lv_iconst (v := 0) hx hb dX6_isClosed_29 (by decide) ?_
        exact W.zret (v := 0) hx hb hr (rfl) (fun t9 ht9 _ => ⟨0, rfl, by rw [← hv_2, rAny, ← hi_2, if_pos (by simp [c_16, m_26])]; rfl, ht9⟩) (fun q h => absurd h List.not_mem_nil) dX6_isClosed_30
set_option maxHeartbeats 4000000 in
set_option maxRecDepth 100000 in
theorem cX6_isMore_ct (l : Launch) (E : GE) (q : Nat) (y1 : Nat) (y2 : Nat) (y3 : Nat) (y4 : Nat) (y5 : Nat) (y6 : Nat) (y7 : Nat) (y8 : Nat) (y9 : Nat) (y10 : Nat) (y11 : Nat) (y12 : Nat) (y13 : Nat) (y14 : Nat) (y15 : Nat) (y16 : Nat) (y17 : Nat) (y18 : Nat) (gw : Nat) (gh : Nat) (th : Int32) (to : Int32) (wr : Bool) (k : Nat) (mk : Nat) (ed : Nat → Int32) (du : Nat → Int32) (rc : Nat → Int32)  (hg1 : 1 ≤ gw) (hh1 : 1 ≤ gh) (hg8 : gw ≤ 8) (hh8 : gh ≤ 8) : rdI l yX6_isMore wsX6_isMore ({ frames := 2, cells := 0, slots := 0, locals := 41 }) E [.ref q] [(q, .inr (7, [.int th, .int (nI gw), .int (nI gh), .ref y1, .ref y2, .ref y3, .int to, .int (b2i wr), .ref y4, .ref y5, .int (nI k), .ref y6, .ref y7, .ref y8, .ref y9, .int (nI mk), .ref y10, .ref y11, .ref y12, .ref y13, .ref y14, .ref y15, .ref y16, .ref y17, .ref y18])), (y1, .inl (E.2 0, 128, .inl ed)), (y2, .inl (E.2 0, 64, .inl du)), (y18, .inl (E.2 1, 64, .inl rc))] (b2i (rAny (fun i => isEn gw gh i && (decide (ed i = 1) && decide (rc (i / 2) = 0))) (2 * (gw * gh)) (2 * (gw * gh)) || rAny (fun i => decide (du i = 1) && decide (rc i = 0)) (gw * gh) (gw * gh))) := by
  refine Met.ofW (cc := cX6_isMore) (maxL := 2) (ret := (some .boolean)) (by decide) rfl ?_
  intro p e s m args below meth c s₁ B hml hv
  obtain ⟨rfl, hE, hP⟩ := hv
  have hx := B.exec
  have hb := B.bytes
  have hr := B.returns
  have hts := atoms_spec (ws := wsX6_isMore) B.pre
  have hown : s.vm.findClass RX6 = some m.cls := findClass_of_methodNamed B.named
  have hlocks := B.notSynchronized
  have hP : va_P E.1 vwCl [(q, .inr (7, [.int th, .int (nI gw), .int (nI gh), .ref y1, .ref y2, .ref y3, .int to, .int (b2i wr), .ref y4, .ref y5, .int (nI k), .ref y6, .ref y7, .ref y8, .ref y9, .int (nI mk), .ref y10, .ref y11, .ref y12, .ref y13, .ref y14, .ref y15, .ref y16, .ref y17, .ref y18])), (y1, .inl (E.2 0, 128, .inl ed)), (y2, .inl (E.2 0, 64, .inl du)), (y18, .inl (E.2 1, 64, .inl rc))] s.heap := hP
  have hl := lv_entry ([.ref q]) (n := 2) (Nat.le_of_ble_eq_true rfl)
  rw [lg_entry_eq]
  generalize (lg_sl ([.ref q]) ++ List.replicate (2 - (lg_sl ([.ref q])).length) Slot.unset).toArray = ls at hl ⊢
  have hl : lv_has ls 2 [(0, .ref q)] := hl
  have hf_13 := hts (.fieldLink RX6 13 "LoopRegionsModel" "duties" "[I") (by decide +kernel)
  have hf_66 := hts (.fieldLink RX6 66 "LoopRegionsModel" "reached" "[Z") (by decide +kernel)
  have hf_7 := hts (.fieldLink RX6 7 "LoopRegionsModel" "edges" "[I") (by decide +kernel)
  have hi_RX6 : ∀ w ∈ wsX60, w ∈ wsX6_isMore := by decide +kernel
  have hN : gw * gh ≤ 64 := Nat.mul_le_mul hg8 hh8
  have hN1 : 1 ≤ gw * gh := Nat.mul_le_mul hg1 hh1
  refine lv_iconst (v := 0) hx hb dX6_isMore_0 (by decide) ?_
  refine lv_istore_n (lv' := [(1, .int 0), (0, .ref q)]) hx hb dX6_isMore_1 rfl hl (by decide) rfl (fun ls hl => ?_)
  refine W_loopR (σ := Int32) (J := 2) (nL := 2) (fun n9 x => ∃ k9, n9 = k9 + 1 ∧ k9 ≤ 2 * (gw * gh) ∧ x = nI (2 * (gw * gh) - k9) ∧ rAny (fun i => isEn gw gh i && (decide (ed i = 1) && decide (rc (i / 2) = 0))) (2 * (gw * gh)) k9 = rAny (fun i => isEn gw gh i && (decide (ed i = 1) && decide (rc (i / 2) = 0))) (2 * (gw * gh)) (2 * (gw * gh))) (fun x => [(1, .int x), (0, .ref q)]) (fun x h => by obtain ⟨k9, h, _⟩ := h; exact absurd h (by omega)) (fun n_2 ih_2 x ls hI_2 hl => ?_) (2 * (gw * gh) + 1) 0 (⟨2 * (gw * gh), rfl, Nat.le_refl _, by rw [Nat.sub_self]; rfl, rfl⟩) (lv_sub hl [0, 1] rfl)
  obtain ⟨x_2_, rfl⟩ : ∃ z, z = x := ⟨_, rfl⟩
  try dsimp only at hI_2
  have hl : lv_has ls 2 [(1, .int x_2_), (0, .ref q)] := hl
  obtain ⟨k9, hk_2, hN_2, rfl, hv_2⟩ := hI_2
  obtain rfl : n_2 = k9 := Nat.succ.inj hk_2
  have hl : lv_has ls 2 [(1, .int (nI (2 * (gw * gh) - n_2))), (0, .ref q)] := hl
  refine lv_iload_n hx hb dX6_isMore_2 rfl (lv_at hl 0 rfl) ?_
  refine lv_iconst (v := 2) hx hb dX6_isMore_3 (by decide) ?_
  refine lv_aload_n hx hb dX6_isMore_4 rfl (lv_at hl 1 rfl) ?_
  refine crVi (As := []) (rest := [.int 2, .int (nI (2 * (gw * gh) - n_2))]) ⟨hx, hb, hml, hown, hts⟩ hE (cX6_all_ct l E q y1 y2 y3 y4 y5 y6 y7 y8 y9 y10 y11 y12 y13 y14 y15 y16 y17 y18 gw gh th to wr k mk) (cwV 0 hts gX6_isMore_X6_all rfl rfl rfl (by decide +kernel) ⟨Nat.le_of_ble_eq_true rfl, Nat.le_of_ble_eq_true rfl⟩) (hP.sub (ws' := [(q, .inr (7, [.int th, .int (nI gw), .int (nI gh), .ref y1, .ref y2, .ref y3, .int to, .int (b2i wr), .ref y4, .ref y5, .int (nI k), .ref y6, .ref y7, .ref y8, .ref y9, .int (nI mk), .ref y10, .ref y11, .ref y12, .ref y13, .ref y14, .ref y15, .ref y16, .ref y17, .ref y18]))]) [0] rfl) (va_recv hE.1 hP (ci := 7) (q0 := 0) rfl rfl) rfl hl.1 rfl (Nat.le_of_ble_eq_true rfl) dX6_isMore_5 ⟨Nat.zero_le _, Nat.zero_le _⟩ ?_
  refine lv_imul hx hb dX6_isMore_8 ?_
  refine lv_eqi (show (2 * (nI (gw * gh)) : Int32) = nI (2 * (gw * gh)) from pk_mul 2 (gw * gh)) ?_
  refine lv_icmp_ge (tgt := 49) hx hb dX6_isMore_9 (by decide) (fun c_9 => ?_) (fun c_9 => ?_)
  · skip
    have m_9 : (2 * (gw * gh)) ≤ (2 * (gw * gh) - n_2) := (nI_leI (a := (2 * (gw * gh))) (b := (2 * (gw * gh) - n_2)) (by omega) (by omega)).mp c_9
    have k_9 : ¬ (2 * (gw * gh) - n_2) < (2 * (gw * gh)) := Nat.not_lt.mpr m_9
    have hf1 : rAny (fun i => isEn gw gh i && (decide (ed i = 1) && decide (rc (i / 2) = 0))) (2 * (gw * gh)) (2 * (gw * gh)) = false := by have h0 : n_2 = 0 := (by omega); subst h0; rw [← hv_2]; rfl
    refine lv_iconst (v := 0) hx hb dX6_isMore_49 (by decide) ?_
    refine lv_istore_n (lv' := [(1, .int 0), (0, .ref q)]) hx hb dX6_isMore_50 rfl hl (by decide) rfl (fun ls hl => ?_)
    refine W_loopR (σ := Int32) (J := 51) (nL := 2) (fun n9 x => ∃ k9, n9 = k9 + 1 ∧ k9 ≤ gw * gh ∧ x = nI (gw * gh - k9) ∧ rAny (fun i => decide (du i = 1) && decide (rc i = 0)) (gw * gh) k9 = rAny (fun i => decide (du i = 1) && decide (rc i = 0)) (gw * gh) (gw * gh)) (fun x => [(1, .int x), (0, .ref q)]) (fun x h => by obtain ⟨k9, h, _⟩ := h; exact absurd h (by omega)) (fun n_51 ih_51 x ls hI_51 hl => ?_) (gw * gh + 1) 0 (⟨gw * gh, rfl, Nat.le_refl _, by rw [Nat.sub_self]; rfl, rfl⟩) (lv_sub hl [0, 1] rfl)
    obtain ⟨x_51_, rfl⟩ : ∃ z, z = x := ⟨_, rfl⟩
    try dsimp only at hI_51
    have hl : lv_has ls 2 [(1, .int x_51_), (0, .ref q)] := hl
    obtain ⟨k9, hk_51, hN_51, rfl, hv_51⟩ := hI_51
    obtain rfl : n_51 = k9 := Nat.succ.inj hk_51
    have hl : lv_has ls 2 [(1, .int (nI (gw * gh - n_51))), (0, .ref q)] := hl
    refine lv_iload_n hx hb dX6_isMore_51 rfl (lv_at hl 0 rfl) ?_
    refine lv_aload_n hx hb dX6_isMore_52 rfl (lv_at hl 1 rfl) ?_
    refine crVi (As := []) (rest := [.int (nI (gw * gh - n_51))]) ⟨hx, hb, hml, hown, hts⟩ hE (cX6_all_ct l E q y1 y2 y3 y4 y5 y6 y7 y8 y9 y10 y11 y12 y13 y14 y15 y16 y17 y18 gw gh th to wr k mk) (cwV 0 hts gX6_isMore_X6_all rfl rfl rfl (by decide +kernel) ⟨Nat.le_of_ble_eq_true rfl, Nat.le_of_ble_eq_true rfl⟩) (hP.sub (ws' := [(q, .inr (7, [.int th, .int (nI gw), .int (nI gh), .ref y1, .ref y2, .ref y3, .int to, .int (b2i wr), .ref y4, .ref y5, .int (nI k), .ref y6, .ref y7, .ref y8, .ref y9, .int (nI mk), .ref y10, .ref y11, .ref y12, .ref y13, .ref y14, .ref y15, .ref y16, .ref y17, .ref y18]))]) [0] rfl) (va_recv hE.1 hP (ci := 7) (q0 := 0) rfl rfl) rfl hl.1 rfl (Nat.le_of_ble_eq_true rfl) dX6_isMore_53 ⟨Nat.zero_le _, Nat.zero_le _⟩ ?_
    refine lv_icmp_ge (tgt := 86) hx hb dX6_isMore_56 (by decide) (fun c_56 => ?_) (fun c_56 => ?_)
    · skip
      have m_56 : (gw * gh) ≤ (gw * gh - n_51) := (nI_leI (a := (gw * gh)) (b := (gw * gh - n_51)) (by omega) (by omega)).mp c_56
      have k_56 : ¬ (gw * gh - n_51) < (gw * gh) := Nat.not_lt.mpr m_56
      refine lv_iconst (v := 0) hx hb dX6_isMore_86 (by decide) ?_
      exact W.zret (v := 0) hx hb hr (rfl) (fun t9 ht9 _ => ⟨0, rfl, by have h0 : n_51 = 0 := (by omega); subst h0; rw [hf1, ← hv_51]; rfl, ht9⟩) (fun q h => absurd h List.not_mem_nil) dX6_isMore_87
    · skip
      have m_56 : ¬ (gw * gh) ≤ (gw * gh - n_51) := fun q => c_56 ((nI_leI (a := (gw * gh)) (b := (gw * gh - n_51)) (by omega) (by omega)).mpr q)
      have k_56 : (gw * gh - n_51) < (gw * gh) := Nat.lt_of_not_le m_56
      obtain ⟨j_51, rfl⟩ : ∃ j, n_51 = j + 1 := ⟨n_51 - 1, by omega⟩
      obtain ⟨i_51, hi_51⟩ : ∃ i, i = gw * gh - (j_51 + 1) := ⟨_, rfl⟩
      have hib_51 : i_51 < gw * gh := by omega
      rw [← hi_51] at hl
      have hl : lv_has ls 2 [(1, .int (nI i_51)), (0, .ref q)] := hl
      refine lv_aload_n hx hb dX6_isMore_59 rfl (lv_at hl 1 rfl) ?_
      refine va_get (D := E.1) (ci := 7) (v := .ref y2) (C := RX6) (T := TX6) (N := 25) hx hb hts hi_RX6 hown hE.1 hP 0 rfl rfl 4 (by decide) hf_13 (fun _ h9 => h9) rfl dX6_isMore_60 ?_
      refine lv_iload_n hx hb dX6_isMore_63 rfl (lv_at hl 0 rfl) ?_
      refine va_iald hx hb hE.1 hP 2 0 rfl rfl (show vp_in (nI i_51) 64 from vp_in_nI (by omega) (by decide)) dX6_isMore_64 ?_
      refine lv_eqi (congrArg du (show (nI i_51 : Int32).toNatClampNeg = i_51 from nI_clamp (by omega))) ?_
      refine lv_iconst (v := 1) hx hb dX6_isMore_65 (by decide) ?_
      refine lv_icmp_ne (tgt := 80) hx hb dX6_isMore_66 (by decide) (fun c_66 => ?_) (fun c_66 => ?_)
      · skip
        rw [rAny, ← hi_51, if_neg (by simp [c_66])] at hv_51
        refine lv_iinc (v := nI (i_51 + 1)) (lv' := [(1, .int (nI (i_51 + 1))), (0, .ref q)]) hx hb dX6_isMore_80 hl (k := 0) rfl (nI_1 _) (by decide) rfl (fun ls hl => ?_)
        refine lv_goto (tgt := 51) hx hb dX6_isMore_83 (by decide) ?_
        exact ih_51 (nI (i_51 + 1)) ls (⟨j_51, rfl, by omega, congrArg nI (by omega), hv_51⟩) (lv_sub hl [0, 1] rfl)
      · skip
        refine lv_aload_n hx hb dX6_isMore_69 rfl (lv_at hl 1 rfl) ?_
        refine va_get (D := E.1) (ci := 7) (v := .ref y18) (C := RX6) (T := TX6) (N := 25) hx hb hts hi_RX6 hown hE.1 hP 0 rfl rfl 24 (by decide) hf_66 (fun _ h9 => h9) rfl dX6_isMore_70 ?_
        refine lv_iload_n hx hb dX6_isMore_73 rfl (lv_at hl 0 rfl) ?_
        refine va_zald hx hb hE.1 hP 3 1 rfl rfl (show vp_in (nI i_51) 64 from vp_in_nI (by omega) (by decide)) dX6_isMore_74 ?_
        refine lv_eqi (congrArg rc (show (nI i_51 : Int32).toNatClampNeg = i_51 from nI_clamp (by omega))) ?_
        refine lv_if_ne (tgt := 80) hx hb dX6_isMore_75 (by decide) (fun c_75 => ?_) (fun c_75 => ?_)
        · skip
          rw [rAny, ← hi_51, if_neg (by simp [c_75])] at hv_51
          refine lv_iinc (v := nI (i_51 + 1)) (lv' := [(1, .int (nI (i_51 + 1))), (0, .ref q)]) hx hb dX6_isMore_80 hl (k := 0) rfl (nI_1 _) (by decide) rfl (fun ls hl => ?_)
          refine lv_goto (tgt := 51) hx hb dX6_isMore_83 (by decide) ?_
          exact ih_51 (nI (i_51 + 1)) ls (⟨j_51, rfl, by omega, congrArg nI (by omega), hv_51⟩) (lv_sub hl [0, 1] rfl)
        · skip
          refine lv_iconst (v := 1) hx hb dX6_isMore_78 (by decide) ?_
          exact W.zret (v := 1) hx hb hr (rfl) (fun t9 ht9 _ => ⟨1, rfl, by rw [hf1, ← hv_51, rAny, ← hi_51, if_pos (by simp [c_75, c_66])]; rfl, ht9⟩) (fun q h => absurd h List.not_mem_nil) dX6_isMore_79
  · skip
    have m_9 : ¬ (2 * (gw * gh)) ≤ (2 * (gw * gh) - n_2) := fun q => c_9 ((nI_leI (a := (2 * (gw * gh))) (b := (2 * (gw * gh) - n_2)) (by omega) (by omega)).mpr q)
    have k_9 : (2 * (gw * gh) - n_2) < (2 * (gw * gh)) := Nat.lt_of_not_le m_9
    obtain ⟨j_2, rfl⟩ : ∃ j, n_2 = j + 1 := ⟨n_2 - 1, by omega⟩
    obtain ⟨i_2, hi_2⟩ : ∃ i, i = 2 * (gw * gh) - (j_2 + 1) := ⟨_, rfl⟩
    have hib_2 : i_2 < 2 * (gw * gh) := by omega
    rw [← hi_2] at hl
    have hl : lv_has ls 2 [(1, .int (nI i_2)), (0, .ref q)] := hl
    refine lv_aload_n hx hb dX6_isMore_12 rfl (lv_at hl 1 rfl) ?_
    refine lv_iload_n hx hb dX6_isMore_13 rfl (lv_at hl 0 rfl) ?_
    refine crVi (As := [.int (nI i_2)]) (rest := []) ⟨hx, hb, hml, hown, hts⟩ hE (cX6_isEdge_ct l E q y1 y2 y3 y4 y5 y6 y7 y8 y9 y10 y11 y12 y13 y14 y15 y16 y17 y18 gw gh th to wr k mk (nI i_2) (by first | assumption | omega | (subst_vars; assumption)) (by first | assumption | omega | (subst_vars; assumption)) (by first | assumption | omega | (subst_vars; assumption)) (by first | assumption | omega | (subst_vars; assumption))) (cwV 1 hts gX6_isMore_X6_isEdge rfl rfl rfl (by decide +kernel) ⟨Nat.le_of_ble_eq_true rfl, Nat.le_of_ble_eq_true rfl⟩) (hP.sub (ws' := [(q, .inr (7, [.int th, .int (nI gw), .int (nI gh), .ref y1, .ref y2, .ref y3, .int to, .int (b2i wr), .ref y4, .ref y5, .int (nI k), .ref y6, .ref y7, .ref y8, .ref y9, .int (nI mk), .ref y10, .ref y11, .ref y12, .ref y13, .ref y14, .ref y15, .ref y16, .ref y17, .ref y18]))]) [0] rfl) (va_recv hE.1 hP (ci := 7) (q0 := 0) rfl rfl) rfl hl.1 rfl (Nat.le_of_ble_eq_true rfl) dX6_isMore_14 ⟨Nat.zero_le _, Nat.zero_le _⟩ ?_
    refine lv_eqi (congrArg b2i (rIsE_nI (j := i_2) (by omega))) ?_
    refine lv_if_eq (tgt := 43) hx hb dX6_isMore_17 (by decide) (fun c_17 => ?_) (fun c_17 => ?_)
    · skip
      rw [b2i_eq0] at c_17
      rw [rAny, ← hi_2, if_neg (by simp [c_17])] at hv_2
      refine lv_iinc (v := nI (i_2 + 1)) (lv' := [(1, .int (nI (i_2 + 1))), (0, .ref q)]) hx hb dX6_isMore_43 hl (k := 0) rfl (nI_1 _) (by decide) rfl (fun ls hl => ?_)
      refine lv_goto (tgt := 2) hx hb dX6_isMore_46 (by decide) ?_
      exact ih_2 (nI (i_2 + 1)) ls (⟨j_2, rfl, by omega, congrArg nI (by omega), hv_2⟩) (lv_sub hl [0, 1] rfl)
    · skip
      refine lv_aload_n hx hb dX6_isMore_20 rfl (lv_at hl 1 rfl) ?_
      refine va_get (D := E.1) (ci := 7) (v := .ref y1) (C := RX6) (T := TX6) (N := 25) hx hb hts hi_RX6 hown hE.1 hP 0 rfl rfl 3 (by decide) hf_7 (fun _ h9 => h9) rfl dX6_isMore_21 ?_
      refine lv_iload_n hx hb dX6_isMore_24 rfl (lv_at hl 0 rfl) ?_
      refine va_iald hx hb hE.1 hP 1 0 rfl rfl (show vp_in (nI i_2) 128 from vp_in_nI (by omega) (by decide)) dX6_isMore_25 ?_
      refine lv_eqi (congrArg ed (show (nI i_2 : Int32).toNatClampNeg = i_2 from nI_clamp (by omega))) ?_
      refine lv_iconst (v := 1) hx hb dX6_isMore_26 (by decide) ?_
      refine lv_icmp_ne (tgt := 43) hx hb dX6_isMore_27 (by decide) (fun c_27 => ?_) (fun c_27 => ?_)
      · skip
        rw [rAny, ← hi_2, if_neg (by simp [c_27])] at hv_2
        refine lv_iinc (v := nI (i_2 + 1)) (lv' := [(1, .int (nI (i_2 + 1))), (0, .ref q)]) hx hb dX6_isMore_43 hl (k := 0) rfl (nI_1 _) (by decide) rfl (fun ls hl => ?_)
        refine lv_goto (tgt := 2) hx hb dX6_isMore_46 (by decide) ?_
        exact ih_2 (nI (i_2 + 1)) ls (⟨j_2, rfl, by omega, congrArg nI (by omega), hv_2⟩) (lv_sub hl [0, 1] rfl)
      · skip
        refine lv_aload_n hx hb dX6_isMore_30 rfl (lv_at hl 1 rfl) ?_
        refine va_get (D := E.1) (ci := 7) (v := .ref y18) (C := RX6) (T := TX6) (N := 25) hx hb hts hi_RX6 hown hE.1 hP 0 rfl rfl 24 (by decide) hf_66 (fun _ h9 => h9) rfl dX6_isMore_31 ?_
        refine lv_iload_n hx hb dX6_isMore_34 rfl (lv_at hl 0 rfl) ?_
        refine lv_iconst (v := 2) hx hb dX6_isMore_35 (by decide) ?_
        refine lv_idiv hx hb dX6_isMore_36 (by decide) ?_
        refine lv_eqi (show ((nI i_2) / 2 : Int32) = nI (i_2 / 2) from pk_div (a := i_2) (d := 2) (by omega) (by omega) (by omega)) ?_
        refine va_zald hx hb hE.1 hP 3 1 rfl rfl (show vp_in (nI (i_2 / 2)) 64 from vp_in_nI (by omega) (by decide)) dX6_isMore_37 ?_
        refine lv_eqi (congrArg rc (show (nI (i_2 / 2) : Int32).toNatClampNeg = (i_2 / 2) from nI_clamp (by omega))) ?_
        refine lv_if_ne (tgt := 43) hx hb dX6_isMore_38 (by decide) (fun c_38 => ?_) (fun c_38 => ?_)
        · skip
          rw [rAny, ← hi_2, if_neg (by simp [c_38])] at hv_2
          refine lv_iinc (v := nI (i_2 + 1)) (lv' := [(1, .int (nI (i_2 + 1))), (0, .ref q)]) hx hb dX6_isMore_43 hl (k := 0) rfl (nI_1 _) (by decide) rfl (fun ls hl => ?_)
          refine lv_goto (tgt := 2) hx hb dX6_isMore_46 (by decide) ?_
          exact ih_2 (nI (i_2 + 1)) ls (⟨j_2, rfl, by omega, congrArg nI (by omega), hv_2⟩) (lv_sub hl [0, 1] rfl)
        · skip
          refine lv_iconst (v := 1) hx hb dX6_isMore_41 (by decide) ?_
          exact W.zret (v := 1) hx hb hr (rfl) (fun t9 ht9 _ => ⟨1, rfl, by rw [b2i_eq0] at c_17; rw [← hv_2, rAny, ← hi_2, if_pos (by simp [c_38, c_27]; simpa using c_17)]; rfl, ht9⟩) (fun q h => absurd h List.not_mem_nil) dX6_isMore_42
set_option maxHeartbeats 4000000 in
set_option maxRecDepth 100000 in
theorem cX6_painted_ct (l : Launch) (E : GE) (q : Nat) (y1 : Nat) (y2 : Nat) (y3 : Nat) (y4 : Nat) (y5 : Nat) (y6 : Nat) (y7 : Nat) (y8 : Nat) (y9 : Nat) (y10 : Nat) (y11 : Nat) (y12 : Nat) (y13 : Nat) (y14 : Nat) (y15 : Nat) (y16 : Nat) (y17 : Nat) (y18 : Nat) (gw : Nat) (gh : Nat) (th : Int32) (to : Int32) (wr : Bool) (k : Nat) (mk : Nat) (sh : Nat → Int32) (v : Int32) (hg1 : 1 ≤ gw) (hh1 : 1 ≤ gh) (hg8 : gw ≤ 8) (hh8 : gh ≤ 8) : rdI l yX6_painted wsX6_painted ({ frames := 1, cells := 0, slots := 0, locals := 20 }) E [.ref q, .int v] [(q, .inr (7, [.int th, .int (nI gw), .int (nI gh), .ref y1, .ref y2, .ref y3, .int to, .int (b2i wr), .ref y4, .ref y5, .int (nI k), .ref y6, .ref y7, .ref y8, .ref y9, .int (nI mk), .ref y10, .ref y11, .ref y12, .ref y13, .ref y14, .ref y15, .ref y16, .ref y17, .ref y18])), (y3, .inl (E.2 0, 64, .inl sh))] (nI (rCt (fun i => decide (sh i = v)) (gw * gh) (gw * gh))) := by
  refine Met.ofW (cc := cX6_painted) (maxL := 4) (ret := (some .int)) (by decide) rfl ?_
  intro p e s m args below meth c s₁ B hml hv
  obtain ⟨rfl, hE, hP⟩ := hv
  have hx := B.exec
  have hb := B.bytes
  have hr := B.returns
  have hts := atoms_spec (ws := wsX6_painted) B.pre
  have hown : s.vm.findClass RX6 = some m.cls := findClass_of_methodNamed B.named
  have hlocks := B.notSynchronized
  have hP : va_P E.1 vwCl [(q, .inr (7, [.int th, .int (nI gw), .int (nI gh), .ref y1, .ref y2, .ref y3, .int to, .int (b2i wr), .ref y4, .ref y5, .int (nI k), .ref y6, .ref y7, .ref y8, .ref y9, .int (nI mk), .ref y10, .ref y11, .ref y12, .ref y13, .ref y14, .ref y15, .ref y16, .ref y17, .ref y18])), (y3, .inl (E.2 0, 64, .inl sh))] s.heap := hP
  have hl := lv_entry ([.ref q, .int v]) (n := 4) (Nat.le_of_ble_eq_true rfl)
  rw [lg_entry_eq]
  generalize (lg_sl ([.ref q, .int v]) ++ List.replicate (4 - (lg_sl ([.ref q, .int v])).length) Slot.unset).toArray = ls at hl ⊢
  have hl : lv_has ls 4 [(0, .ref q), (1, .int v)] := hl
  have hf_16 := hts (.fieldLink RX6 16 "LoopRegionsModel" "shades" "[I") (by decide +kernel)
  have hi_RX6 : ∀ w ∈ wsX60, w ∈ wsX6_painted := by decide +kernel
  have hN : gw * gh ≤ 64 := Nat.mul_le_mul hg8 hh8
  have hN1 : 1 ≤ gw * gh := Nat.mul_le_mul hg1 hh1
  refine lv_iconst (v := 0) hx hb dX6_painted_0 (by decide) ?_
  refine lv_istore_n (lv' := [(2, .int 0), (0, .ref q), (1, .int v)]) hx hb dX6_painted_1 rfl hl (by decide) rfl (fun ls hl => ?_)
  refine lv_iconst (v := 0) hx hb dX6_painted_2 (by decide) ?_
  refine lv_istore_n (lv' := [(3, .int 0), (2, .int 0), (0, .ref q), (1, .int v)]) hx hb dX6_painted_3 rfl hl (by decide) rfl (fun ls hl => ?_)
  refine W_loopR (σ := Int32 × Int32) (J := 4) (nL := 4) (fun n9 x => ∃ k9 a9, n9 = k9 + 1 ∧ k9 ≤ gw * gh ∧ x.1 = nI (gw * gh - k9) ∧ x.2 = nI a9 ∧ a9 + rCt (fun i => decide (sh i = v)) (gw * gh) k9 = rCt (fun i => decide (sh i = v)) (gw * gh) (gw * gh)) (fun x => [(3, .int x.1), (2, .int x.2), (0, .ref q), (1, .int v)]) (fun x h => by obtain ⟨k9, a9, h, _⟩ := h; exact absurd h (by omega)) (fun n_4 ih_4 x ls hI_4 hl => ?_) (gw * gh + 1) (0, 0) (⟨gw * gh, 0, rfl, Nat.le_refl _, by rw [Nat.sub_self]; rfl, rfl, Nat.zero_add _⟩) (lv_sub hl [0, 1, 2, 3] rfl)
  obtain ⟨dd, aa⟩ := x
  try dsimp only at hI_4
  have hl : lv_has ls 4 [(3, .int dd), (2, .int aa), (0, .ref q), (1, .int v)] := hl
  obtain ⟨k9, a9, hk_4, hN_4, rfl, rfl, hv⟩ := hI_4
  obtain rfl : n_4 = k9 := Nat.succ.inj hk_4
  have hl : lv_has ls 4 [(3, .int (nI (gw * gh - n_4))), (2, .int (nI a9)), (0, .ref q), (1, .int v)] := hl
  have hc4 := rCt_le (fun i => decide (sh i = v)) (gw * gh) n_4
  have hc5 := rCt_le (fun i => decide (sh i = v)) (gw * gh) (gw * gh)
  refine lv_iload_n hx hb dX6_painted_4 rfl (lv_at hl 0 rfl) ?_
  refine lv_aload_n hx hb dX6_painted_5 rfl (lv_at hl 2 rfl) ?_
  refine crVi (As := []) (rest := [.int (nI (gw * gh - n_4))]) ⟨hx, hb, hml, hown, hts⟩ hE (cX6_all_ct l E q y1 y2 y3 y4 y5 y6 y7 y8 y9 y10 y11 y12 y13 y14 y15 y16 y17 y18 gw gh th to wr k mk) (cwV 0 hts gX6_painted_X6_all rfl rfl rfl (by decide +kernel) ⟨Nat.le_of_ble_eq_true rfl, Nat.le_of_ble_eq_true rfl⟩) (hP.sub (ws' := [(q, .inr (7, [.int th, .int (nI gw), .int (nI gh), .ref y1, .ref y2, .ref y3, .int to, .int (b2i wr), .ref y4, .ref y5, .int (nI k), .ref y6, .ref y7, .ref y8, .ref y9, .int (nI mk), .ref y10, .ref y11, .ref y12, .ref y13, .ref y14, .ref y15, .ref y16, .ref y17, .ref y18]))]) [0] rfl) (va_recv hE.1 hP (ci := 7) (q0 := 0) rfl rfl) rfl hl.1 rfl (Nat.le_of_ble_eq_true rfl) dX6_painted_6 ⟨Nat.zero_le _, Nat.zero_le _⟩ ?_
  refine lv_icmp_ge (tgt := 36) hx hb dX6_painted_9 (by decide) (fun c_9 => ?_) (fun c_9 => ?_)
  · skip
    have m_9 : (gw * gh) ≤ (gw * gh - n_4) := (nI_leI (a := (gw * gh)) (b := (gw * gh - n_4)) (by omega) (by omega)).mp c_9
    have k_9 : ¬ (gw * gh - n_4) < (gw * gh) := Nat.not_lt.mpr m_9
    refine lv_iload_n hx hb dX6_painted_36 rfl (lv_at hl 1 rfl) ?_
    exact W.iret (v := nI a9) hx hb hr (fun t9 ht9 _ => ⟨nI a9, rfl, by have h0 : n_4 = 0 := (by omega); subst h0; rw [← hv]; rfl, ht9⟩) (fun q h => absurd h List.not_mem_nil) dX6_painted_37
  · skip
    have m_9 : ¬ (gw * gh) ≤ (gw * gh - n_4) := fun q => c_9 ((nI_leI (a := (gw * gh)) (b := (gw * gh - n_4)) (by omega) (by omega)).mpr q)
    have k_9 : (gw * gh - n_4) < (gw * gh) := Nat.lt_of_not_le m_9
    obtain ⟨j_4, rfl⟩ : ∃ j, n_4 = j + 1 := ⟨n_4 - 1, by omega⟩
    obtain ⟨i_4, hi_4⟩ : ∃ i, i = gw * gh - (j_4 + 1) := ⟨_, rfl⟩
    have hib_4 : i_4 < gw * gh := by omega
    rw [← hi_4] at hl
    have hl : lv_has ls 4 [(3, .int (nI i_4)), (2, .int (nI a9)), (0, .ref q), (1, .int v)] := hl
    refine lv_iload_n hx hb dX6_painted_12 rfl (lv_at hl 1 rfl) ?_
    refine lv_aload_n hx hb dX6_painted_13 rfl (lv_at hl 2 rfl) ?_
    refine va_get (D := E.1) (ci := 7) (v := .ref y3) (C := RX6) (T := TX6) (N := 25) hx hb hts hi_RX6 hown hE.1 hP 0 rfl rfl 5 (by decide) hf_16 (fun _ h9 => h9) rfl dX6_painted_14 ?_
    refine lv_iload_n hx hb dX6_painted_17 rfl (lv_at hl 0 rfl) ?_
    refine va_iald hx hb hE.1 hP 1 0 rfl rfl (show vp_in (nI i_4) 64 from vp_in_nI (by omega) (by decide)) dX6_painted_18 ?_
    refine lv_eqi (congrArg sh (show (nI i_4 : Int32).toNatClampNeg = i_4 from nI_clamp (by omega))) ?_
    refine lv_iload_n hx hb dX6_painted_19 rfl (lv_at hl 3 rfl) ?_
    refine W_joinI (J := 28) (rest := [.int (nI a9)]) (fun z9 => z9 = nI (if sh i_4 = v then 1 else 0)) (fun v_1 ev_1 => ?_) (fun K_20 => ?_)
    · skip
      subst ev_1
      refine lv_iadd hx hb dX6_painted_28 ?_
      refine lv_eqi (show ((nI a9) + (nI (if sh i_4 = v then 1 else 0)) : Int32) = nI (a9 + (if sh i_4 = v then 1 else 0)) from nI_add a9 (if sh i_4 = v then 1 else 0)) ?_
      refine lv_istore_n (lv' := [(2, .int (nI (a9 + (if sh i_4 = v then 1 else 0)))), (3, .int (nI i_4)), (0, .ref q), (1, .int v)]) hx hb dX6_painted_29 rfl hl (by decide) rfl (fun ls hl => ?_)
      refine lv_iinc (v := nI (i_4 + 1)) (lv' := [(3, .int (nI (i_4 + 1))), (2, .int (nI (a9 + (if sh i_4 = v then 1 else 0)))), (0, .ref q), (1, .int v)]) hx hb dX6_painted_30 hl (k := 1) rfl (nI_1 _) (by decide) rfl (fun ls hl => ?_)
      refine lv_goto (tgt := 4) hx hb dX6_painted_33 (by decide) ?_
      exact ih_4 (nI (i_4 + 1), nI (a9 + (if sh i_4 = v then 1 else 0))) ls (⟨j_4, a9 + (if sh i_4 = v then 1 else 0), rfl, by omega, congrArg nI (by omega), rfl, by rw [rCt, ← hi_4] at hv; simp only [decide_eq_true_eq] at hv; omega⟩) (lv_sub hl [0, 1, 2, 3] rfl)
    · skip
      refine lv_icmp_ne (tgt := 27) hx hb dX6_painted_20 (by decide) (fun c_20 => ?_) (fun c_20 => ?_)
      · skip
        refine lv_iconst (v := 0) hx hb dX6_painted_27 (by decide) ?_
        exact K_20 _ (by simp only [c_20, if_true, if_false]; rfl)
      · skip
        refine lv_iconst (v := 1) hx hb dX6_painted_23 (by decide) ?_
        refine lv_goto (tgt := 28) hx hb dX6_painted_24 (by decide) ?_
        exact K_20 _ (by simp only [c_20, if_true, if_false]; rfl)
