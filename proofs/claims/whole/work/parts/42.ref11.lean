def bOf (gw e : Nat) : Nat := if e % 2 = 0 then e / 2 % gw else gw - 1 + e / 2 / gw
def bR (gw gh : Nat) (ed : Nat → Int32) (b : Nat) : Nat → Nat × Nat × Int32 → Nat × Nat × Int32
  | 0, x => x
  | k + 1, x => bR gw gh ed b k (if isEn gw gh (2 * (gw * gh) - (k + 1)) = true ∧ bOf gw (2 * (gw * gh) - (k + 1)) = b then (x.1 + (if ed (2 * (gw * gh) - (k + 1)) = 1 then 1 else 0), x.2.1 + (if ed (2 * (gw * gh) - (k + 1)) = 0 then 1 else 0), if ed (2 * (gw * gh) - (k + 1)) = 0 then nI (2 * (gw * gh) - (k + 1)) else x.2.2) else x)
theorem bR_in {gw gh b k i a o : Nat} {ed : Nat → Int32} {la : Int32} (hi : i = 2 * (gw * gh) - (k + 1)) (h : isEn gw gh i = true ∧ bOf gw i = b) : bR gw gh ed b (k + 1) (a, o, la) = bR gw gh ed b k (a + (if ed i = 1 then 1 else 0), o + (if ed i = 0 then 1 else 0), if ed i = 0 then nI i else la) := by
  rw [bR, ← hi, if_pos h]
theorem bR_out {gw gh b k i a o : Nat} {ed : Nat → Int32} {la : Int32} (hi : i = 2 * (gw * gh) - (k + 1)) (h : ¬ (isEn gw gh i = true ∧ bOf gw i = b)) : bR gw gh ed b (k + 1) (a, o, la) = bR gw gh ed b k (a, o, la) := by
  rw [bR, ← hi, if_neg h]
theorem bR_la {o i : Nat} {e : Int32} {la : Int32} (h : 0 < o → ∃ f, f < 128 ∧ la = nI f) (hi : i < 128) : 0 < o + (if e = 0 then 1 else 0) → ∃ f, f < 128 ∧ (if e = 0 then nI i else la) = nI f := by
  intro h0
  by_cases q : e = 0
  · rw [if_pos q]; exact ⟨i, hi, rfl⟩
  · rw [if_neg q] at h0 ⊢; exact h (by omega)
theorem bOf_lt {gw gh e : Nat} (h1 : 1 ≤ gw) (h2 : gw ≤ 8) (h : e < 128) : bOf gw e < 128 := by
  unfold bOf
  split
  · exact Nat.lt_of_le_of_lt (Nat.mod_le _ _) (by omega)
  · have := Nat.div_le_self (e / 2) gw; omega
def pBo (gw gh : Nat) (ed : Nat → Int32) (b : Nat) : DEC := if (bR gw gh ed b (2 * (gw * gh)) (0, 0, -1)).2.1 = 0 ∧ (bR gw gh ed b (2 * (gw * gh)) (0, 0, -1)).1 % 2 = 1 then some (7, nI b, 0, false, []) else if (bR gw gh ed b (2 * (gw * gh)) (0, 0, -1)).2.1 = 1 then some (7, nI b, 1, decide ((bR gw gh ed b (2 * (gw * gh)) (0, 0, -1)).1 % 2 = 1), [(bR gw gh ed b (2 * (gw * gh)) (0, 0, -1)).2.2]) else none
set_option maxHeartbeats 4000000 in
set_option maxRecDepth 100000 in
theorem cX6_borders_ct (l : Launch) (E : GE) (sz : Nat) (q : Nat) (y1 : Nat) (y2 : Nat) (y3 : Nat) (y4 : Nat) (y5 : Nat) (y6 : Nat) (y7 : Nat) (y8 : Nat) (y9 : Nat) (y10 : Nat) (y11 : Nat) (y12 : Nat) (y13 : Nat) (y14 : Nat) (y15 : Nat) (y16 : Nat) (y17 : Nat) (y18 : Nat) (gw : Nat) (gh : Nat) (th : Int32) (to : Int32) (wr : Bool) (k : Nat) (mk : Nat) (ed : Nat → Int32) (du : Nat → Int32) (sh : Nat → Int32) (eb : Nat → Int32) (sb : Nat → Int32) (nu : Nat → Int32) (pl : Nat → Int32) (bg : Nat → Int32) (ch : Nat → Int32) (rc : Nat → Int32) (t : Nat)  (hg1 : 1 ≤ gw) (hh1 : 1 ≤ gh) (hg8 : gw ≤ 8) (hh8 : gh ≤ 8) (hk : k < 900) (htm : t + (dIt (rL (pBo gw gh ed) (gw + gh - 2) (gw + gh - 2))).length ≤ 4000) (ht : bg k = nI t) : wrM l yX6_borders wsX6_borders ({ frames := 3, cells := 0, slots := 0, locals := 67 }) E sz [.ref q] [(q, .inr (7, [.int th, .int (nI gw), .int (nI gh), .ref y1, .ref y2, .ref y3, .int to, .int (b2i wr), .ref y4, .ref y5, .int (nI k), .ref y6, .ref y7, .ref y8, .ref y9, .int (nI mk), .ref y10, .ref y11, .ref y12, .ref y13, .ref y14, .ref y15, .ref y16, .ref y17, .ref y18])), (y1, .inl (E.2 0, 128, .inl ed)), (y2, .inl (E.2 0, 64, .inl du)), (y3, .inl (E.2 0, 64, .inl sh)), (y4, .inl (E.2 0, 128, .inl eb)), (y5, .inl (E.2 0, 64, .inl sb)), (y6, .inl (E.2 0, 900, .inl nu)), (y7, .inl (E.2 0, 900, .inl pl)), (y8, .inl (E.2 0, 901, .inl bg)), (y9, .inl (E.2 0, 4000, .inl ch)), (y18, .inl (E.2 1, 64, .inl rc))] (some (.int (b2i (rL (pBo gw gh ed) (gw + gh - 2) (gw + gh - 2)).isSome))) (fun cs' => ∃ rc', cs' = rrRes E q y1 y2 y3 y4 y5 y6 y7 y8 y9 y10 y11 y12 y13 y14 y15 y16 y17 y18 gw gh th to wr k mk ed du sh eb sb nu pl bg ch rc' t (rL (pBo gw gh ed) (gw + gh - 2) (gw + gh - 2))) 0 0 := by
  refine Met.ofW (cc := cX6_borders) (maxL := 7) (ret := (some .boolean)) (by decide) rfl ?_
  intro p e s m args below meth c s₁ B hml hv
  obtain ⟨rfl, hsz, hE, hP, hD0⟩ := hv
  have hx := B.exec
  have hb := B.bytes
  have hr := B.returns
  have hts := atoms_spec (ws := wsX6_borders) B.pre
  have hown : s.vm.findClass RX6 = some m.cls := findClass_of_methodNamed B.named
  have hlocks := B.notSynchronized
  subst hsz
  have hD := hD0.self (sz := s.heap.size)
  generalize hAe : va_A [(q, .inr (7, [.int th, .int (nI gw), .int (nI gh), .ref y1, .ref y2, .ref y3, .int to, .int (b2i wr), .ref y4, .ref y5, .int (nI k), .ref y6, .ref y7, .ref y8, .ref y9, .int (nI mk), .ref y10, .ref y11, .ref y12, .ref y13, .ref y14, .ref y15, .ref y16, .ref y17, .ref y18])), (y1, .inl (E.2 0, 128, .inl ed)), (y2, .inl (E.2 0, 64, .inl du)), (y3, .inl (E.2 0, 64, .inl sh)), (y4, .inl (E.2 0, 128, .inl eb)), (y5, .inl (E.2 0, 64, .inl sb)), (y6, .inl (E.2 0, 900, .inl nu)), (y7, .inl (E.2 0, 900, .inl pl)), (y8, .inl (E.2 0, 901, .inl bg)), (y9, .inl (E.2 0, 4000, .inl ch)), (y18, .inl (E.2 1, 64, .inl rc))] s.heap.size = A at hD ⊢
  have hA : ∀ q : Nat, s.heap.size ≤ q → A q := fun q h => by rw [← hAe]; exact Or.inr h
  have hS : va_S A s.heap s.heap [] := va_S.rf
  have hP : va_P E.1 vwCl [(q, .inr (7, [.int th, .int (nI gw), .int (nI gh), .ref y1, .ref y2, .ref y3, .int to, .int (b2i wr), .ref y4, .ref y5, .int (nI k), .ref y6, .ref y7, .ref y8, .ref y9, .int (nI mk), .ref y10, .ref y11, .ref y12, .ref y13, .ref y14, .ref y15, .ref y16, .ref y17, .ref y18])), (y1, .inl (E.2 0, 128, .inl ed)), (y2, .inl (E.2 0, 64, .inl du)), (y3, .inl (E.2 0, 64, .inl sh)), (y4, .inl (E.2 0, 128, .inl eb)), (y5, .inl (E.2 0, 64, .inl sb)), (y6, .inl (E.2 0, 900, .inl nu)), (y7, .inl (E.2 0, 900, .inl pl)), (y8, .inl (E.2 0, 901, .inl bg)), (y9, .inl (E.2 0, 4000, .inl ch)), (y18, .inl (E.2 1, 64, .inl rc))] s.heap := hP
  have hl := lv_entry ([.ref q]) (n := 7) (Nat.le_of_ble_eq_true rfl)
  rw [lg_entry_eq]
  generalize (lg_sl ([.ref q]) ++ List.replicate (7 - (lg_sl ([.ref q])).length) Slot.unset).toArray = ls at hl ⊢
  have hl : lv_has ls 7 [(0, .ref q)] := hl
  have hf_69 := hts (.fieldLink RX6 69 "LoopRegionsModel" "width" "I") (by decide +kernel)
  have hf_7 := hts (.fieldLink RX6 7 "LoopRegionsModel" "edges" "[I") (by decide +kernel)
  have hf_72 := hts (.fieldLink RX6 72 "LoopRegionsModel" "height" "I") (by decide +kernel)
  have hi_RX6 : ∀ w ∈ wsX60, w ∈ wsX6_borders := by decide +kernel
  have hN : gw * gh ≤ 64 := Nat.mul_le_mul hg8 hh8
  have hN1 : 1 ≤ gw * gh := Nat.mul_le_mul hg1 hh1
  refine lv_iconst (v := 0) hx hb dX6_borders_0 (by decide) ?_
  refine lv_istore_n (lv' := [(1, .int 0), (0, .ref q)]) hx hb dX6_borders_1 rfl hl (by decide) rfl (fun ls hl => ?_)
  refine W_loopR (σ := Int32) (J := 2) (nL := 7) (fun n9 x => ∃ k9, n9 = k9 + 1 ∧ k9 ≤ gw + gh - 2 ∧ x = nI (gw + gh - 2 - k9) ∧ rL (pBo gw gh ed) (gw + gh - 2) k9 = rL (pBo gw gh ed) (gw + gh - 2) (gw + gh - 2)) (fun x => [(1, .int x), (0, .ref q)]) (fun x h => by obtain ⟨k9, h, _⟩ := h; exact absurd h (by omega)) (fun n_2 ih_2 x ls hI_2 hl => ?_) (gw + gh - 2 + 1) 0 (⟨gw + gh - 2, rfl, Nat.le_refl _, by rw [Nat.sub_self]; rfl, rfl⟩) (lv_sub hl [0, 1] rfl)
  obtain ⟨x_2_, rfl⟩ : ∃ z, z = x := ⟨_, rfl⟩
  try dsimp only at hI_2
  have hl : lv_has ls 7 [(1, .int x_2_), (0, .ref q)] := hl
  obtain ⟨k9, hk_2, hN_2, rfl, hv_2⟩ := hI_2
  obtain rfl : n_2 = k9 := Nat.succ.inj hk_2
  have hl : lv_has ls 7 [(1, .int (nI (gw + gh - 2 - n_2))), (0, .ref q)] := hl
  refine lv_iload_n hx hb dX6_borders_2 rfl (lv_at hl 0 rfl) ?_
  refine lv_aload_n hx hb dX6_borders_3 rfl (lv_at hl 1 rfl) ?_
  refine va_get (D := E.1) (ci := 7) (v := .int (nI gw)) (C := RX6) (T := TX6) (N := 25) hx hb hts hi_RX6 hown hE.1 hP 0 rfl rfl 1 (by decide) hf_69 (fun _ h9 => h9) rfl dX6_borders_4 ?_
  refine lv_aload_n hx hb dX6_borders_7 rfl (lv_at hl 1 rfl) ?_
  refine va_get (D := E.1) (ci := 7) (v := .int (nI gh)) (C := RX6) (T := TX6) (N := 25) hx hb hts hi_RX6 hown hE.1 hP 0 rfl rfl 2 (by decide) hf_72 (fun _ h9 => h9) rfl dX6_borders_8 ?_
  refine lv_iadd hx hb dX6_borders_11 ?_
  refine lv_eqi (show ((nI gw) + (nI gh) : Int32) = nI (gw + gh) from nI_add gw gh) ?_
  refine lv_iconst (v := 2) hx hb dX6_borders_12 (by decide) ?_
  refine lv_isub hx hb dX6_borders_13 ?_
  refine lv_eqi (show ((nI (gw + gh)) - 2 : Int32) = nI ((gw + gh) - 2) from pk_sub (a := (gw + gh)) (b := 2) (by omega)) ?_
  refine lv_icmp_ge (tgt := 210) hx hb dX6_borders_14 (by decide) (fun c_14 => ?_) (fun c_14 => ?_)
  · skip
    have m_14 : ((gw + gh) - 2) ≤ (gw + gh - 2 - n_2) := (nI_leI (a := ((gw + gh) - 2)) (b := (gw + gh - 2 - n_2)) (by omega) (by omega)).mp c_14
    have k_14 : ¬ (gw + gh - 2 - n_2) < ((gw + gh) - 2) := Nat.not_lt.mpr m_14
    have hx_2 : rL (pBo gw gh ed) (gw + gh - 2) (gw + gh - 2) = none := by have h0 : n_2 = 0 := (by omega); subst h0; rw [← hv_2]; rfl
    have hd : rL (pBo gw gh ed) (gw + gh - 2) (gw + gh - 2) = none := hx_2
    refine lv_iconst (v := 0) hx hb dX6_borders_210 (by decide) ?_
    exact W.zret (v := 0) hx hb hr (rfl) (fun t9 ht9 hW => ⟨⟨by rw [hd]; rfl, [(q, .inr (7, [.int th, .int (nI gw), .int (nI gh), .ref y1, .ref y2, .ref y3, .int to, .int (b2i wr), .ref y4, .ref y5, .int (nI k), .ref y6, .ref y7, .ref y8, .ref y9, .int (nI mk), .ref y10, .ref y11, .ref y12, .ref y13, .ref y14, .ref y15, .ref y16, .ref y17, .ref y18])), (y1, .inl (E.2 0, 128, .inl ed)), (y2, .inl (E.2 0, 64, .inl du)), (y3, .inl (E.2 0, 64, .inl sh)), (y4, .inl (E.2 0, 128, .inl eb)), (y5, .inl (E.2 0, 64, .inl sb)), (y6, .inl (E.2 0, 900, .inl nu)), (y7, .inl (E.2 0, 900, .inl pl)), (y8, .inl (E.2 0, 901, .inl bg)), (y9, .inl (E.2 0, 4000, .inl ch)), (y18, .inl (E.2 1, 64, .inl rc))], ⟨_, by rw [hd]; rfl⟩, by rw [ht9]; exact hP, hD⟩, hS.F ht9⟩) hS.2.2 dX6_borders_211
  · skip
    have m_14 : ¬ ((gw + gh) - 2) ≤ (gw + gh - 2 - n_2) := fun q => c_14 ((nI_leI (a := ((gw + gh) - 2)) (b := (gw + gh - 2 - n_2)) (by omega) (by omega)).mpr q)
    have k_14 : (gw + gh - 2 - n_2) < ((gw + gh) - 2) := Nat.lt_of_not_le m_14
    obtain ⟨j_2, rfl⟩ : ∃ j, n_2 = j + 1 := ⟨n_2 - 1, by omega⟩
    obtain ⟨i_2, hi_2⟩ : ∃ i, i = gw + gh - 2 - (j_2 + 1) := ⟨_, rfl⟩
    have hib_2 : i_2 < gw + gh - 2 := by omega
    rw [← hi_2] at hl
    have hl : lv_has ls 7 [(1, .int (nI i_2)), (0, .ref q)] := hl
    refine lv_iconst (v := 0) hx hb dX6_borders_17 (by decide) ?_
    refine lv_istore_n (lv' := [(2, .int 0), (1, .int (nI i_2)), (0, .ref q)]) hx hb dX6_borders_18 rfl hl (by decide) rfl (fun ls hl => ?_)
    refine lv_iconst (v := 0) hx hb dX6_borders_19 (by decide) ?_
    refine lv_istore_n (lv' := [(3, .int 0), (2, .int 0), (1, .int (nI i_2)), (0, .ref q)]) hx hb dX6_borders_20 rfl hl (by decide) rfl (fun ls hl => ?_)
    refine lv_iconst (v := (-1)) hx hb dX6_borders_21 (by decide) ?_
    refine lv_istore (lv' := [(4, .int (-1)), (3, .int 0), (2, .int 0), (1, .int (nI i_2)), (0, .ref q)]) hx hb dX6_borders_22 hl (by decide) rfl (fun ls hl => ?_)
    refine lv_iconst (v := 0) hx hb dX6_borders_24 (by decide) ?_
    refine lv_istore (lv' := [(5, .int 0), (4, .int (-1)), (3, .int 0), (2, .int 0), (1, .int (nI i_2)), (0, .ref q)]) hx hb dX6_borders_25 hl (by decide) rfl (fun ls hl => ?_)
    refine W_loopR (σ := Int32 × Int32 × Int32 × Int32) (J := 27) (nL := 7) (fun n9 x => ∃ k9 a9 o9, n9 = k9 + 1 ∧ k9 ≤ 2 * (gw * gh) ∧ x.1 = nI (2 * (gw * gh) - k9) ∧ x.2.1 = nI a9 ∧ x.2.2.1 = nI o9 ∧ bR gw gh ed i_2 k9 (a9, o9, x.2.2.2) = bR gw gh ed i_2 (2 * (gw * gh)) (0, 0, -1) ∧ a9 + k9 ≤ 2 * (gw * gh) ∧ o9 + k9 ≤ 2 * (gw * gh) ∧ (0 < o9 → ∃ f, f < 128 ∧ x.2.2.2 = nI f)) (fun x => [(5, .int x.1), (4, .int x.2.2.2), (3, .int x.2.2.1), (2, .int x.2.1), (1, .int (nI i_2)), (0, .ref q)]) (fun x h => by obtain ⟨k9, a9, o9, h, _⟩ := h; exact absurd h (by omega)) (fun n_27 ih_27 x ls hI_27 hl => ?_) (2 * (gw * gh) + 1) (0, 0, 0, (-1)) (⟨2 * (gw * gh), 0, 0, rfl, Nat.le_refl _, by rw [Nat.sub_self]; rfl, rfl, rfl, rfl, by omega, by omega, fun h => absurd h (by omega)⟩) (lv_sub hl [0, 1, 2, 3, 4, 5] rfl)
    obtain ⟨xe, xa, xo, la⟩ := x
    try dsimp only at hI_27
    have hl : lv_has ls 7 [(5, .int xe), (4, .int la), (3, .int xo), (2, .int xa), (1, .int (nI i_2)), (0, .ref q)] := hl
    obtain ⟨k9, a9, o9, hk_27, hN_27, rfl, rfl, rfl, hv_27, ha9, ho9, hla⟩ := hI_27
    obtain rfl : n_27 = k9 := Nat.succ.inj hk_27
    have hl : lv_has ls 7 [(5, .int (nI (2 * (gw * gh) - n_27))), (4, .int la), (3, .int (nI o9)), (2, .int (nI a9)), (1, .int (nI i_2)), (0, .ref q)] := hl
    refine lv_iload hx hb dX6_borders_27 (lv_at hl 0 rfl) ?_
    refine lv_iconst (v := 2) hx hb dX6_borders_29 (by decide) ?_
    refine lv_aload_n hx hb dX6_borders_30 rfl (lv_at hl 5 rfl) ?_
    refine crVi (As := []) (rest := [.int 2, .int (nI (2 * (gw * gh) - n_27))]) ⟨hx, hb, hml, hown, hts⟩ hE (cX6_all_ct l E q y1 y2 y3 y4 y5 y6 y7 y8 y9 y10 y11 y12 y13 y14 y15 y16 y17 y18 gw gh th to wr k mk) (cwV 0 hts gX6_borders_X6_all rfl rfl rfl (by decide +kernel) ⟨Nat.le_of_ble_eq_true rfl, Nat.le_of_ble_eq_true rfl⟩) (hP.sub (ws' := [(q, .inr (7, [.int th, .int (nI gw), .int (nI gh), .ref y1, .ref y2, .ref y3, .int to, .int (b2i wr), .ref y4, .ref y5, .int (nI k), .ref y6, .ref y7, .ref y8, .ref y9, .int (nI mk), .ref y10, .ref y11, .ref y12, .ref y13, .ref y14, .ref y15, .ref y16, .ref y17, .ref y18]))]) [0] rfl) (va_recv hE.1 hP (ci := 7) (q0 := 0) rfl rfl) rfl hl.1 rfl (Nat.le_of_ble_eq_true rfl) dX6_borders_31 ⟨Nat.zero_le _, Nat.zero_le _⟩ ?_
    refine lv_imul hx hb dX6_borders_34 ?_
    refine lv_eqi (show (2 * (nI (gw * gh)) : Int32) = nI (2 * (gw * gh)) from pk_mul 2 (gw * gh)) ?_
    refine lv_icmp_ge (tgt := 158) hx hb dX6_borders_35 (by decide) (fun c_35 => ?_) (fun c_35 => ?_)
    · skip
      have m_35 : (2 * (gw * gh)) ≤ (2 * (gw * gh) - n_27) := (nI_leI (a := (2 * (gw * gh))) (b := (2 * (gw * gh) - n_27)) (by omega) (by omega)).mp c_35
      have k_35 : ¬ (2 * (gw * gh) - n_27) < (2 * (gw * gh)) := Nat.not_lt.mpr m_35
      obtain rfl : n_27 = 0 := by omega
      have hB : bR gw gh ed i_2 (2 * (gw * gh)) (0, 0, -1) = (a9, o9, la) := hv_27.symm
      refine lv_iload_n hx hb dX6_borders_158 rfl (lv_at hl 2 rfl) ?_
      refine lv_if_ne (tgt := 177) hx hb dX6_borders_159 (by decide) (fun c_159 => ?_) (fun c_159 => ?_)
      · skip
        have m_159 : ¬ o9 = 0 := fun q => c_159 ((nI_eq (a := o9) (b := 0) (by omega) (by omega)).mpr q)
        refine lv_iload_n hx hb dX6_borders_177 rfl (lv_at hl 2 rfl) ?_
        refine lv_iconst (v := 1) hx hb dX6_borders_178 (by decide) ?_
        refine lv_icmp_ne (tgt := 204) hx hb dX6_borders_179 (by decide) (fun c_179 => ?_) (fun c_179 => ?_)
        · skip
          have m_179 : ¬ o9 = 1 := fun q => c_179 ((nI_eq (a := o9) (b := 1) (by omega) (by omega)).mpr q)
          clear hla
          rw [rL_no hi_2 (show pBo gw gh ed i_2 = none by rw [pBo, hB]; dsimp only; rw [if_neg (fun h => m_159 h.1), if_neg m_179])] at hv_2
          refine lv_iinc (v := nI (i_2 + 1)) (lv' := [(1, .int (nI (i_2 + 1))), (5, .int (nI (2 * (gw * gh) - 0))), (4, .int la), (3, .int (nI o9)), (2, .int (nI a9)), (0, .ref q)]) hx hb dX6_borders_204 hl (k := 4) rfl (nI_1 _) (by decide) rfl (fun ls hl => ?_)
          refine lv_goto (tgt := 2) hx hb dX6_borders_207 (by decide) ?_
          exact ih_2 (nI (i_2 + 1)) ls (⟨j_2, rfl, by omega, congrArg nI (by omega), hv_2⟩) (lv_sub hl [0, 5] rfl)
        · skip
          have m_179 : o9 = 1 := (nI_eq (a := o9) (b := 1) (by omega) (by omega)).mp c_179
          obtain ⟨f9, hf9, hla9⟩ := hla (by omega)
          have hp : pBo gw gh ed i_2 = some (7, nI i_2, 1, decide (a9 % 2 = 1), [nI f9]) := by rw [pBo, hB]; dsimp only; rw [if_neg (fun h => m_159 h.1), if_pos m_179, hla9]
          have hd : rL (pBo gw gh ed) (gw + gh - 2) (gw + gh - 2) = some (7, nI i_2, 1, decide (a9 % 2 = 1), [nI f9]) := by rw [← hv_2, rL_yes hi_2 hp]
          rw [hla9] at hl
          have hl : lv_has ls 7 [(5, .int (nI (2 * (gw * gh) - 0))), (4, .int (nI f9)), (3, .int (nI o9)), (2, .int (nI a9)), (1, .int (nI i_2)), (0, .ref q)] := hl
          refine lv_aload_n hx hb dX6_borders_182 rfl (lv_at hl 5 rfl) ?_
          refine lv_bipush (v := 7) hx hb dX6_borders_183 (by decide) ?_
          refine lv_iload_n hx hb dX6_borders_185 rfl (lv_at hl 4 rfl) ?_
          refine lv_iload hx hb dX6_borders_186 (lv_at hl 1 rfl) ?_
          refine lv_iload_n hx hb dX6_borders_188 rfl (lv_at hl 3 rfl) ?_
          refine lv_iconst (v := 2) hx hb dX6_borders_189 (by decide) ?_
          refine lv_irem hx hb dX6_borders_190 (by decide) ?_
          refine lv_eqi (show ((nI a9) - (nI a9) / 2 * 2 : Int32) = nI (a9 % 2) from pk_rem (a := a9) (d := 2) (by omega) (by omega) (by omega)) ?_
          refine lv_iconst (v := 1) hx hb dX6_borders_191 (by decide) ?_
          refine W_joinI (J := 200) (rest := [.int (nI f9), .int (nI i_2), .int 7, .ref q]) (fun z9 => z9 = sv (decide (a9 % 2 = 1))) (fun v_1 ev_1 => ?_) (fun K_192 => ?_)
          · skip
            subst ev_1
            refine wrV (As := [.int 7, .int (nI i_2), .int (nI f9), .int (sv (decide (a9 % 2 = 1)))]) (rest := []) (wr := [(y2, .inl (E.2 0, 64, .inl du)), (y3, .inl (E.2 0, 64, .inl sh)), (y5, .inl (E.2 0, 64, .inl sb)), (y18, .inl (E.2 1, 64, .inl rc))]) ⟨hx, hb, hml, hown, hts⟩ hE (cX6_setOne_ct l E s.heap.size q y1 y2 y3 y4 y5 y6 y7 y8 y9 y10 y11 y12 y13 y14 y15 y16 y17 y18 gw gh th to wr k mk ed eb nu pl bg ch t 7 (nI i_2) f9 (decide (a9 % 2 = 1)) (by first | assumption | omega | (subst_vars; assumption)) (by first | assumption | omega | (subst_vars; assumption)) (by rw [hd] at htm; exact htm) (by first | assumption | omega | (subst_vars; assumption))) (cwV 4 hts gX6_borders_X6_setOne rfl rfl rfl (by decide +kernel) ⟨Nat.le_of_ble_eq_true rfl, Nat.le_of_ble_eq_true rfl⟩) hP hD hS hA [0, 1, 4, 6, 7, 8, 9] [2, 3, 5, 10] rfl rfl (by decide) (by decide) (hP.sub (ws' := [(q, .inr (7, [.int th, .int (nI gw), .int (nI gh), .ref y1, .ref y2, .ref y3, .int to, .int (b2i wr), .ref y4, .ref y5, .int (nI k), .ref y6, .ref y7, .ref y8, .ref y9, .int (nI mk), .ref y10, .ref y11, .ref y12, .ref y13, .ref y14, .ref y15, .ref y16, .ref y17, .ref y18])), (y1, .inl (E.2 0, 128, .inl ed)), (y4, .inl (E.2 0, 128, .inl eb)), (y6, .inl (E.2 0, 900, .inl nu)), (y7, .inl (E.2 0, 900, .inl pl)), (y8, .inl (E.2 0, 901, .inl bg)), (y9, .inl (E.2 0, 4000, .inl ch))]) [0, 1, 4, 6, 7, 8, 9] rfl) (hD.sub (ws' := [(q, .inr (7, [.int th, .int (nI gw), .int (nI gh), .ref y1, .ref y2, .ref y3, .int to, .int (b2i wr), .ref y4, .ref y5, .int (nI k), .ref y6, .ref y7, .ref y8, .ref y9, .int (nI mk), .ref y10, .ref y11, .ref y12, .ref y13, .ref y14, .ref y15, .ref y16, .ref y17, .ref y18])), (y1, .inl (E.2 0, 128, .inl ed)), (y4, .inl (E.2 0, 128, .inl eb)), (y6, .inl (E.2 0, 900, .inl nu)), (y7, .inl (E.2 0, 900, .inl pl)), (y8, .inl (E.2 0, 901, .inl bg)), (y9, .inl (E.2 0, 4000, .inl ch))]) [0, 1, 4, 6, 7, 8, 9] (by decide) rfl) (va_recv hE.1 hP (ci := 7) (q0 := 0) rfl rfl) rfl hl.1 rfl (Nat.le_of_ble_eq_true rfl) dX6_borders_200 ⟨Nat.zero_le _, Nat.zero_le _⟩ (fun cs_ H locs h_2 hP hD hS => ?_)
            subst h_2
            have hP : va_P E.1 vwCl [(q, .inr (7, [.int th, .int (nI gw), .int (nI gh), .ref y1, .ref y2, .ref y3, .int to, .int (b2i wr), .ref y4, .ref y5, .int (nI (k + 1)), .ref y6, .ref y7, .ref y8, .ref y9, .int (nI mk), .ref y10, .ref y11, .ref y12, .ref y13, .ref y14, .ref y15, .ref y16, .ref y17, .ref y18])), (y1, .inl (E.2 0, 128, .inl (edS (decide (a9 % 2 = 1)) ed [nI f9]))), (y2, .inl (E.2 0, 64, .inl du)), (y3, .inl (E.2 0, 64, .inl sh)), (y4, .inl (E.2 0, 128, .inl (byS k eb [nI f9]))), (y5, .inl (E.2 0, 64, .inl sb)), (y6, .inl (E.2 0, 900, .inl (upd nu k 7))), (y7, .inl (E.2 0, 900, .inl (upd pl k (nI i_2)))), (y8, .inl (E.2 0, 901, .inl (upd bg (k + 1) (nI (t + [nI f9].length))))), (y9, .inl (E.2 0, 4000, .inl (chW (decide (a9 % 2 = 1)) ch t [nI f9]))), (y18, .inl (E.2 1, 64, .inl rc))] H := hP.sub [4, 5, 0, 1, 6, 2, 7, 8, 9, 10, 3] rfl
            have hD : va_D A [(q, .inr (7, [.int th, .int (nI gw), .int (nI gh), .ref y1, .ref y2, .ref y3, .int to, .int (b2i wr), .ref y4, .ref y5, .int (nI (k + 1)), .ref y6, .ref y7, .ref y8, .ref y9, .int (nI mk), .ref y10, .ref y11, .ref y12, .ref y13, .ref y14, .ref y15, .ref y16, .ref y17, .ref y18])), (y1, .inl (E.2 0, 128, .inl (edS (decide (a9 % 2 = 1)) ed [nI f9]))), (y2, .inl (E.2 0, 64, .inl du)), (y3, .inl (E.2 0, 64, .inl sh)), (y4, .inl (E.2 0, 128, .inl (byS k eb [nI f9]))), (y5, .inl (E.2 0, 64, .inl sb)), (y6, .inl (E.2 0, 900, .inl (upd nu k 7))), (y7, .inl (E.2 0, 900, .inl (upd pl k (nI i_2)))), (y8, .inl (E.2 0, 901, .inl (upd bg (k + 1) (nI (t + [nI f9].length))))), (y9, .inl (E.2 0, 4000, .inl (chW (decide (a9 % 2 = 1)) ch t [nI f9]))), (y18, .inl (E.2 1, 64, .inl rc))] := hD.sub [4, 5, 0, 1, 6, 2, 7, 8, 9, 10, 3] (by decide) rfl
            exact W.zret (v := 1) hx hb hr (rfl) (fun t9 ht9 hW => ⟨⟨by rw [hd]; rfl, [(q, .inr (7, [.int th, .int (nI gw), .int (nI gh), .ref y1, .ref y2, .ref y3, .int to, .int (b2i wr), .ref y4, .ref y5, .int (nI (k + 1)), .ref y6, .ref y7, .ref y8, .ref y9, .int (nI mk), .ref y10, .ref y11, .ref y12, .ref y13, .ref y14, .ref y15, .ref y16, .ref y17, .ref y18])), (y1, .inl (E.2 0, 128, .inl (edS (decide (a9 % 2 = 1)) ed [nI f9]))), (y2, .inl (E.2 0, 64, .inl du)), (y3, .inl (E.2 0, 64, .inl sh)), (y4, .inl (E.2 0, 128, .inl (byS k eb [nI f9]))), (y5, .inl (E.2 0, 64, .inl sb)), (y6, .inl (E.2 0, 900, .inl (upd nu k 7))), (y7, .inl (E.2 0, 900, .inl (upd pl k (nI i_2)))), (y8, .inl (E.2 0, 901, .inl (upd bg (k + 1) (nI (t + [nI f9].length))))), (y9, .inl (E.2 0, 4000, .inl (chW (decide (a9 % 2 = 1)) ch t [nI f9]))), (y18, .inl (E.2 1, 64, .inl rc))], ⟨_, by rw [hd]; rfl⟩, by rw [ht9]; exact hP, hD⟩, hS.F ht9⟩) hS.2.2 dX6_borders_203
          · skip
            refine lv_icmp_ne (tgt := 199) hx hb dX6_borders_192 (by decide) (fun c_192 => ?_) (fun c_192 => ?_)
            · skip
              have m_192 : ¬ (a9 % 2) = 1 := fun q => c_192 ((nI_eq (a := (a9 % 2)) (b := 1) (by omega) (by omega)).mpr q)
              refine lv_iconst (v := 2) hx hb dX6_borders_199 (by decide) ?_
              exact K_192 _ (by simp only [m_192, decide_true, decide_false]; rfl)
            · skip
              have m_192 : (a9 % 2) = 1 := (nI_eq (a := (a9 % 2)) (b := 1) (by omega) (by omega)).mp c_192
              refine lv_iconst (v := 1) hx hb dX6_borders_195 (by decide) ?_
              refine lv_goto (tgt := 200) hx hb dX6_borders_196 (by decide) ?_
              exact K_192 _ (by simp only [m_192, decide_true, decide_false]; rfl)
      · skip
        have m_159 : o9 = 0 := (nI_eq (a := o9) (b := 0) (by omega) (by omega)).mp c_159
        refine lv_iload_n hx hb dX6_borders_162 rfl (lv_at hl 3 rfl) ?_
        refine lv_iconst (v := 2) hx hb dX6_borders_163 (by decide) ?_
        refine lv_irem hx hb dX6_borders_164 (by decide) ?_
        refine lv_eqi (show ((nI a9) - (nI a9) / 2 * 2 : Int32) = nI (a9 % 2) from pk_rem (a := a9) (d := 2) (by omega) (by omega) (by omega)) ?_
        refine lv_iconst (v := 1) hx hb dX6_borders_165 (by decide) ?_
        refine lv_icmp_ne (tgt := 177) hx hb dX6_borders_166 (by decide) (fun c_166 => ?_) (fun c_166 => ?_)
        · skip
          have m_166 : ¬ (a9 % 2) = 1 := fun q => c_166 ((nI_eq (a := (a9 % 2)) (b := 1) (by omega) (by omega)).mpr q)
          refine lv_iload_n hx hb dX6_borders_177 rfl (lv_at hl 2 rfl) ?_
          refine lv_iconst (v := 1) hx hb dX6_borders_178 (by decide) ?_
          refine lv_icmp_ne (tgt := 204) hx hb dX6_borders_179 (by decide) (fun c_179 => ?_) (fun c_179 => ?_)
          · skip
            have m_179 : ¬ o9 = 1 := fun q => c_179 ((nI_eq (a := o9) (b := 1) (by omega) (by omega)).mpr q)
            clear hla
            rw [rL_no hi_2 (show pBo gw gh ed i_2 = none by rw [pBo, hB]; dsimp only; rw [if_neg (fun h => m_166 h.2), if_neg m_179])] at hv_2
            refine lv_iinc (v := nI (i_2 + 1)) (lv' := [(1, .int (nI (i_2 + 1))), (5, .int (nI (2 * (gw * gh) - 0))), (4, .int la), (3, .int (nI o9)), (2, .int (nI a9)), (0, .ref q)]) hx hb dX6_borders_204 hl (k := 4) rfl (nI_1 _) (by decide) rfl (fun ls hl => ?_)
            refine lv_goto (tgt := 2) hx hb dX6_borders_207 (by decide) ?_
            exact ih_2 (nI (i_2 + 1)) ls (⟨j_2, rfl, by omega, congrArg nI (by omega), hv_2⟩) (lv_sub hl [0, 5] rfl)
          · skip
            have m_179 : o9 = 1 := (nI_eq (a := o9) (b := 1) (by omega) (by omega)).mp c_179
            obtain ⟨f9, hf9, hla9⟩ := hla (by omega)
            have hp : pBo gw gh ed i_2 = some (7, nI i_2, 1, decide (a9 % 2 = 1), [nI f9]) := by rw [pBo, hB]; dsimp only; rw [if_neg (fun h => m_166 h.2), if_pos m_179, hla9]
            have hd : rL (pBo gw gh ed) (gw + gh - 2) (gw + gh - 2) = some (7, nI i_2, 1, decide (a9 % 2 = 1), [nI f9]) := by rw [← hv_2, rL_yes hi_2 hp]
            rw [hla9] at hl
            have hl : lv_has ls 7 [(5, .int (nI (2 * (gw * gh) - 0))), (4, .int (nI f9)), (3, .int (nI o9)), (2, .int (nI a9)), (1, .int (nI i_2)), (0, .ref q)] := hl
            refine lv_aload_n hx hb dX6_borders_182 rfl (lv_at hl 5 rfl) ?_
            refine lv_bipush (v := 7) hx hb dX6_borders_183 (by decide) ?_
            refine lv_iload_n hx hb dX6_borders_185 rfl (lv_at hl 4 rfl) ?_
            refine lv_iload hx hb dX6_borders_186 (lv_at hl 1 rfl) ?_
            refine lv_iload_n hx hb dX6_borders_188 rfl (lv_at hl 3 rfl) ?_
            refine lv_iconst (v := 2) hx hb dX6_borders_189 (by decide) ?_
            refine lv_irem hx hb dX6_borders_190 (by decide) ?_
            refine lv_eqi (show ((nI a9) - (nI a9) / 2 * 2 : Int32) = nI (a9 % 2) from pk_rem (a := a9) (d := 2) (by omega) (by omega) (by omega)) ?_
            refine lv_iconst (v := 1) hx hb dX6_borders_191 (by decide) ?_
            refine W_joinI (J := 200) (rest := [.int (nI f9), .int (nI i_2), .int 7, .ref q]) (fun z9 => z9 = sv (decide (a9 % 2 = 1))) (fun v_3 ev_3 => ?_) (fun K_192 => ?_)
            · skip
              subst ev_3
              refine wrV (As := [.int 7, .int (nI i_2), .int (nI f9), .int (sv (decide (a9 % 2 = 1)))]) (rest := []) (wr := [(y2, .inl (E.2 0, 64, .inl du)), (y3, .inl (E.2 0, 64, .inl sh)), (y5, .inl (E.2 0, 64, .inl sb)), (y18, .inl (E.2 1, 64, .inl rc))]) ⟨hx, hb, hml, hown, hts⟩ hE (cX6_setOne_ct l E s.heap.size q y1 y2 y3 y4 y5 y6 y7 y8 y9 y10 y11 y12 y13 y14 y15 y16 y17 y18 gw gh th to wr k mk ed eb nu pl bg ch t 7 (nI i_2) f9 (decide (a9 % 2 = 1)) (by first | assumption | omega | (subst_vars; assumption)) (by first | assumption | omega | (subst_vars; assumption)) (by rw [hd] at htm; exact htm) (by first | assumption | omega | (subst_vars; assumption))) (cwV 4 hts gX6_borders_X6_setOne rfl rfl rfl (by decide +kernel) ⟨Nat.le_of_ble_eq_true rfl, Nat.le_of_ble_eq_true rfl⟩) hP hD hS hA [0, 1, 4, 6, 7, 8, 9] [2, 3, 5, 10] rfl rfl (by decide) (by decide) (hP.sub (ws' := [(q, .inr (7, [.int th, .int (nI gw), .int (nI gh), .ref y1, .ref y2, .ref y3, .int to, .int (b2i wr), .ref y4, .ref y5, .int (nI k), .ref y6, .ref y7, .ref y8, .ref y9, .int (nI mk), .ref y10, .ref y11, .ref y12, .ref y13, .ref y14, .ref y15, .ref y16, .ref y17, .ref y18])), (y1, .inl (E.2 0, 128, .inl ed)), (y4, .inl (E.2 0, 128, .inl eb)), (y6, .inl (E.2 0, 900, .inl nu)), (y7, .inl (E.2 0, 900, .inl pl)), (y8, .inl (E.2 0, 901, .inl bg)), (y9, .inl (E.2 0, 4000, .inl ch))]) [0, 1, 4, 6, 7, 8, 9] rfl) (hD.sub (ws' := [(q, .inr (7, [.int th, .int (nI gw), .int (nI gh), .ref y1, .ref y2, .ref y3, .int to, .int (b2i wr), .ref y4, .ref y5, .int (nI k), .ref y6, .ref y7, .ref y8, .ref y9, .int (nI mk), .ref y10, .ref y11, .ref y12, .ref y13, .ref y14, .ref y15, .ref y16, .ref y17, .ref y18])), (y1, .inl (E.2 0, 128, .inl ed)), (y4, .inl (E.2 0, 128, .inl eb)), (y6, .inl (E.2 0, 900, .inl nu)), (y7, .inl (E.2 0, 900, .inl pl)), (y8, .inl (E.2 0, 901, .inl bg)), (y9, .inl (E.2 0, 4000, .inl ch))]) [0, 1, 4, 6, 7, 8, 9] (by decide) rfl) (va_recv hE.1 hP (ci := 7) (q0 := 0) rfl rfl) rfl hl.1 rfl (Nat.le_of_ble_eq_true rfl) dX6_borders_200 ⟨Nat.zero_le _, Nat.zero_le _⟩ (fun cs_ H locs h_4 hP hD hS => ?_)
              subst h_4
              have hP : va_P E.1 vwCl [(q, .inr (7, [.int th, .int (nI gw), .int (nI gh), .ref y1, .ref y2, .ref y3, .int to, .int (b2i wr), .ref y4, .ref y5, .int (nI (k + 1)), .ref y6, .ref y7, .ref y8, .ref y9, .int (nI mk), .ref y10, .ref y11, .ref y12, .ref y13, .ref y14, .ref y15, .ref y16, .ref y17, .ref y18])), (y1, .inl (E.2 0, 128, .inl (edS (decide (a9 % 2 = 1)) ed [nI f9]))), (y2, .inl (E.2 0, 64, .inl du)), (y3, .inl (E.2 0, 64, .inl sh)), (y4, .inl (E.2 0, 128, .inl (byS k eb [nI f9]))), (y5, .inl (E.2 0, 64, .inl sb)), (y6, .inl (E.2 0, 900, .inl (upd nu k 7))), (y7, .inl (E.2 0, 900, .inl (upd pl k (nI i_2)))), (y8, .inl (E.2 0, 901, .inl (upd bg (k + 1) (nI (t + [nI f9].length))))), (y9, .inl (E.2 0, 4000, .inl (chW (decide (a9 % 2 = 1)) ch t [nI f9]))), (y18, .inl (E.2 1, 64, .inl rc))] H := hP.sub [4, 5, 0, 1, 6, 2, 7, 8, 9, 10, 3] rfl
              have hD : va_D A [(q, .inr (7, [.int th, .int (nI gw), .int (nI gh), .ref y1, .ref y2, .ref y3, .int to, .int (b2i wr), .ref y4, .ref y5, .int (nI (k + 1)), .ref y6, .ref y7, .ref y8, .ref y9, .int (nI mk), .ref y10, .ref y11, .ref y12, .ref y13, .ref y14, .ref y15, .ref y16, .ref y17, .ref y18])), (y1, .inl (E.2 0, 128, .inl (edS (decide (a9 % 2 = 1)) ed [nI f9]))), (y2, .inl (E.2 0, 64, .inl du)), (y3, .inl (E.2 0, 64, .inl sh)), (y4, .inl (E.2 0, 128, .inl (byS k eb [nI f9]))), (y5, .inl (E.2 0, 64, .inl sb)), (y6, .inl (E.2 0, 900, .inl (upd nu k 7))), (y7, .inl (E.2 0, 900, .inl (upd pl k (nI i_2)))), (y8, .inl (E.2 0, 901, .inl (upd bg (k + 1) (nI (t + [nI f9].length))))), (y9, .inl (E.2 0, 4000, .inl (chW (decide (a9 % 2 = 1)) ch t [nI f9]))), (y18, .inl (E.2 1, 64, .inl rc))] := hD.sub [4, 5, 0, 1, 6, 2, 7, 8, 9, 10, 3] (by decide) rfl
              exact W.zret (v := 1) hx hb hr (rfl) (fun t9 ht9 hW => ⟨⟨by rw [hd]; rfl, [(q, .inr (7, [.int th, .int (nI gw), .int (nI gh), .ref y1, .ref y2, .ref y3, .int to, .int (b2i wr), .ref y4, .ref y5, .int (nI (k + 1)), .ref y6, .ref y7, .ref y8, .ref y9, .int (nI mk), .ref y10, .ref y11, .ref y12, .ref y13, .ref y14, .ref y15, .ref y16, .ref y17, .ref y18])), (y1, .inl (E.2 0, 128, .inl (edS (decide (a9 % 2 = 1)) ed [nI f9]))), (y2, .inl (E.2 0, 64, .inl du)), (y3, .inl (E.2 0, 64, .inl sh)), (y4, .inl (E.2 0, 128, .inl (byS k eb [nI f9]))), (y5, .inl (E.2 0, 64, .inl sb)), (y6, .inl (E.2 0, 900, .inl (upd nu k 7))), (y7, .inl (E.2 0, 900, .inl (upd pl k (nI i_2)))), (y8, .inl (E.2 0, 901, .inl (upd bg (k + 1) (nI (t + [nI f9].length))))), (y9, .inl (E.2 0, 4000, .inl (chW (decide (a9 % 2 = 1)) ch t [nI f9]))), (y18, .inl (E.2 1, 64, .inl rc))], ⟨_, by rw [hd]; rfl⟩, by rw [ht9]; exact hP, hD⟩, hS.F ht9⟩) hS.2.2 dX6_borders_203
            · skip
              refine lv_icmp_ne (tgt := 199) hx hb dX6_borders_192 (by decide) (fun c_192 => ?_) (fun c_192 => ?_)
              · skip
                have m_192 : ¬ (a9 % 2) = 1 := fun q => c_192 ((nI_eq (a := (a9 % 2)) (b := 1) (by omega) (by omega)).mpr q)
                refine lv_iconst (v := 2) hx hb dX6_borders_199 (by decide) ?_
                exact K_192 _ (by simp only [m_192, decide_true, decide_false]; rfl)
              · skip
                have m_192 : (a9 % 2) = 1 := (nI_eq (a := (a9 % 2)) (b := 1) (by omega) (by omega)).mp c_192
                refine lv_iconst (v := 1) hx hb dX6_borders_195 (by decide) ?_
                refine lv_goto (tgt := 200) hx hb dX6_borders_196 (by decide) ?_
                exact K_192 _ (by simp only [m_192, decide_true, decide_false]; rfl)
        · skip
          have m_166 : (a9 % 2) = 1 := (nI_eq (a := (a9 % 2)) (b := 1) (by omega) (by omega)).mp c_166
          have hp : pBo gw gh ed i_2 = some (7, nI i_2, 0, false, []) := by rw [pBo, hB]; dsimp only; rw [if_pos ⟨m_159, m_166⟩]
          have hd : rL (pBo gw gh ed) (gw + gh - 2) (gw + gh - 2) = some (7, nI i_2, 0, false, []) := by rw [← hv_2, rL_yes hi_2 hp]
          refine lv_aload_n hx hb dX6_borders_169 rfl (lv_at hl 5 rfl) ?_
          refine lv_bipush (v := 7) hx hb dX6_borders_170 (by decide) ?_
          refine lv_iload_n hx hb dX6_borders_172 rfl (lv_at hl 4 rfl) ?_
          refine wrV (As := [.int 7, .int (nI i_2)]) (rest := []) (wr := [(y1, .inl (E.2 0, 128, .inl ed)), (y2, .inl (E.2 0, 64, .inl du)), (y3, .inl (E.2 0, 64, .inl sh)), (y4, .inl (E.2 0, 128, .inl eb)), (y5, .inl (E.2 0, 64, .inl sb)), (y9, .inl (E.2 0, 4000, .inl ch)), (y18, .inl (E.2 1, 64, .inl rc))]) ⟨hx, hb, hml, hown, hts⟩ hE (cX6_isWrongAt_ct l E s.heap.size q y1 y2 y3 y4 y5 y6 y7 y8 y9 y10 y11 y12 y13 y14 y15 y16 y17 y18 gw gh th to wr k mk nu pl bg t 7 (nI i_2) (by first | assumption | omega | (subst_vars; assumption)) (by first | assumption | omega | (subst_vars; assumption))) (cwV 2 hts gX6_borders_X6_isWrongAt rfl rfl rfl (by decide +kernel) ⟨Nat.le_of_ble_eq_true rfl, Nat.le_of_ble_eq_true rfl⟩) hP hD hS hA [0, 6, 7, 8] [1, 2, 3, 4, 5, 9, 10] rfl rfl (by decide) (by decide) (hP.sub (ws' := [(q, .inr (7, [.int th, .int (nI gw), .int (nI gh), .ref y1, .ref y2, .ref y3, .int to, .int (b2i wr), .ref y4, .ref y5, .int (nI k), .ref y6, .ref y7, .ref y8, .ref y9, .int (nI mk), .ref y10, .ref y11, .ref y12, .ref y13, .ref y14, .ref y15, .ref y16, .ref y17, .ref y18])), (y6, .inl (E.2 0, 900, .inl nu)), (y7, .inl (E.2 0, 900, .inl pl)), (y8, .inl (E.2 0, 901, .inl bg))]) [0, 6, 7, 8] rfl) (hD.sub (ws' := [(q, .inr (7, [.int th, .int (nI gw), .int (nI gh), .ref y1, .ref y2, .ref y3, .int to, .int (b2i wr), .ref y4, .ref y5, .int (nI k), .ref y6, .ref y7, .ref y8, .ref y9, .int (nI mk), .ref y10, .ref y11, .ref y12, .ref y13, .ref y14, .ref y15, .ref y16, .ref y17, .ref y18])), (y6, .inl (E.2 0, 900, .inl nu)), (y7, .inl (E.2 0, 900, .inl pl)), (y8, .inl (E.2 0, 901, .inl bg))]) [0, 6, 7, 8] (by decide) rfl) (va_recv hE.1 hP (ci := 7) (q0 := 0) rfl rfl) rfl hl.1 rfl (Nat.le_of_ble_eq_true rfl) dX6_borders_173 ⟨Nat.zero_le _, Nat.zero_le _⟩ (fun cs_ H locs h_5 hP hD hS => ?_)
          subst h_5
          have hP : va_P E.1 vwCl [(q, .inr (7, [.int th, .int (nI gw), .int (nI gh), .ref y1, .ref y2, .ref y3, .int to, .int (b2i true), .ref y4, .ref y5, .int (nI (k + 1)), .ref y6, .ref y7, .ref y8, .ref y9, .int (nI mk), .ref y10, .ref y11, .ref y12, .ref y13, .ref y14, .ref y15, .ref y16, .ref y17, .ref y18])), (y1, .inl (E.2 0, 128, .inl ed)), (y2, .inl (E.2 0, 64, .inl du)), (y3, .inl (E.2 0, 64, .inl sh)), (y4, .inl (E.2 0, 128, .inl eb)), (y5, .inl (E.2 0, 64, .inl sb)), (y6, .inl (E.2 0, 900, .inl (upd nu k 7))), (y7, .inl (E.2 0, 900, .inl (upd pl k (nI i_2)))), (y8, .inl (E.2 0, 901, .inl (upd bg (k + 1) (nI t)))), (y9, .inl (E.2 0, 4000, .inl ch)), (y18, .inl (E.2 1, 64, .inl rc))] H := hP.sub [7, 0, 1, 2, 3, 4, 8, 9, 10, 5, 6] rfl
          have hD : va_D A [(q, .inr (7, [.int th, .int (nI gw), .int (nI gh), .ref y1, .ref y2, .ref y3, .int to, .int (b2i true), .ref y4, .ref y5, .int (nI (k + 1)), .ref y6, .ref y7, .ref y8, .ref y9, .int (nI mk), .ref y10, .ref y11, .ref y12, .ref y13, .ref y14, .ref y15, .ref y16, .ref y17, .ref y18])), (y1, .inl (E.2 0, 128, .inl ed)), (y2, .inl (E.2 0, 64, .inl du)), (y3, .inl (E.2 0, 64, .inl sh)), (y4, .inl (E.2 0, 128, .inl eb)), (y5, .inl (E.2 0, 64, .inl sb)), (y6, .inl (E.2 0, 900, .inl (upd nu k 7))), (y7, .inl (E.2 0, 900, .inl (upd pl k (nI i_2)))), (y8, .inl (E.2 0, 901, .inl (upd bg (k + 1) (nI t)))), (y9, .inl (E.2 0, 4000, .inl ch)), (y18, .inl (E.2 1, 64, .inl rc))] := hD.sub [7, 0, 1, 2, 3, 4, 8, 9, 10, 5, 6] (by decide) rfl
          exact W.zret (v := 1) hx hb hr (rfl) (fun t9 ht9 hW => ⟨⟨by rw [hd]; rfl, [(q, .inr (7, [.int th, .int (nI gw), .int (nI gh), .ref y1, .ref y2, .ref y3, .int to, .int (b2i true), .ref y4, .ref y5, .int (nI (k + 1)), .ref y6, .ref y7, .ref y8, .ref y9, .int (nI mk), .ref y10, .ref y11, .ref y12, .ref y13, .ref y14, .ref y15, .ref y16, .ref y17, .ref y18])), (y1, .inl (E.2 0, 128, .inl ed)), (y2, .inl (E.2 0, 64, .inl du)), (y3, .inl (E.2 0, 64, .inl sh)), (y4, .inl (E.2 0, 128, .inl eb)), (y5, .inl (E.2 0, 64, .inl sb)), (y6, .inl (E.2 0, 900, .inl (upd nu k 7))), (y7, .inl (E.2 0, 900, .inl (upd pl k (nI i_2)))), (y8, .inl (E.2 0, 901, .inl (upd bg (k + 1) (nI t)))), (y9, .inl (E.2 0, 4000, .inl ch)), (y18, .inl (E.2 1, 64, .inl rc))], ⟨_, by rw [hd]; rfl⟩, by rw [ht9]; exact hP, hD⟩, hS.F ht9⟩) hS.2.2 dX6_borders_176
    · skip
      have m_35 : ¬ (2 * (gw * gh)) ≤ (2 * (gw * gh) - n_27) := fun q => c_35 ((nI_leI (a := (2 * (gw * gh))) (b := (2 * (gw * gh) - n_27)) (by omega) (by omega)).mpr q)
      have k_35 : (2 * (gw * gh) - n_27) < (2 * (gw * gh)) := Nat.lt_of_not_le m_35
      obtain ⟨j_27, rfl⟩ : ∃ j, n_27 = j + 1 := ⟨n_27 - 1, by omega⟩
      obtain ⟨i_27, hi_27⟩ : ∃ i, i = 2 * (gw * gh) - (j_27 + 1) := ⟨_, rfl⟩
      have hib_27 : i_27 < 2 * (gw * gh) := by omega
      rw [← hi_27] at hl
      have hl : lv_has ls 7 [(5, .int (nI i_27)), (4, .int la), (3, .int (nI o9)), (2, .int (nI a9)), (1, .int (nI i_2)), (0, .ref q)] := hl
      refine lv_aload_n hx hb dX6_borders_38 rfl (lv_at hl 5 rfl) ?_
      refine lv_iload hx hb dX6_borders_39 (lv_at hl 0 rfl) ?_
      refine crVi (As := [.int (nI i_27)]) (rest := []) ⟨hx, hb, hml, hown, hts⟩ hE (cX6_isEdge_ct l E q y1 y2 y3 y4 y5 y6 y7 y8 y9 y10 y11 y12 y13 y14 y15 y16 y17 y18 gw gh th to wr k mk (nI i_27) (by first | assumption | omega | (subst_vars; assumption)) (by first | assumption | omega | (subst_vars; assumption)) (by first | assumption | omega | (subst_vars; assumption)) (by first | assumption | omega | (subst_vars; assumption))) (cwV 1 hts gX6_borders_X6_isEdge rfl rfl rfl (by decide +kernel) ⟨Nat.le_of_ble_eq_true rfl, Nat.le_of_ble_eq_true rfl⟩) (hP.sub (ws' := [(q, .inr (7, [.int th, .int (nI gw), .int (nI gh), .ref y1, .ref y2, .ref y3, .int to, .int (b2i wr), .ref y4, .ref y5, .int (nI k), .ref y6, .ref y7, .ref y8, .ref y9, .int (nI mk), .ref y10, .ref y11, .ref y12, .ref y13, .ref y14, .ref y15, .ref y16, .ref y17, .ref y18]))]) [0] rfl) (va_recv hE.1 hP (ci := 7) (q0 := 0) rfl rfl) rfl hl.1 rfl (Nat.le_of_ble_eq_true rfl) dX6_borders_41 ⟨Nat.zero_le _, Nat.zero_le _⟩ ?_
      refine lv_eqi (congrArg b2i (rIsE_nI (j := i_27) (by omega))) ?_
      refine lv_if_ne (tgt := 50) hx hb dX6_borders_44 (by decide) (fun c_44 => ?_) (fun c_44 => ?_)
      · skip
        refine lv_iload hx hb dX6_borders_50 (lv_at hl 0 rfl) ?_
        refine lv_iconst (v := 2) hx hb dX6_borders_52 (by decide) ?_
        refine lv_irem hx hb dX6_borders_53 (by decide) ?_
        refine lv_eqi (show ((nI i_27) - (nI i_27) / 2 * 2 : Int32) = nI (i_27 % 2) from pk_rem (a := i_27) (d := 2) (by omega) (by omega) (by omega)) ?_
        refine W_joinI (J := 85) (rest := []) (fun z9 => z9 = nI (bOf gw i_27)) (fun v_6 ev_6 => ?_) (fun K_54 => ?_)
        · skip
          refine lv_istore (lv' := [(6, .int v_6), (5, .int (nI i_27)), (4, .int la), (3, .int (nI o9)), (2, .int (nI a9)), (1, .int (nI i_2)), (0, .ref q)]) hx hb dX6_borders_85 hl (by decide) rfl (fun ls hl => ?_)
          obtain rfl : v_6 = nI (bOf gw i_27) := ev_6
          have hbo := bOf_lt (gh := gh) hg1 hg8 (show i_27 < 128 by omega)
          refine lv_iload hx hb dX6_borders_87 (lv_at hl 0 rfl) ?_
          refine lv_iload_n hx hb dX6_borders_89 rfl (lv_at hl 5 rfl) ?_
          refine lv_icmp_eq (tgt := 96) hx hb dX6_borders_90 (by decide) (fun c_90 => ?_) (fun c_90 => ?_)
          · skip
            have m_90 : (bOf gw i_27) = i_2 := (nI_eq (a := (bOf gw i_27)) (b := i_2) (by omega) (by omega)).mp c_90
            have hbi : isEn gw gh i_27 = true ∧ bOf gw i_27 = i_2 := ⟨by rw [b2i_eq0] at c_44; simpa using c_44, m_90⟩
            refine lv_iload_n hx hb dX6_borders_96 rfl (lv_at hl 4 rfl) ?_
            refine lv_aload_n hx hb dX6_borders_97 rfl (lv_at hl 6 rfl) ?_
            refine va_get (D := E.1) (ci := 7) (v := .ref y1) (C := RX6) (T := TX6) (N := 25) hx hb hts hi_RX6 hown hE.1 hP 0 rfl rfl 3 (by decide) hf_7 (fun _ h9 => h9) rfl dX6_borders_98 ?_
            refine lv_iload hx hb dX6_borders_101 (lv_at hl 1 rfl) ?_
            refine va_iald hx hb hE.1 hP 1 0 rfl rfl (show vp_in (nI i_27) 128 from vp_in_nI (by omega) (by decide)) dX6_borders_103 ?_
            refine lv_eqi (congrArg ed (show (nI i_27 : Int32).toNatClampNeg = i_27 from nI_clamp (by omega))) ?_
            refine lv_iconst (v := 1) hx hb dX6_borders_104 (by decide) ?_
            refine W_joinI (J := 113) (rest := [.int (nI a9)]) (fun z9 => z9 = nI (if ed i_27 = 1 then 1 else 0)) (fun v_7 ev_7 => ?_) (fun K_105 => ?_)
            · skip
              subst ev_7
              have hb_113 : (if ed i_27 = 1 then 1 else 0) ≤ 1 := by split <;> omega
              refine lv_iadd hx hb dX6_borders_113 ?_
              refine lv_eqi (show ((nI a9) + (nI (if ed i_27 = 1 then 1 else 0)) : Int32) = nI (a9 + (if ed i_27 = 1 then 1 else 0)) from nI_add a9 (if ed i_27 = 1 then 1 else 0)) ?_
              refine lv_istore_n (lv' := [(2, .int (nI (a9 + (if ed i_27 = 1 then 1 else 0)))), (6, .int (nI (bOf gw i_27))), (5, .int (nI i_27)), (4, .int la), (3, .int (nI o9)), (1, .int (nI i_2)), (0, .ref q)]) hx hb dX6_borders_114 rfl hl (by decide) rfl (fun ls hl => ?_)
              refine lv_iload_n hx hb dX6_borders_115 rfl (lv_at hl 4 rfl) ?_
              refine lv_aload_n hx hb dX6_borders_116 rfl (lv_at hl 6 rfl) ?_
              refine va_get (D := E.1) (ci := 7) (v := .ref y1) (C := RX6) (T := TX6) (N := 25) hx hb hts hi_RX6 hown hE.1 hP 0 rfl rfl 3 (by decide) hf_7 (fun _ h9 => h9) rfl dX6_borders_117 ?_
              refine lv_iload hx hb dX6_borders_120 (lv_at hl 2 rfl) ?_
              refine va_iald hx hb hE.1 hP 1 0 rfl rfl (show vp_in (nI i_27) 128 from vp_in_nI (by omega) (by decide)) dX6_borders_122 ?_
              refine lv_eqi (congrArg ed (show (nI i_27 : Int32).toNatClampNeg = i_27 from nI_clamp (by omega))) ?_
              refine W_joinI (J := 131) (rest := [.int (nI o9)]) (fun z9 => z9 = nI (if ed i_27 = 0 then 1 else 0)) (fun v_8 ev_8 => ?_) (fun K_123 => ?_)
              · skip
                subst ev_8
                have hb_131 : (if ed i_27 = 0 then 1 else 0) ≤ 1 := by split <;> omega
                refine lv_iadd hx hb dX6_borders_131 ?_
                refine lv_eqi (show ((nI o9) + (nI (if ed i_27 = 0 then 1 else 0)) : Int32) = nI (o9 + (if ed i_27 = 0 then 1 else 0)) from nI_add o9 (if ed i_27 = 0 then 1 else 0)) ?_
                refine lv_istore_n (lv' := [(3, .int (nI (o9 + (if ed i_27 = 0 then 1 else 0)))), (2, .int (nI (a9 + (if ed i_27 = 1 then 1 else 0)))), (6, .int (nI (bOf gw i_27))), (5, .int (nI i_27)), (4, .int la), (1, .int (nI i_2)), (0, .ref q)]) hx hb dX6_borders_132 rfl hl (by decide) rfl (fun ls hl => ?_)
                refine lv_aload_n hx hb dX6_borders_133 rfl (lv_at hl 6 rfl) ?_
                refine va_get (D := E.1) (ci := 7) (v := .ref y1) (C := RX6) (T := TX6) (N := 25) hx hb hts hi_RX6 hown hE.1 hP 0 rfl rfl 3 (by decide) hf_7 (fun _ h9 => h9) rfl dX6_borders_134 ?_
                refine lv_iload hx hb dX6_borders_137 (lv_at hl 3 rfl) ?_
                refine va_iald hx hb hE.1 hP 1 0 rfl rfl (show vp_in (nI i_27) 128 from vp_in_nI (by omega) (by decide)) dX6_borders_139 ?_
                refine lv_eqi (congrArg ed (show (nI i_27 : Int32).toNatClampNeg = i_27 from nI_clamp (by omega))) ?_
                refine W_joinI (J := 150) (rest := []) (fun z9 => z9 = if ed i_27 = 0 then nI i_27 else la) (fun v_9 ev_9 => ?_) (fun K_140 => ?_)
                · skip
                  refine lv_istore (lv' := [(4, .int v_9), (3, .int (nI (o9 + (if ed i_27 = 0 then 1 else 0)))), (2, .int (nI (a9 + (if ed i_27 = 1 then 1 else 0)))), (6, .int (nI (bOf gw i_27))), (5, .int (nI i_27)), (1, .int (nI i_2)), (0, .ref q)]) hx hb dX6_borders_150 hl (by decide) rfl (fun ls hl => ?_)
                  refine lv_iinc (v := nI (i_27 + 1)) (lv' := [(5, .int (nI (i_27 + 1))), (4, .int v_9), (3, .int (nI (o9 + (if ed i_27 = 0 then 1 else 0)))), (2, .int (nI (a9 + (if ed i_27 = 1 then 1 else 0)))), (6, .int (nI (bOf gw i_27))), (1, .int (nI i_2)), (0, .ref q)]) hx hb dX6_borders_152 hl (k := 4) rfl (nI_1 _) (by decide) rfl (fun ls hl => ?_)
                  refine lv_goto (tgt := 27) hx hb dX6_borders_155 (by decide) ?_
                  exact ih_27 (nI (i_27 + 1), nI (a9 + (if ed i_27 = 1 then 1 else 0)), nI (o9 + (if ed i_27 = 0 then 1 else 0)), v_9) ls (⟨j_27, a9 + (if ed i_27 = 1 then 1 else 0), o9 + (if ed i_27 = 0 then 1 else 0), rfl, by omega, congrArg nI (by omega), rfl, rfl, by rw [bR_in hi_27 hbi] at hv_27; rw [ev_9]; exact hv_27, by split <;> omega, by split <;> omega, by rw [ev_9]; exact bR_la hla (by omega)⟩) (lv_sub hl [0, 1, 2, 3, 5, 6] rfl)
                · skip
                  refine lv_if_ne (tgt := 148) hx hb dX6_borders_140 (by decide) (fun c_140 => ?_) (fun c_140 => ?_)
                  · skip
                    refine lv_iload hx hb dX6_borders_148 (lv_at hl 4 rfl) ?_
                    exact K_140 _ (by simp only [c_140, if_true, if_false])
                  · skip
                    refine lv_iload hx hb dX6_borders_143 (lv_at hl 3 rfl) ?_
                    refine lv_goto (tgt := 150) hx hb dX6_borders_145 (by decide) ?_
                    exact K_140 _ (by simp only [c_140, if_true, if_false])
              · skip
                refine lv_if_ne (tgt := 130) hx hb dX6_borders_123 (by decide) (fun c_123 => ?_) (fun c_123 => ?_)
                · skip
                  refine lv_iconst (v := 0) hx hb dX6_borders_130 (by decide) ?_
                  exact K_123 _ (by simp only [c_123, if_true, if_false]; rfl)
                · skip
                  refine lv_iconst (v := 1) hx hb dX6_borders_126 (by decide) ?_
                  refine lv_goto (tgt := 131) hx hb dX6_borders_127 (by decide) ?_
                  exact K_123 _ (by simp only [c_123, if_true, if_false]; rfl)
            · skip
              refine lv_icmp_ne (tgt := 112) hx hb dX6_borders_105 (by decide) (fun c_105 => ?_) (fun c_105 => ?_)
              · skip
                refine lv_iconst (v := 0) hx hb dX6_borders_112 (by decide) ?_
                exact K_105 _ (by simp only [c_105, if_true, if_false]; rfl)
              · skip
                refine lv_iconst (v := 1) hx hb dX6_borders_108 (by decide) ?_
                refine lv_goto (tgt := 113) hx hb dX6_borders_109 (by decide) ?_
                exact K_105 _ (by simp only [c_105, if_true, if_false]; rfl)
          · skip
            have m_90 : ¬ (bOf gw i_27) = i_2 := fun q => c_90 ((nI_eq (a := (bOf gw i_27)) (b := i_2) (by omega) (by omega)).mpr q)
            refine lv_goto (tgt := 152) hx hb dX6_borders_93 (by decide) ?_
            have hbi : ¬ (isEn gw gh i_27 = true ∧ bOf gw i_27 = i_2) := fun h => m_90 h.2
            refine lv_iinc (v := nI (i_27 + 1)) (lv' := [(5, .int (nI (i_27 + 1))), (6, .int (nI (bOf gw i_27))), (4, .int la), (3, .int (nI o9)), (2, .int (nI a9)), (1, .int (nI i_2)), (0, .ref q)]) hx hb dX6_borders_152 hl (k := 1) rfl (nI_1 _) (by decide) rfl (fun ls hl => ?_)
            refine lv_goto (tgt := 27) hx hb dX6_borders_155 (by decide) ?_
            exact ih_27 (nI (i_27 + 1), nI a9, nI o9, la) ls (⟨j_27, a9, o9, rfl, by omega, congrArg nI (by omega), rfl, rfl, by rw [bR_out hi_27 hbi] at hv_27; exact hv_27, by omega, by omega, hla⟩) (lv_sub hl [0, 2, 3, 4, 5, 6] rfl)
        · skip
          refine lv_if_ne (tgt := 69) hx hb dX6_borders_54 (by decide) (fun c_54 => ?_) (fun c_54 => ?_)
          · skip
            have m_54 : ¬ (i_27 % 2) = 0 := fun q => c_54 ((nI_eq (a := (i_27 % 2)) (b := 0) (by omega) (by omega)).mpr q)
            refine lv_aload_n hx hb dX6_borders_69 rfl (lv_at hl 5 rfl) ?_
            refine va_get (D := E.1) (ci := 7) (v := .int (nI gw)) (C := RX6) (T := TX6) (N := 25) hx hb hts hi_RX6 hown hE.1 hP 0 rfl rfl 1 (by decide) hf_69 (fun _ h9 => h9) rfl dX6_borders_70 ?_
            refine lv_iconst (v := 1) hx hb dX6_borders_73 (by decide) ?_
            refine lv_isub hx hb dX6_borders_74 ?_
            refine lv_eqi (show ((nI gw) - 1 : Int32) = nI (gw - 1) from pk_sub (a := gw) (b := 1) (by omega)) ?_
            refine lv_iload hx hb dX6_borders_75 (lv_at hl 0 rfl) ?_
            refine lv_iconst (v := 2) hx hb dX6_borders_77 (by decide) ?_
            refine lv_idiv hx hb dX6_borders_78 (by decide) ?_
            refine lv_eqi (show ((nI i_27) / 2 : Int32) = nI (i_27 / 2) from pk_div (a := i_27) (d := 2) (by omega) (by omega) (by omega)) ?_
            refine lv_aload_n hx hb dX6_borders_79 rfl (lv_at hl 5 rfl) ?_
            refine va_get (D := E.1) (ci := 7) (v := .int (nI gw)) (C := RX6) (T := TX6) (N := 25) hx hb hts hi_RX6 hown hE.1 hP 0 rfl rfl 1 (by decide) hf_69 (fun _ h9 => h9) rfl dX6_borders_80 ?_
            refine lv_idiv hx hb dX6_borders_83 (nI_ne0 (by omega) (by omega)) ?_
            refine lv_eqi (show ((nI (i_27 / 2)) / (nI gw) : Int32) = nI ((i_27 / 2) / gw) from pk_div (a := (i_27 / 2)) (d := gw) (by omega) (by omega) (by omega)) ?_
            have hq_83 : (i_27 / 2) / gw ≤ (i_27 / 2) := Nat.div_le_self _ _
            refine lv_iadd hx hb dX6_borders_84 ?_
            refine lv_eqi (show ((nI (gw - 1)) + (nI ((i_27 / 2) / gw)) : Int32) = nI ((gw - 1) + ((i_27 / 2) / gw)) from nI_add (gw - 1) ((i_27 / 2) / gw)) ?_
            exact K_54 _ (by simp [bOf, m_54])
          · skip
            have m_54 : (i_27 % 2) = 0 := (nI_eq (a := (i_27 % 2)) (b := 0) (by omega) (by omega)).mp c_54
            refine lv_iload hx hb dX6_borders_57 (lv_at hl 0 rfl) ?_
            refine lv_iconst (v := 2) hx hb dX6_borders_59 (by decide) ?_
            refine lv_idiv hx hb dX6_borders_60 (by decide) ?_
            refine lv_eqi (show ((nI i_27) / 2 : Int32) = nI (i_27 / 2) from pk_div (a := i_27) (d := 2) (by omega) (by omega) (by omega)) ?_
            refine lv_aload_n hx hb dX6_borders_61 rfl (lv_at hl 5 rfl) ?_
            refine va_get (D := E.1) (ci := 7) (v := .int (nI gw)) (C := RX6) (T := TX6) (N := 25) hx hb hts hi_RX6 hown hE.1 hP 0 rfl rfl 1 (by decide) hf_69 (fun _ h9 => h9) rfl dX6_borders_62 ?_
            refine lv_irem hx hb dX6_borders_65 (nI_ne0 (by omega) (by omega)) ?_
            refine lv_eqi (show ((nI (i_27 / 2)) - (nI (i_27 / 2)) / (nI gw) * (nI gw) : Int32) = nI ((i_27 / 2) % gw) from pk_rem (a := (i_27 / 2)) (d := gw) (by omega) (by omega) (by omega)) ?_
            have hq_65 : (i_27 / 2) % gw ≤ (i_27 / 2) := Nat.mod_le _ _
            refine lv_goto (tgt := 85) hx hb dX6_borders_66 (by decide) ?_
            exact K_54 _ (by simp [bOf, m_54])
      · skip
        refine lv_goto (tgt := 152) hx hb dX6_borders_47 (by decide) ?_
        have hbi : ¬ (isEn gw gh i_27 = true ∧ bOf gw i_27 = i_2) := fun h => (by rw [b2i_eq0, h.1] at c_44; cases c_44)
        refine lv_iinc (v := nI (i_27 + 1)) (lv' := [(5, .int (nI (i_27 + 1))), (4, .int la), (3, .int (nI o9)), (2, .int (nI a9)), (1, .int (nI i_2)), (0, .ref q)]) hx hb dX6_borders_152 hl (k := 0) rfl (nI_1 _) (by decide) rfl (fun ls hl => ?_)
        refine lv_goto (tgt := 27) hx hb dX6_borders_155 (by decide) ?_
        exact ih_27 (nI (i_27 + 1), nI a9, nI o9, la) ls (⟨j_27, a9, o9, rfl, by omega, congrArg nI (by omega), rfl, rfl, by rw [bR_out hi_27 hbi] at hv_27; exact hv_27, by omega, by omega, hla⟩) (lv_sub hl [0, 1, 2, 3, 4, 5] rfl)
