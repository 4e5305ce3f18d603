noncomputable def dNext (gw gh : Nat) (to : Int32) (ed du sh : Nat → Int32) : DEC := dOr (dOr (rL (pC1 gw gh ed du) (gw * gh) (gw * gh)) (dOr (rL (pC2 gw gh ed du) (gw * gh) (gw * gh)) (dOr (rL (pC3 gw gh ed du) (gw * gh) (gw * gh)) (rL (pC4 gw gh ed du) (gw * gh) (gw * gh))))) (dOr (dOr (rL (pLo1 gw gh ed du) (gw * gh) (gw * gh)) (rL (pLo2 gw gh ed du) (2 * (gw * gh)) (2 * (gw * gh)))) (dOr (rL (pBo gw gh ed) (gw + gh - 2) (gw + gh - 2)) (dOr (rL (pBr gw gh ed) (2 * (gw * gh)) (2 * (gw * gh))) (dOr (dAp gw gh ed du) (dOr (dMa gw gh sh to) (dSp gw gh sh))))))
set_option maxHeartbeats 4000000 in
set_option maxRecDepth 100000 in
theorem cX6_next_ct (l : Launch) (E : GE) (sz : Nat) (q : Nat) (y1 : Nat) (y2 : Nat) (y3 : Nat) (y4 : Nat) (y5 : Nat) (y6 : Nat) (y7 : Nat) (y8 : Nat) (y9 : Nat) (y10 : Nat) (y11 : Nat) (y12 : Nat) (y13 : Nat) (y14 : Nat) (y15 : Nat) (y16 : Nat) (y17 : Nat) (y18 : Nat) (gw : Nat) (gh : Nat) (th : Int32) (to : Int32) (wr : Bool) (k : Nat) (mk : Nat) (ed : Nat → Int32) (du : Nat → Int32) (sh : Nat → Int32) (eb : Nat → Int32) (sb : Nat → Int32) (nu : Nat → Int32) (pl : Nat → Int32) (bg : Nat → Int32) (ch : Nat → Int32) (rc : Nat → Int32) (t : Nat)  (hg1 : 1 ≤ gw) (hh1 : 1 ≤ gh) (hg8 : gw ≤ 8) (hh8 : gh ≤ 8) (hk : k < 900) (htm : t + (dIt (dNext gw gh to ed du sh)).length ≤ 4000) (ht : bg k = nI t) : wrM l yX6_next wsX6_next ({ frames := 6, cells := 0, slots := 0, locals := 131 }) E sz [.ref q] [(q, .inr (7, [.int th, .int (nI gw), .int (nI gh), .ref y1, .ref y2, .ref y3, .int to, .int (b2i wr), .ref y4, .ref y5, .int (nI k), .ref y6, .ref y7, .ref y8, .ref y9, .int (nI mk), .ref y10, .ref y11, .ref y12, .ref y13, .ref y14, .ref y15, .ref y16, .ref y17, .ref y18])), (y1, .inl (E.2 0, 128, .inl ed)), (y2, .inl (E.2 0, 64, .inl du)), (y3, .inl (E.2 0, 64, .inl sh)), (y4, .inl (E.2 0, 128, .inl eb)), (y5, .inl (E.2 0, 64, .inl sb)), (y6, .inl (E.2 0, 900, .inl nu)), (y7, .inl (E.2 0, 900, .inl pl)), (y8, .inl (E.2 0, 901, .inl bg)), (y9, .inl (E.2 0, 4000, .inl ch)), (y18, .inl (E.2 1, 64, .inl rc))] (some (.int (b2i (dNext gw gh to ed du sh).isSome))) (fun cs' => ∃ rc', cs' = rrRes E q y1 y2 y3 y4 y5 y6 y7 y8 y9 y10 y11 y12 y13 y14 y15 y16 y17 y18 gw gh th to wr k mk ed du sh eb sb nu pl bg ch rc' t (dNext gw gh to ed du sh)) 0 0 := by
  refine Met.ofW (cc := cX6_next) (maxL := 1) (ret := (some .boolean)) (by decide) rfl ?_
  intro p e s m args below meth c s₁ B hml hv
  obtain ⟨rfl, hsz, hE, hP, hD0⟩ := hv
  have hx := B.exec
  have hb := B.bytes
  have hr := B.returns
  have hts := atoms_spec (ws := wsX6_next) B.pre
  have hown : s.vm.findClass RX6 = some m.cls := findClass_of_methodNamed B.named
  have hlocks := B.notSynchronized
  subst hsz
  have hD := hD0.self (sz := s.heap.size)
  generalize hAe : va_A [(q, .inr (7, [.int th, .int (nI gw), .int (nI gh), .ref y1, .ref y2, .ref y3, .int to, .int (b2i wr), .ref y4, .ref y5, .int (nI k), .ref y6, .ref y7, .ref y8, .ref y9, .int (nI mk), .ref y10, .ref y11, .ref y12, .ref y13, .ref y14, .ref y15, .ref y16, .ref y17, .ref y18])), (y1, .inl (E.2 0, 128, .inl ed)), (y2, .inl (E.2 0, 64, .inl du)), (y3, .inl (E.2 0, 64, .inl sh)), (y4, .inl (E.2 0, 128, .inl eb)), (y5, .inl (E.2 0, 64, .inl sb)), (y6, .inl (E.2 0, 900, .inl nu)), (y7, .inl (E.2 0, 900, .inl pl)), (y8, .inl (E.2 0, 901, .inl bg)), (y9, .inl (E.2 0, 4000, .inl ch)), (y18, .inl (E.2 1, 64, .inl rc))] s.heap.size = A at hD ⊢
  have hA : ∀ q : Nat, s.heap.size ≤ q → A q := fun q h => by rw [← hAe]; exact Or.inr h
  have hS : va_S A s.heap s.heap [] := va_S.rf
  have hP : va_P E.1 vwCl [(q, .inr (7, [.int th, .int (nI gw), .int (nI gh), .ref y1, .ref y2, .ref y3, .int to, .int (b2i wr), .ref y4, .ref y5, .int (nI k), .ref y6, .ref y7, .ref y8, .ref y9, .int (nI mk), .ref y10, .ref y11, .ref y12, .ref y13, .ref y14, .ref y15, .ref y16, .ref y17, .ref y18])), (y1, .inl (E.2 0, 128, .inl ed)), (y2, .inl (E.2 0, 64, .inl du)), (y3, .inl (E.2 0, 64, .inl sh)), (y4, .inl (E.2 0, 128, .inl eb)), (y5, .inl (E.2 0, 64, .inl sb)), (y6, .inl (E.2 0, 900, .inl nu)), (y7, .inl (E.2 0, 900, .inl pl)), (y8, .inl (E.2 0, 901, .inl bg)), (y9, .inl (E.2 0, 4000, .inl ch)), (y18, .inl (E.2 1, 64, .inl rc))] s.heap := hP
  have hl := lv_entry ([.ref q]) (n := 1) (Nat.le_of_ble_eq_true rfl)
  rw [lg_entry_eq]
  generalize (lg_sl ([.ref q]) ++ List.replicate (1 - (lg_sl ([.ref q])).length) Slot.unset).toArray = ls at hl ⊢
  have hl : lv_has ls 1 [(0, .ref q)] := hl
  have hN : gw * gh ≤ 64 := Nat.mul_le_mul hg8 hh8
  have hN1 : 1 ≤ gw * gh := Nat.mul_le_mul hg1 hh1
  refine lv_aload_n hx hb dX6_next_0 rfl (lv_at hl 0 rfl) ?_
  have htm_0 : t + (dIt (dOr (rL (pC1 gw gh ed du) (gw * gh) (gw * gh)) (dOr (rL (pC2 gw gh ed du) (gw * gh) (gw * gh)) (dOr (rL (pC3 gw gh ed du) (gw * gh) (gw * gh)) (rL (pC4 gw gh ed du) (gw * gh) (gw * gh)))))).length ≤ 4000 := by have h0 := htm; unfold dNext at h0; skip; exact Nat.le_trans (Nat.add_le_add_left dIt_or _) h0
  refine wrV (As := []) (rest := []) (wr := []) ⟨hx, hb, hml, hown, hts⟩ hE (cX6_cells_ct l E s.heap.size q y1 y2 y3 y4 y5 y6 y7 y8 y9 y10 y11 y12 y13 y14 y15 y16 y17 y18 gw gh th to wr k mk ed du sh eb sb nu pl bg ch rc t (by assumption) (by assumption) (by assumption) (by assumption) (by assumption) htm_0 (by assumption)) (cwV 0 hts gX6_next_X6_cells rfl rfl rfl (by decide +kernel) ⟨Nat.le_of_ble_eq_true rfl, Nat.le_of_ble_eq_true rfl⟩) hP hD hS hA [0, 1, 2, 3, 4, 5, 6, 7, 8, 9, 10] [] rfl rfl (by decide) (by decide) hP hD (va_recv hE.1 hP (ci := 7) (q0 := 0) rfl rfl) rfl hl.1 rfl (Nat.le_of_ble_eq_true rfl) dX6_next_1 ⟨Nat.zero_le _, Nat.zero_le _⟩ (fun cs_ H locs h9 hP hD hS => ?_)
  obtain ⟨rn_0, rfl⟩ := h9
  rcases hd_0 : dOr (rL (pC1 gw gh ed du) (gw * gh) (gw * gh)) (dOr (rL (pC2 gw gh ed du) (gw * gh) (gw * gh)) (dOr (rL (pC3 gw gh ed du) (gw * gh) (gw * gh)) (rL (pC4 gw gh ed du) (gw * gh) (gw * gh)))) with _ | dx
  rotate_left
  · skip
    rw [hd_0] at hP hD
    have hP : va_P E.1 vwCl (rrRes E q y1 y2 y3 y4 y5 y6 y7 y8 y9 y10 y11 y12 y13 y14 y15 y16 y17 y18 gw gh th to wr k mk ed du sh eb sb nu pl bg ch rn_0 t (some dx)) H := hP
    have hD : va_D A (rrRes E q y1 y2 y3 y4 y5 y6 y7 y8 y9 y10 y11 y12 y13 y14 y15 y16 y17 y18 gw gh th to wr k mk ed du sh eb sb nu pl bg ch rn_0 t (some dx)) := hD
    have hd : dNext gw gh to ed du sh = some dx := by unfold dNext; rw [dOr_s hd_0]
    refine lv_if_ne (tgt := 49) hx hb dX6_next_4 (by decide) (fun c_4 => ?_) (fun c_4 => ?_)
    · skip
      refine lv_iconst (v := 1) hx hb dX6_next_49 (by decide) ?_
      refine lv_goto (tgt := 54) hx hb dX6_next_50 (by decide) ?_
      exact W.zret (v := 1) hx hb hr (rfl) (fun t9 ht9 hW => ⟨⟨by rw [hd]; rfl, _, ⟨_, by first | (rw [hd]; done) | (rw [hd]; rfl)⟩, by rw [ht9]; exact hP, hD⟩, hS.F ht9⟩) hS.2.2 dX6_next_54
    · skip
      exact absurd c_4 (show ¬ (1 : Int32) = 0 by decide)
  rw [hd_0] at hP hD
  have hP : va_P E.1 vwCl [(q, .inr (7, [.int th, .int (nI gw), .int (nI gh), .ref y1, .ref y2, .ref y3, .int to, .int (b2i wr), .ref y4, .ref y5, .int (nI k), .ref y6, .ref y7, .ref y8, .ref y9, .int (nI mk), .ref y10, .ref y11, .ref y12, .ref y13, .ref y14, .ref y15, .ref y16, .ref y17, .ref y18])), (y1, .inl (E.2 0, 128, .inl ed)), (y2, .inl (E.2 0, 64, .inl du)), (y3, .inl (E.2 0, 64, .inl sh)), (y4, .inl (E.2 0, 128, .inl eb)), (y5, .inl (E.2 0, 64, .inl sb)), (y6, .inl (E.2 0, 900, .inl nu)), (y7, .inl (E.2 0, 900, .inl pl)), (y8, .inl (E.2 0, 901, .inl bg)), (y9, .inl (E.2 0, 4000, .inl ch)), (y18, .inl (E.2 1, 64, .inl rn_0))] H := hP
  have hD : va_D A [(q, .inr (7, [.int th, .int (nI gw), .int (nI gh), .ref y1, .ref y2, .ref y3, .int to, .int (b2i wr), .ref y4, .ref y5, .int (nI k), .ref y6, .ref y7, .ref y8, .ref y9, .int (nI mk), .ref y10, .ref y11, .ref y12, .ref y13, .ref y14, .ref y15, .ref y16, .ref y17, .ref y18])), (y1, .inl (E.2 0, 128, .inl ed)), (y2, .inl (E.2 0, 64, .inl du)), (y3, .inl (E.2 0, 64, .inl sh)), (y4, .inl (E.2 0, 128, .inl eb)), (y5, .inl (E.2 0, 64, .inl sb)), (y6, .inl (E.2 0, 900, .inl nu)), (y7, .inl (E.2 0, 900, .inl pl)), (y8, .inl (E.2 0, 901, .inl bg)), (y9, .inl (E.2 0, 4000, .inl ch)), (y18, .inl (E.2 1, 64, .inl rn_0))] := hD
  refine lv_if_ne (tgt := 49) hx hb dX6_next_4 (by decide) (fun c_4 => ?_) (fun c_4 => ?_)
  · skip
    exact absurd rfl c_4
  · skip
    refine lv_aload_n hx hb dX6_next_7 rfl (lv_at hl 0 rfl) ?_
    have htm_1 : t + (dIt (dOr (rL (pLo1 gw gh ed du) (gw * gh) (gw * gh)) (rL (pLo2 gw gh ed du) (2 * (gw * gh)) (2 * (gw * gh))))).length ≤ 4000 := by have h0 := htm; unfold dNext at h0; rw [dOr_n hd_0] at h0; exact Nat.le_trans (Nat.add_le_add_left dIt_or _) h0
    refine wrV (As := []) (rest := []) (wr := []) ⟨hx, hb, hml, hown, hts⟩ hE (cX6_loops_ct l E H.size q y1 y2 y3 y4 y5 y6 y7 y8 y9 y10 y11 y12 y13 y14 y15 y16 y17 y18 gw gh th to wr k mk ed du sh eb sb nu pl bg ch rn_0 t (by assumption) (by assumption) (by assumption) (by assumption) (by assumption) htm_1 (by assumption)) (cwV 0 hts gX6_next_X6_loops rfl rfl rfl (by decide +kernel) ⟨Nat.le_of_ble_eq_true rfl, Nat.le_of_ble_eq_true rfl⟩) hP hD hS hA [0, 1, 2, 3, 4, 5, 6, 7, 8, 9, 10] [] rfl rfl (by decide) (by decide) hP hD (va_recv hE.1 hP (ci := 7) (q0 := 0) rfl rfl) rfl hl.1 rfl (Nat.le_of_ble_eq_true rfl) dX6_next_8 ⟨Nat.zero_le _, Nat.zero_le _⟩ (fun cs_ H locs h9 hP hD hS => ?_)
    obtain ⟨rn_1, rfl⟩ := h9
    rcases hd_1 : dOr (rL (pLo1 gw gh ed du) (gw * gh) (gw * gh)) (rL (pLo2 gw gh ed du) (2 * (gw * gh)) (2 * (gw * gh))) with _ | dx
    rotate_left
    · skip
      rw [hd_1] at hP hD
      have hP : va_P E.1 vwCl (rrRes E q y1 y2 y3 y4 y5 y6 y7 y8 y9 y10 y11 y12 y13 y14 y15 y16 y17 y18 gw gh th to wr k mk ed du sh eb sb nu pl bg ch rn_1 t (some dx)) H := hP
      have hD : va_D A (rrRes E q y1 y2 y3 y4 y5 y6 y7 y8 y9 y10 y11 y12 y13 y14 y15 y16 y17 y18 gw gh th to wr k mk ed du sh eb sb nu pl bg ch rn_1 t (some dx)) := hD
      have hd : dNext gw gh to ed du sh = some dx := by unfold dNext; rw [dOr_n hd_0, dOr_s hd_1]
      refine lv_if_ne (tgt := 49) hx hb dX6_next_11 (by decide) (fun c_11 => ?_) (fun c_11 => ?_)
      · skip
        refine lv_iconst (v := 1) hx hb dX6_next_49 (by decide) ?_
        refine lv_goto (tgt := 54) hx hb dX6_next_50 (by decide) ?_
        exact W.zret (v := 1) hx hb hr (rfl) (fun t9 ht9 hW => ⟨⟨by rw [hd]; rfl, _, ⟨_, by first | (rw [hd]; done) | (rw [hd]; rfl)⟩, by rw [ht9]; exact hP, hD⟩, hS.F ht9⟩) hS.2.2 dX6_next_54
      · skip
        exact absurd c_11 (show ¬ (1 : Int32) = 0 by decide)
    rw [hd_1] at hP hD
    have hP : va_P E.1 vwCl [(q, .inr (7, [.int th, .int (nI gw), .int (nI gh), .ref y1, .ref y2, .ref y3, .int to, .int (b2i wr), .ref y4, .ref y5, .int (nI k), .ref y6, .ref y7, .ref y8, .ref y9, .int (nI mk), .ref y10, .ref y11, .ref y12, .ref y13, .ref y14, .ref y15, .ref y16, .ref y17, .ref y18])), (y1, .inl (E.2 0, 128, .inl ed)), (y2, .inl (E.2 0, 64, .inl du)), (y3, .inl (E.2 0, 64, .inl sh)), (y4, .inl (E.2 0, 128, .inl eb)), (y5, .inl (E.2 0, 64, .inl sb)), (y6, .inl (E.2 0, 900, .inl nu)), (y7, .inl (E.2 0, 900, .inl pl)), (y8, .inl (E.2 0, 901, .inl bg)), (y9, .inl (E.2 0, 4000, .inl ch)), (y18, .inl (E.2 1, 64, .inl rn_1))] H := hP
    have hD : va_D A [(q, .inr (7, [.int th, .int (nI gw), .int (nI gh), .ref y1, .ref y2, .ref y3, .int to, .int (b2i wr), .ref y4, .ref y5, .int (nI k), .ref y6, .ref y7, .ref y8, .ref y9, .int (nI mk), .ref y10, .ref y11, .ref y12, .ref y13, .ref y14, .ref y15, .ref y16, .ref y17, .ref y18])), (y1, .inl (E.2 0, 128, .inl ed)), (y2, .inl (E.2 0, 64, .inl du)), (y3, .inl (E.2 0, 64, .inl sh)), (y4, .inl (E.2 0, 128, .inl eb)), (y5, .inl (E.2 0, 64, .inl sb)), (y6, .inl (E.2 0, 900, .inl nu)), (y7, .inl (E.2 0, 900, .inl pl)), (y8, .inl (E.2 0, 901, .inl bg)), (y9, .inl (E.2 0, 4000, .inl ch)), (y18, .inl (E.2 1, 64, .inl rn_1))] := hD
    refine lv_if_ne (tgt := 49) hx hb dX6_next_11 (by decide) (fun c_11 => ?_) (fun c_11 => ?_)
    · skip
      exact absurd rfl c_11
    · skip
      refine lv_aload_n hx hb dX6_next_14 rfl (lv_at hl 0 rfl) ?_
      have htm_2 : t + (dIt (rL (pBo gw gh ed) (gw + gh - 2) (gw + gh - 2))).length ≤ 4000 := by have h0 := htm; unfold dNext at h0; rw [dOr_n hd_0, dOr_n hd_1] at h0; exact Nat.le_trans (Nat.add_le_add_left dIt_or _) h0
      refine wrV (As := []) (rest := []) (wr := []) ⟨hx, hb, hml, hown, hts⟩ hE (cX6_borders_ct l E H.size q y1 y2 y3 y4 y5 y6 y7 y8 y9 y10 y11 y12 y13 y14 y15 y16 y17 y18 gw gh th to wr k mk ed du sh eb sb nu pl bg ch rn_1 t (by assumption) (by assumption) (by assumption) (by assumption) (by assumption) htm_2 (by assumption)) (cwV 0 hts gX6_next_X6_borders rfl rfl rfl (by decide +kernel) ⟨Nat.le_of_ble_eq_true rfl, Nat.le_of_ble_eq_true rfl⟩) hP hD hS hA [0, 1, 2, 3, 4, 5, 6, 7, 8, 9, 10] [] rfl rfl (by decide) (by decide) hP hD (va_recv hE.1 hP (ci := 7) (q0 := 0) rfl rfl) rfl hl.1 rfl (Nat.le_of_ble_eq_true rfl) dX6_next_15 ⟨Nat.zero_le _, Nat.zero_le _⟩ (fun cs_ H locs h9 hP hD hS => ?_)
      obtain ⟨rn_2, rfl⟩ := h9
      rcases hd_2 : rL (pBo gw gh ed) (gw + gh - 2) (gw + gh - 2) with _ | dx
      rotate_left
      · skip
        rw [hd_2] at hP hD
        have hP : va_P E.1 vwCl (rrRes E q y1 y2 y3 y4 y5 y6 y7 y8 y9 y10 y11 y12 y13 y14 y15 y16 y17 y18 gw gh th to wr k mk ed du sh eb sb nu pl bg ch rn_2 t (some dx)) H := hP
        have hD : va_D A (rrRes E q y1 y2 y3 y4 y5 y6 y7 y8 y9 y10 y11 y12 y13 y14 y15 y16 y17 y18 gw gh th to wr k mk ed du sh eb sb nu pl bg ch rn_2 t (some dx)) := hD
        have hd : dNext gw gh to ed du sh = some dx := by unfold dNext; rw [dOr_n hd_0, dOr_n hd_1, dOr_s hd_2]
        refine lv_if_ne (tgt := 49) hx hb dX6_next_18 (by decide) (fun c_18 => ?_) (fun c_18 => ?_)
        · skip
          refine lv_iconst (v := 1) hx hb dX6_next_49 (by decide) ?_
          refine lv_goto (tgt := 54) hx hb dX6_next_50 (by decide) ?_
          exact W.zret (v := 1) hx hb hr (rfl) (fun t9 ht9 hW => ⟨⟨by rw [hd]; rfl, _, ⟨_, by first | (rw [hd]; done) | (rw [hd]; rfl)⟩, by rw [ht9]; exact hP, hD⟩, hS.F ht9⟩) hS.2.2 dX6_next_54
        · skip
          exact absurd c_18 (show ¬ (1 : Int32) = 0 by decide)
      rw [hd_2] at hP hD
      have hP : va_P E.1 vwCl [(q, .inr (7, [.int th, .int (nI gw), .int (nI gh), .ref y1, .ref y2, .ref y3, .int to, .int (b2i wr), .ref y4, .ref y5, .int (nI k), .ref y6, .ref y7, .ref y8, .ref y9, .int (nI mk), .ref y10, .ref y11, .ref y12, .ref y13, .ref y14, .ref y15, .ref y16, .ref y17, .ref y18])), (y1, .inl (E.2 0, 128, .inl ed)), (y2, .inl (E.2 0, 64, .inl du)), (y3, .inl (E.2 0, 64, .inl sh)), (y4, .inl (E.2 0, 128, .inl eb)), (y5, .inl (E.2 0, 64, .inl sb)), (y6, .inl (E.2 0, 900, .inl nu)), (y7, .inl (E.2 0, 900, .inl pl)), (y8, .inl (E.2 0, 901, .inl bg)), (y9, .inl (E.2 0, 4000, .inl ch)), (y18, .inl (E.2 1, 64, .inl rn_2))] H := hP
      have hD : va_D A [(q, .inr (7, [.int th, .int (nI gw), .int (nI gh), .ref y1, .ref y2, .ref y3, .int to, .int (b2i wr), .ref y4, .ref y5, .int (nI k), .ref y6, .ref y7, .ref y8, .ref y9, .int (nI mk), .ref y10, .ref y11, .ref y12, .ref y13, .ref y14, .ref y15, .ref y16, .ref y17, .ref y18])), (y1, .inl (E.2 0, 128, .inl ed)), (y2, .inl (E.2 0, 64, .inl du)), (y3, .inl (E.2 0, 64, .inl sh)), (y4, .inl (E.2 0, 128, .inl eb)), (y5, .inl (E.2 0, 64, .inl sb)), (y6, .inl (E.2 0, 900, .inl nu)), (y7, .inl (E.2 0, 900, .inl pl)), (y8, .inl (E.2 0, 901, .inl bg)), (y9, .inl (E.2 0, 4000, .inl ch)), (y18, .inl (E.2 1, 64, .inl rn_2))] := hD
      refine lv_if_ne (tgt := 49) hx hb dX6_next_18 (by decide) (fun c_18 => ?_) (fun c_18 => ?_)
      · skip
        exact absurd rfl c_18
      · skip
        refine lv_aload_n hx hb dX6_next_21 rfl (lv_at hl 0 rfl) ?_
        have htm_3 : t + (dIt (rL (pBr gw gh ed) (2 * (gw * gh)) (2 * (gw * gh)))).length ≤ 4000 := by have h0 := htm; unfold dNext at h0; rw [dOr_n hd_0, dOr_n hd_1, dOr_n hd_2] at h0; exact Nat.le_trans (Nat.add_le_add_left dIt_or _) h0
        refine wrV (As := []) (rest := []) (wr := []) ⟨hx, hb, hml, hown, hts⟩ hE (cX6_bridges_ct l E H.size q y1 y2 y3 y4 y5 y6 y7 y8 y9 y10 y11 y12 y13 y14 y15 y16 y17 y18 gw gh th to wr k mk ed du sh eb sb nu pl bg ch rn_2 t (by assumption) (by assumption) (by assumption) (by assumption) (by assumption) htm_3 (by assumption)) (cwV 0 hts gX6_next_X6_bridges rfl rfl rfl (by decide +kernel) ⟨Nat.le_of_ble_eq_true rfl, Nat.le_of_ble_eq_true rfl⟩) hP hD hS hA [0, 1, 2, 3, 4, 5, 6, 7, 8, 9, 10] [] rfl rfl (by decide) (by decide) hP hD (va_recv hE.1 hP (ci := 7) (q0 := 0) rfl rfl) rfl hl.1 rfl (Nat.le_of_ble_eq_true rfl) dX6_next_22 ⟨Nat.zero_le _, Nat.zero_le _⟩ (fun cs_ H locs h9 hP hD hS => ?_)
        obtain ⟨rn_3, rfl⟩ := h9
        rcases hd_3 : rL (pBr gw gh ed) (2 * (gw * gh)) (2 * (gw * gh)) with _ | dx
        rotate_left
        · skip
          rw [hd_3] at hP hD
          have hP : va_P E.1 vwCl (rrRes E q y1 y2 y3 y4 y5 y6 y7 y8 y9 y10 y11 y12 y13 y14 y15 y16 y17 y18 gw gh th to wr k mk ed du sh eb sb nu pl bg ch rn_3 t (some dx)) H := hP
          have hD : va_D A (rrRes E q y1 y2 y3 y4 y5 y6 y7 y8 y9 y10 y11 y12 y13 y14 y15 y16 y17 y18 gw gh th to wr k mk ed du sh eb sb nu pl bg ch rn_3 t (some dx)) := hD
          have hd : dNext gw gh to ed du sh = some dx := by unfold dNext; rw [dOr_n hd_0, dOr_n hd_1, dOr_n hd_2, dOr_s hd_3]
          refine lv_if_ne (tgt := 49) hx hb dX6_next_25 (by decide) (fun c_25 => ?_) (fun c_25 => ?_)
          · skip
            refine lv_iconst (v := 1) hx hb dX6_next_49 (by decide) ?_
            refine lv_goto (tgt := 54) hx hb dX6_next_50 (by decide) ?_
            exact W.zret (v := 1) hx hb hr (rfl) (fun t9 ht9 hW => ⟨⟨by rw [hd]; rfl, _, ⟨_, by first | (rw [hd]; done) | (rw [hd]; rfl)⟩, by rw [ht9]; exact hP, hD⟩, hS.F ht9⟩) hS.2.2 dX6_next_54
          · skip
            exact absurd c_25 (show ¬ (1 : Int32) = 0 by decide)
        rw [hd_3] at hP hD
        have hP : va_P E.1 vwCl [(q, .inr (7, [.int th, .int (nI gw), .int (nI gh), .ref y1, .ref y2, .ref y3, .int to, .int (b2i wr), .ref y4, .ref y5, .int (nI k), .ref y6, .ref y7, .ref y8, .ref y9, .int (nI mk), .ref y10, .ref y11, .ref y12, .ref y13, .ref y14, .ref y15, .ref y16, .ref y17, .ref y18])), (y1, .inl (E.2 0, 128, .inl ed)), (y2, .inl (E.2 0, 64, .inl du)), (y3, .inl (E.2 0, 64, .inl sh)), (y4, .inl (E.2 0, 128, .inl eb)), (y5, .inl (E.2 0, 64, .inl sb)), (y6, .inl (E.2 0, 900, .inl nu)), (y7, .inl (E.2 0, 900, .inl pl)), (y8, .inl (E.2 0, 901, .inl bg)), (y9, .inl (E.2 0, 4000, .inl ch)), (y18, .inl (E.2 1, 64, .inl rn_3))] H := hP
        have hD : va_D A [(q, .inr (7, [.int th, .int (nI gw), .int (nI gh), .ref y1, .ref y2, .ref y3, .int to, .int (b2i wr), .ref y4, .ref y5, .int (nI k), .ref y6, .ref y7, .ref y8, .ref y9, .int (nI mk), .ref y10, .ref y11, .ref y12, .ref y13, .ref y14, .ref y15, .ref y16, .ref y17, .ref y18])), (y1, .inl (E.2 0, 128, .inl ed)), (y2, .inl (E.2 0, 64, .inl du)), (y3, .inl (E.2 0, 64, .inl sh)), (y4, .inl (E.2 0, 128, .inl eb)), (y5, .inl (E.2 0, 64, .inl sb)), (y6, .inl (E.2 0, 900, .inl nu)), (y7, .inl (E.2 0, 900, .inl pl)), (y8, .inl (E.2 0, 901, .inl bg)), (y9, .inl (E.2 0, 4000, .inl ch)), (y18, .inl (E.2 1, 64, .inl rn_3))] := hD
        refine lv_if_ne (tgt := 49) hx hb dX6_next_25 (by decide) (fun c_25 => ?_) (fun c_25 => ?_)
        · skip
          exact absurd rfl c_25
        · skip
          refine lv_aload_n hx hb dX6_next_28 rfl (lv_at hl 0 rfl) ?_
          have htm_4 : t + (dIt (dAp gw gh ed du)).length ≤ 4000 := by have h0 := htm; unfold dNext at h0; rw [dOr_n hd_0, dOr_n hd_1, dOr_n hd_2, dOr_n hd_3] at h0; exact Nat.le_trans (Nat.add_le_add_left dIt_or _) h0
          refine wrV (As := []) (rest := []) (wr := []) ⟨hx, hb, hml, hown, hts⟩ hE (cX6_apart_ct l E H.size q y1 y2 y3 y4 y5 y6 y7 y8 y9 y10 y11 y12 y13 y14 y15 y16 y17 y18 gw gh th to wr k mk ed du sh eb sb nu pl bg ch rn_3 t (by assumption) (by assumption) (by assumption) (by assumption) (by assumption) htm_4 (by assumption)) (cwV 0 hts gX6_next_X6_apart rfl rfl rfl (by decide +kernel) ⟨Nat.le_of_ble_eq_true rfl, Nat.le_of_ble_eq_true rfl⟩) hP hD hS hA [0, 1, 2, 3, 4, 5, 6, 7, 8, 9, 10] [] rfl rfl (by decide) (by decide) hP hD (va_recv hE.1 hP (ci := 7) (q0 := 0) rfl rfl) rfl hl.1 rfl (Nat.le_of_ble_eq_true rfl) dX6_next_29 ⟨Nat.zero_le _, Nat.zero_le _⟩ (fun cs_ H locs h9 hP hD hS => ?_)
          obtain ⟨rn_4, rfl⟩ := h9
          rcases hd_4 : dAp gw gh ed du with _ | dx
          rotate_left
          · skip
            rw [hd_4] at hP hD
            have hP : va_P E.1 vwCl (rrRes E q y1 y2 y3 y4 y5 y6 y7 y8 y9 y10 y11 y12 y13 y14 y15 y16 y17 y18 gw gh th to wr k mk ed du sh eb sb nu pl bg ch rn_4 t (some dx)) H := hP
            have hD : va_D A (rrRes E q y1 y2 y3 y4 y5 y6 y7 y8 y9 y10 y11 y12 y13 y14 y15 y16 y17 y18 gw gh th to wr k mk ed du sh eb sb nu pl bg ch rn_4 t (some dx)) := hD
            have hd : dNext gw gh to ed du sh = some dx := by unfold dNext; rw [dOr_n hd_0, dOr_n hd_1, dOr_n hd_2, dOr_n hd_3, dOr_s hd_4]
            refine lv_if_ne (tgt := 49) hx hb dX6_next_32 (by decide) (fun c_32 => ?_) (fun c_32 => ?_)
            · skip
              refine lv_iconst (v := 1) hx hb dX6_next_49 (by decide) ?_
              refine lv_goto (tgt := 54) hx hb dX6_next_50 (by decide) ?_
              exact W.zret (v := 1) hx hb hr (rfl) (fun t9 ht9 hW => ⟨⟨by rw [hd]; rfl, _, ⟨_, by first | (rw [hd]; done) | (rw [hd]; rfl)⟩, by rw [ht9]; exact hP, hD⟩, hS.F ht9⟩) hS.2.2 dX6_next_54
            · skip
              exact absurd c_32 (show ¬ (1 : Int32) = 0 by decide)
          rw [hd_4] at hP hD
          have hP : va_P E.1 vwCl [(q, .inr (7, [.int th, .int (nI gw), .int (nI gh), .ref y1, .ref y2, .ref y3, .int to, .int (b2i wr), .ref y4, .ref y5, .int (nI k), .ref y6, .ref y7, .ref y8, .ref y9, .int (nI mk), .ref y10, .ref y11, .ref y12, .ref y13, .ref y14, .ref y15, .ref y16, .ref y17, .ref y18])), (y1, .inl (E.2 0, 128, .inl ed)), (y2, .inl (E.2 0, 64, .inl du)), (y3, .inl (E.2 0, 64, .inl sh)), (y4, .inl (E.2 0, 128, .inl eb)), (y5, .inl (E.2 0, 64, .inl sb)), (y6, .inl (E.2 0, 900, .inl nu)), (y7, .inl (E.2 0, 900, .inl pl)), (y8, .inl (E.2 0, 901, .inl bg)), (y9, .inl (E.2 0, 4000, .inl ch)), (y18, .inl (E.2 1, 64, .inl rn_4))] H := hP
          have hD : va_D A [(q, .inr (7, [.int th, .int (nI gw), .int (nI gh), .ref y1, .ref y2, .ref y3, .int to, .int (b2i wr), .ref y4, .ref y5, .int (nI k), .ref y6, .ref y7, .ref y8, .ref y9, .int (nI mk), .ref y10, .ref y11, .ref y12, .ref y13, .ref y14, .ref y15, .ref y16, .ref y17, .ref y18])), (y1, .inl (E.2 0, 128, .inl ed)), (y2, .inl (E.2 0, 64, .inl du)), (y3, .inl (E.2 0, 64, .inl sh)), (y4, .inl (E.2 0, 128, .inl eb)), (y5, .inl (E.2 0, 64, .inl sb)), (y6, .inl (E.2 0, 900, .inl nu)), (y7, .inl (E.2 0, 900, .inl pl)), (y8, .inl (E.2 0, 901, .inl bg)), (y9, .inl (E.2 0, 4000, .inl ch)), (y18, .inl (E.2 1, 64, .inl rn_4))] := hD
          refine lv_if_ne (tgt := 49) hx hb dX6_next_32 (by decide) (fun c_32 => ?_) (fun c_32 => ?_)
          · skip
            exact absurd rfl c_32
          · skip
            refine lv_aload_n hx hb dX6_next_35 rfl (lv_at hl 0 rfl) ?_
            have htm_5 : t + (dIt (dMa gw gh sh to)).length ≤ 4000 := by have h0 := htm; unfold dNext at h0; rw [dOr_n hd_0, dOr_n hd_1, dOr_n hd_2, dOr_n hd_3, dOr_n hd_4] at h0; exact Nat.le_trans (Nat.add_le_add_left dIt_or _) h0
            refine wrV (As := []) (rest := []) (wr := []) ⟨hx, hb, hml, hown, hts⟩ hE (cX6_many_ct l E H.size q y1 y2 y3 y4 y5 y6 y7 y8 y9 y10 y11 y12 y13 y14 y15 y16 y17 y18 gw gh th to wr k mk ed du sh eb sb nu pl bg ch rn_4 t (by assumption) (by assumption) (by assumption) (by assumption) (by assumption) htm_5 (by assumption)) (cwV 0 hts gX6_next_X6_many rfl rfl rfl (by decide +kernel) ⟨Nat.le_of_ble_eq_true rfl, Nat.le_of_ble_eq_true rfl⟩) hP hD hS hA [0, 1, 2, 3, 4, 5, 6, 7, 8, 9, 10] [] rfl rfl (by decide) (by decide) hP hD (va_recv hE.1 hP (ci := 7) (q0 := 0) rfl rfl) rfl hl.1 rfl (Nat.le_of_ble_eq_true rfl) dX6_next_36 ⟨Nat.zero_le _, Nat.zero_le _⟩ (fun cs_ H locs h9 hP hD hS => ?_)
            obtain ⟨rn_5, rfl⟩ := h9
            rcases hd_5 : dMa gw gh sh to with _ | dx
            rotate_left
            · skip
              rw [hd_5] at hP hD
              have hP : va_P E.1 vwCl (rrRes E q y1 y2 y3 y4 y5 y6 y7 y8 y9 y10 y11 y12 y13 y14 y15 y16 y17 y18 gw gh th to wr k mk ed du sh eb sb nu pl bg ch rn_5 t (some dx)) H := hP
              have hD : va_D A (rrRes E q y1 y2 y3 y4 y5 y6 y7 y8 y9 y10 y11 y12 y13 y14 y15 y16 y17 y18 gw gh th to wr k mk ed du sh eb sb nu pl bg ch rn_5 t (some dx)) := hD
              have hd : dNext gw gh to ed du sh = some dx := by unfold dNext; rw [dOr_n hd_0, dOr_n hd_1, dOr_n hd_2, dOr_n hd_3, dOr_n hd_4, dOr_s hd_5]
              refine lv_if_ne (tgt := 49) hx hb dX6_next_39 (by decide) (fun c_39 => ?_) (fun c_39 => ?_)
              · skip
                refine lv_iconst (v := 1) hx hb dX6_next_49 (by decide) ?_
                refine lv_goto (tgt := 54) hx hb dX6_next_50 (by decide) ?_
                exact W.zret (v := 1) hx hb hr (rfl) (fun t9 ht9 hW => ⟨⟨by rw [hd]; rfl, _, ⟨_, by first | (rw [hd]; done) | (rw [hd]; rfl)⟩, by rw [ht9]; exact hP, hD⟩, hS.F ht9⟩) hS.2.2 dX6_next_54
              · skip
                exact absurd c_39 (show ¬ (1 : Int32) = 0 by decide)
            rw [hd_5] at hP hD
            have hP : va_P E.1 vwCl [(q, .inr (7, [.int th, .int (nI gw), .int (nI gh), .ref y1, .ref y2, .ref y3, .int to, .int (b2i wr), .ref y4, .ref y5, .int (nI k), .ref y6, .ref y7, .ref y8, .ref y9, .int (nI mk), .ref y10, .ref y11, .ref y12, .ref y13, .ref y14, .ref y15, .ref y16, .ref y17, .ref y18])), (y1, .inl (E.2 0, 128, .inl ed)), (y2, .inl (E.2 0, 64, .inl du)), (y3, .inl (E.2 0, 64, .inl sh)), (y4, .inl (E.2 0, 128, .inl eb)), (y5, .inl (E.2 0, 64, .inl sb)), (y6, .inl (E.2 0, 900, .inl nu)), (y7, .inl (E.2 0, 900, .inl pl)), (y8, .inl (E.2 0, 901, .inl bg)), (y9, .inl (E.2 0, 4000, .inl ch)), (y18, .inl (E.2 1, 64, .inl rn_5))] H := hP
            have hD : va_D A [(q, .inr (7, [.int th, .int (nI gw), .int (nI gh), .ref y1, .ref y2, .ref y3, .int to, .int (b2i wr), .ref y4, .ref y5, .int (nI k), .ref y6, .ref y7, .ref y8, .ref y9, .int (nI mk), .ref y10, .ref y11, .ref y12, .ref y13, .ref y14, .ref y15, .ref y16, .ref y17, .ref y18])), (y1, .inl (E.2 0, 128, .inl ed)), (y2, .inl (E.2 0, 64, .inl du)), (y3, .inl (E.2 0, 64, .inl sh)), (y4, .inl (E.2 0, 128, .inl eb)), (y5, .inl (E.2 0, 64, .inl sb)), (y6, .inl (E.2 0, 900, .inl nu)), (y7, .inl (E.2 0, 900, .inl pl)), (y8, .inl (E.2 0, 901, .inl bg)), (y9, .inl (E.2 0, 4000, .inl ch)), (y18, .inl (E.2 1, 64, .inl rn_5))] := hD
            refine lv_if_ne (tgt := 49) hx hb dX6_next_39 (by decide) (fun c_39 => ?_) (fun c_39 => ?_)
            · skip
              exact absurd rfl c_39
            · skip
              refine lv_aload_n hx hb dX6_next_42 rfl (lv_at hl 0 rfl) ?_
              have htm_6 : t + (dIt (dSp gw gh sh)).length ≤ 4000 := by have h0 := htm; unfold dNext at h0; rw [dOr_n hd_0, dOr_n hd_1, dOr_n hd_2, dOr_n hd_3, dOr_n hd_4, dOr_n hd_5] at h0; exact h0
              refine wrV (As := []) (rest := []) (wr := []) ⟨hx, hb, hml, hown, hts⟩ hE (cX6_shadeParts_ct l E H.size q y1 y2 y3 y4 y5 y6 y7 y8 y9 y10 y11 y12 y13 y14 y15 y16 y17 y18 gw gh th to wr k mk ed du sh eb sb nu pl bg ch rn_5 t (by assumption) (by assumption) (by assumption) (by assumption) (by assumption) htm_6 (by assumption)) (cwV 0 hts gX6_next_X6_shadeParts rfl rfl rfl (by decide +kernel) ⟨Nat.le_of_ble_eq_true rfl, Nat.le_of_ble_eq_true rfl⟩) hP hD hS hA [0, 1, 2, 3, 4, 5, 6, 7, 8, 9, 10] [] rfl rfl (by decide) (by decide) hP hD (va_recv hE.1 hP (ci := 7) (q0 := 0) rfl rfl) rfl hl.1 rfl (Nat.le_of_ble_eq_true rfl) dX6_next_43 ⟨Nat.zero_le _, Nat.zero_le _⟩ (fun cs_ H locs h9 hP hD hS => ?_)
              obtain ⟨rn_6, rfl⟩ := h9
              rcases hd_6 : dSp gw gh sh with _ | dx
              rotate_left
              · skip
                rw [hd_6] at hP hD
                have hP : va_P E.1 vwCl (rrRes E q y1 y2 y3 y4 y5 y6 y7 y8 y9 y10 y11 y12 y13 y14 y15 y16 y17 y18 gw gh th to wr k mk ed du sh eb sb nu pl bg ch rn_6 t (some dx)) H := hP
                have hD : va_D A (rrRes E q y1 y2 y3 y4 y5 y6 y7 y8 y9 y10 y11 y12 y13 y14 y15 y16 y17 y18 gw gh th to wr k mk ed du sh eb sb nu pl bg ch rn_6 t (some dx)) := hD
                have hd : dNext gw gh to ed du sh = some dx := by unfold dNext; rw [dOr_n hd_0, dOr_n hd_1, dOr_n hd_2, dOr_n hd_3, dOr_n hd_4, dOr_n hd_5, hd_6]
                refine lv_if_eq (tgt := 53) hx hb dX6_next_46 (by decide) (fun c_46 => ?_) (fun c_46 => ?_)
                · skip
                  exact absurd c_46 (show ¬ (1 : Int32) = 0 by decide)
                · skip
                  refine lv_iconst (v := 1) hx hb dX6_next_49 (by decide) ?_
                  refine lv_goto (tgt := 54) hx hb dX6_next_50 (by decide) ?_
                  exact W.zret (v := 1) hx hb hr (rfl) (fun t9 ht9 hW => ⟨⟨by rw [hd]; rfl, _, ⟨_, by first | (rw [hd]; done) | (rw [hd]; rfl)⟩, by rw [ht9]; exact hP, hD⟩, hS.F ht9⟩) hS.2.2 dX6_next_54
              rw [hd_6] at hP hD
              have hP : va_P E.1 vwCl [(q, .inr (7, [.int th, .int (nI gw), .int (nI gh), .ref y1, .ref y2, .ref y3, .int to, .int (b2i wr), .ref y4, .ref y5, .int (nI k), .ref y6, .ref y7, .ref y8, .ref y9, .int (nI mk), .ref y10, .ref y11, .ref y12, .ref y13, .ref y14, .ref y15, .ref y16, .ref y17, .ref y18])), (y1, .inl (E.2 0, 128, .inl ed)), (y2, .inl (E.2 0, 64, .inl du)), (y3, .inl (E.2 0, 64, .inl sh)), (y4, .inl (E.2 0, 128, .inl eb)), (y5, .inl (E.2 0, 64, .inl sb)), (y6, .inl (E.2 0, 900, .inl nu)), (y7, .inl (E.2 0, 900, .inl pl)), (y8, .inl (E.2 0, 901, .inl bg)), (y9, .inl (E.2 0, 4000, .inl ch)), (y18, .inl (E.2 1, 64, .inl rn_6))] H := hP
              have hD : va_D A [(q, .inr (7, [.int th, .int (nI gw), .int (nI gh), .ref y1, .ref y2, .ref y3, .int to, .int (b2i wr), .ref y4, .ref y5, .int (nI k), .ref y6, .ref y7, .ref y8, .ref y9, .int (nI mk), .ref y10, .ref y11, .ref y12, .ref y13, .ref y14, .ref y15, .ref y16, .ref y17, .ref y18])), (y1, .inl (E.2 0, 128, .inl ed)), (y2, .inl (E.2 0, 64, .inl du)), (y3, .inl (E.2 0, 64, .inl sh)), (y4, .inl (E.2 0, 128, .inl eb)), (y5, .inl (E.2 0, 64, .inl sb)), (y6, .inl (E.2 0, 900, .inl nu)), (y7, .inl (E.2 0, 900, .inl pl)), (y8, .inl (E.2 0, 901, .inl bg)), (y9, .inl (E.2 0, 4000, .inl ch)), (y18, .inl (E.2 1, 64, .inl rn_6))] := hD
              have hd : dNext gw gh to ed du sh = none := by unfold dNext; rw [dOr_n hd_0, dOr_n hd_1, dOr_n hd_2, dOr_n hd_3, dOr_n hd_4, dOr_n hd_5, hd_6]
              refine lv_if_eq (tgt := 53) hx hb dX6_next_46 (by decide) (fun c_46 => ?_) (fun c_46 => ?_)
              · skip
                refine lv_iconst (v := 0) hx hb dX6_next_53 (by decide) ?_
                exact W.zret (v := 0) hx hb hr (rfl) (fun t9 ht9 hW => ⟨⟨by rw [hd]; rfl, _, ⟨_, by first | (rw [hd]; done) | (rw [hd]; rfl)⟩, by rw [ht9]; exact hP, hD⟩, hS.F ht9⟩) hS.2.2 dX6_next_54
              · skip
                exact absurd rfl c_46
/-! The reference's run. -/
abbrev RR : Type := (Nat → Int32) × (Nat → Int32) × (Nat → Int32) × (Nat → Int32) × Bool × (Nat → Int32) × (Nat → Int32) × (Nat → Int32) × (Nat → Int32) × Nat × Nat
def apR (S : RR) : Int32 × Int32 × Nat × Bool × List Int32 → RR
  | (no, pc, 0, z, is) => (S.1, S.2.1, S.2.2.1, S.2.2.2.1, true, upd S.2.2.2.2.2.1 S.2.2.2.2.2.2.2.2.2.1 no, upd S.2.2.2.2.2.2.1 S.2.2.2.2.2.2.2.2.2.1 pc, upd S.2.2.2.2.2.2.2.1 (S.2.2.2.2.2.2.2.2.2.1 + 1) (nI S.2.2.2.2.2.2.2.2.2.2), S.2.2.2.2.2.2.2.2.1, S.2.2.2.2.2.2.2.2.2.1 + 1, S.2.2.2.2.2.2.2.2.2.2)
  | (no, pc, 1, z, is) => (edS z S.1 is, S.2.1, byS S.2.2.2.2.2.2.2.2.2.1 S.2.2.1 is, S.2.2.2.1, S.2.2.2.2.1, upd S.2.2.2.2.2.1 S.2.2.2.2.2.2.2.2.2.1 no, upd S.2.2.2.2.2.2.1 S.2.2.2.2.2.2.2.2.2.1 pc, upd S.2.2.2.2.2.2.2.1 (S.2.2.2.2.2.2.2.2.2.1 + 1) (nI (S.2.2.2.2.2.2.2.2.2.2 + is.length)), chW z S.2.2.2.2.2.2.2.2.1 S.2.2.2.2.2.2.2.2.2.2 is, S.2.2.2.2.2.2.2.2.2.1 + 1, S.2.2.2.2.2.2.2.2.2.2 + is.length)
  | (no, pc, _, z, is) => (S.1, edS z S.2.1 is, S.2.2.1, byS S.2.2.2.2.2.2.2.2.2.1 S.2.2.2.1 is, S.2.2.2.2.1, upd S.2.2.2.2.2.1 S.2.2.2.2.2.2.2.2.2.1 no, upd S.2.2.2.2.2.2.1 S.2.2.2.2.2.2.2.2.2.1 pc, upd S.2.2.2.2.2.2.2.1 (S.2.2.2.2.2.2.2.2.2.1 + 1) (nI (S.2.2.2.2.2.2.2.2.2.2 + is.length)), chW z S.2.2.2.2.2.2.2.2.1 S.2.2.2.2.2.2.2.2.2.2 is, S.2.2.2.2.2.2.2.2.2.1 + 1, S.2.2.2.2.2.2.2.2.2.2 + is.length)
abbrev rrW (E : GE) (q : Nat) (y1 : Nat) (y2 : Nat) (y3 : Nat) (y4 : Nat) (y5 : Nat) (y6 : Nat) (y7 : Nat) (y8 : Nat) (y9 : Nat) (y10 : Nat) (y11 : Nat) (y12 : Nat) (y13 : Nat) (y14 : Nat) (y15 : Nat) (y16 : Nat) (y17 : Nat) (y18 : Nat) (gw : Nat) (gh : Nat) (th : Int32) (to : Int32) (mk : Nat) (du : Nat → Int32) (S : RR) (rc : Nat → Int32) : va_W := [(q, .inr (7, [.int th, .int (nI gw), .int (nI gh), .ref y1, .ref y2, .ref y3, .int to, .int (b2i S.2.2.2.2.1), .ref y4, .ref y5, .int (nI S.2.2.2.2.2.2.2.2.2.1), .ref y6, .ref y7, .ref y8, .ref y9, .int (nI mk), .ref y10, .ref y11, .ref y12, .ref y13, .ref y14, .ref y15, .ref y16, .ref y17, .ref y18])), (y1, .inl (E.2 0, 128, .inl S.1)), (y2, .inl (E.2 0, 64, .inl du)), (y3, .inl (E.2 0, 64, .inl S.2.1)), (y4, .inl (E.2 0, 128, .inl S.2.2.1)), (y5, .inl (E.2 0, 64, .inl S.2.2.2.1)), (y6, .inl (E.2 0, 900, .inl S.2.2.2.2.2.1)), (y7, .inl (E.2 0, 900, .inl S.2.2.2.2.2.2.1)), (y8, .inl (E.2 0, 901, .inl S.2.2.2.2.2.2.2.1)), (y9, .inl (E.2 0, 4000, .inl S.2.2.2.2.2.2.2.2.1)), (y18, .inl (E.2 1, 64, .inl rc))]
noncomputable def dNs (gw gh : Nat) (to : Int32) (du : Nat → Int32) (S : RR) : DEC := dNext gw gh to S.1 du S.2.1
noncomputable def runR (gw gh : Nat) (to : Int32) (du : Nat → Int32) : Nat → RR → RR
  | 0, S => S
  | f + 1, S => if S.2.2.2.2.1 = true then S else match dNs gw gh to du S with
    | none => S
    | some d => runR gw gh to du f (apR S d)
/-- the run ends within f rounds, and its steps and changes have room -/
def rROK (gw gh : Nat) (to : Int32) (du : Nat → Int32) : Nat → RR → Prop
  | 0, _ => False
  | f + 1, S => S.2.2.2.2.1 = false → S.2.2.2.2.2.2.2.2.2.1 < 900 ∧ S.2.2.2.2.2.2.2.2.2.2 + (dIt (dNs gw gh to du S)).length ≤ 4000 ∧ ∀ d, dNs gw gh to du S = some d → rROK gw gh to du f (apR S d)
theorem rrRes_ap (E : GE) (q : Nat) (y1 : Nat) (y2 : Nat) (y3 : Nat) (y4 : Nat) (y5 : Nat) (y6 : Nat) (y7 : Nat) (y8 : Nat) (y9 : Nat) (y10 : Nat) (y11 : Nat) (y12 : Nat) (y13 : Nat) (y14 : Nat) (y15 : Nat) (y16 : Nat) (y17 : Nat) (y18 : Nat) (gw : Nat) (gh : Nat) (th : Int32) (to : Int32) (mk : Nat) (du : Nat → Int32) (S : RR) (rc : Nat → Int32) (d : Int32 × Int32 × Nat × Bool × List Int32) : rrRes E q y1 y2 y3 y4 y5 y6 y7 y8 y9 y10 y11 y12 y13 y14 y15 y16 y17 y18 gw gh th to S.2.2.2.2.1 S.2.2.2.2.2.2.2.2.2.1 mk S.1 du S.2.1 S.2.2.1 S.2.2.2.1 S.2.2.2.2.2.1 S.2.2.2.2.2.2.1 S.2.2.2.2.2.2.2.1 S.2.2.2.2.2.2.2.2.1 rc S.2.2.2.2.2.2.2.2.2.2 (some d) = rrW E q y1 y2 y3 y4 y5 y6 y7 y8 y9 y10 y11 y12 y13 y14 y15 y16 y17 y18 gw gh th to mk du (apR S d) rc := by
  obtain ⟨no, pc, mo, z, is⟩ := d
  match mo with
  | 0 => rfl
  | 1 => rfl
  | _ + 2 => rfl
theorem apR_start {S : RR} (d : Int32 × Int32 × Nat × Bool × List Int32) : ((apR S d).2.2.2.2.2.2.2.1) ((apR S d).2.2.2.2.2.2.2.2.2.1) = nI ((apR S d).2.2.2.2.2.2.2.2.2.2) := by
  obtain ⟨no, pc, mo, z, is⟩ := d
  match mo with
  | 0 => exact pk_us
  | 1 => exact pk_us
  | _ + 2 => exact pk_us
theorem runR_w {gw gh : Nat} {to : Int32} {du : Nat → Int32} {S : RR} (h : S.2.2.2.2.1 = true) (f : Nat) : runR gw gh to du f S = S := by
  cases f with
  | zero => rfl
  | succ f => rw [runR, if_pos h]
