def rLast (P : Nat → Bool) : Nat → Int32 → Int32
  | 0, z => z
  | k + 1, z => rLast P k (if P k then nI k else z)
theorem rLast_some' {P : Nat → Bool} (n : Nat) : ∀ k z, k ≤ n → (z = -1 ∨ ∃ f, f < n ∧ z = nI f) → (rLast P k z = -1 ∨ ∃ f, f < n ∧ rLast P k z = nI f) := by
  intro k
  induction k with
  | zero => intro z _ h; exact h
  | succ k ih =>
    intro z hk h
    rw [rLast]
    refine ih _ (by omega) ?_
    by_cases q : P k = true
    · rw [if_pos q]; exact Or.inr ⟨k, by omega, rfl⟩
    · rw [if_neg q]; exact h
theorem rLast_some {P : Nat → Bool} {n : Nat} (h : ¬ rLast P n (-1) < 0) : ∃ f, f < n ∧ rLast P n (-1) = nI f := by
  rcases rLast_some' (P := P) n n (-1) (Nat.le_refl _) (Or.inl rfl) with q | q
  · rw [q] at h; exact absurd (by decide) h
  · exact q
theorem sub1 (x : Int32) : x + (-1) = x - 1 := by rw [Int32.sub_eq_add_neg]
theorem down_go {k : Nat} (hk : k < 2 ^ 31) (h : ¬ nI k - 1 < 0) : ∃ j, k = j + 1 := by
  rcases Nat.eq_zero_or_pos k with q | q
  · subst q; exact absurd (by decide) h
  · exact ⟨k - 1, by omega⟩
theorem down_0 {k : Nat} (hk : k < 2 ^ 31) (h : nI k - 1 < 0) : k = 0 := by
  rcases Nat.eq_zero_or_pos k with q | q
  · exact q
  · obtain ⟨j, rfl⟩ : ∃ j, k = j + 1 := ⟨k - 1, by omega⟩
    rw [nI_pred] at h
    exact absurd h (nI_pos (by omega))
def pA1 (gw gh : Nat) (ed du rc : Nat → Int32) (i : Nat) : DEC := if rNeed gw gh ed du i = true ∧ rc i = 0 then some (9, nI i, 0, false, []) else none
def pA2 (gw gh : Nat) (ed rc : Nat → Int32) (i : Nat) : DEC := if isEn gw gh i = true ∧ ed i = 0 ∧ rc (i / 2) = 0 then some (9, nI i, 1, false, [nI i]) else none
noncomputable def dAp (gw gh : Nat) (ed du : Nat → Int32) : DEC := if rLast (rNeed gw gh ed du) (gw * gh) (-1) < 0 then none else dOr (rL (pA1 gw gh ed du (rcS gw gh (usE ed false (-1)) (rLast (rNeed gw gh ed du) (gw * gh) (-1)).toNatClampNeg)) (gw * gh) (gw * gh)) (rL (pA2 gw gh ed (rcS gw gh (usE ed false (-1)) (rLast (rNeed gw gh ed du) (gw * gh) (-1)).toNatClampNeg)) (2 * (gw * gh)) (2 * (gw * gh)))
set_option maxHeartbeats 4000000 in
set_option maxRecDepth 100000 in
theorem cX6_apart_ct (l : Launch) (E : GE) (sz : Nat) (q : Nat) (y1 : Nat) (y2 : Nat) (y3 : Nat) (y4 : Nat) (y5 : Nat) (y6 : Nat) (y7 : Nat) (y8 : Nat) (y9 : Nat) (y10 : Nat) (y11 : Nat) (y12 : Nat) (y13 : Nat) (y14 : Nat) (y15 : Nat) (y16 : Nat) (y17 : Nat) (y18 : Nat) (gw : Nat) (gh : Nat) (th : Int32) (to : Int32) (wr : Bool) (k : Nat) (mk : Nat) (ed : Nat → Int32) (du : Nat → Int32) (sh : Nat → Int32) (eb : Nat → Int32) (sb : Nat → Int32) (nu : Nat → Int32) (pl : Nat → Int32) (bg : Nat → Int32) (ch : Nat → Int32) (rc : Nat → Int32) (t : Nat)  (hg1 : 1 ≤ gw) (hh1 : 1 ≤ gh) (hg8 : gw ≤ 8) (hh8 : gh ≤ 8) (hk : k < 900) (htm : t + (dIt (dAp gw gh ed du)).length ≤ 4000) (ht : bg k = nI t) : wrM l yX6_apart wsX6_apart ({ frames := 5, cells := 0, slots := 0, locals := 109 }) E sz [.ref q] [(q, .inr (7, [.int th, .int (nI gw), .int (nI gh), .ref y1, .ref y2, .ref y3, .int to, .int (b2i wr), .ref y4, .ref y5, .int (nI k), .ref y6, .ref y7, .ref y8, .ref y9, .int (nI mk), .ref y10, .ref y11, .ref y12, .ref y13, .ref y14, .ref y15, .ref y16, .ref y17, .ref y18])), (y1, .inl (E.2 0, 128, .inl ed)), (y2, .inl (E.2 0, 64, .inl du)), (y3, .inl (E.2 0, 64, .inl sh)), (y4, .inl (E.2 0, 128, .inl eb)), (y5, .inl (E.2 0, 64, .inl sb)), (y6, .inl (E.2 0, 900, .inl nu)), (y7, .inl (E.2 0, 900, .inl pl)), (y8, .inl (E.2 0, 901, .inl bg)), (y9, .inl (E.2 0, 4000, .inl ch)), (y18, .inl (E.2 1, 64, .inl rc))] (some (.int (b2i (dAp gw gh ed du).isSome))) (fun cs' => ∃ rc', cs' = rrRes E q y1 y2 y3 y4 y5 y6 y7 y8 y9 y10 y11 y12 y13 y14 y15 y16 y17 y18 gw gh th to wr k mk ed du sh eb sb nu pl bg ch rc' t (dAp gw gh ed du)) 0 0 := by
  refine Met.ofW (cc := cX6_apart) (maxL := 3) (ret := (some .boolean)) (by decide) rfl ?_
  intro p e s m args below meth c s₁ B hml hv
  obtain ⟨rfl, hsz, hE, hP, hD0⟩ := hv
  have hx := B.exec
  have hb := B.bytes
  have hr := B.returns
  have hts := atoms_spec (ws := wsX6_apart) B.pre
  have hown : s.vm.findClass RX6 = some m.cls := findClass_of_methodNamed B.named
  have hlocks := B.notSynchronized
  subst hsz
  have hD := hD0.self (sz := s.heap.size)
  generalize hAe : va_A [(q, .inr (7, [.int th, .int (nI gw), .int (nI gh), .ref y1, .ref y2, .ref y3, .int to, .int (b2i wr), .ref y4, .ref y5, .int (nI k), .ref y6, .ref y7, .ref y8, .ref y9, .int (nI mk), .ref y10, .ref y11, .ref y12, .ref y13, .ref y14, .ref y15, .ref y16, .ref y17, .ref y18])), (y1, .inl (E.2 0, 128, .inl ed)), (y2, .inl (E.2 0, 64, .inl du)), (y3, .inl (E.2 0, 64, .inl sh)), (y4, .inl (E.2 0, 128, .inl eb)), (y5, .inl (E.2 0, 64, .inl sb)), (y6, .inl (E.2 0, 900, .inl nu)), (y7, .inl (E.2 0, 900, .inl pl)), (y8, .inl (E.2 0, 901, .inl bg)), (y9, .inl (E.2 0, 4000, .inl ch)), (y18, .inl (E.2 1, 64, .inl rc))] s.heap.size = A at hD ⊢
  have hA : ∀ q : Nat, s.heap.size ≤ q → A q := fun q h => by rw [← hAe]; exact Or.inr h
  have hS : va_S A s.heap s.heap [] := va_S.rf
  have hP : va_P E.1 vwCl [(q, .inr (7, [.int th, .int (nI gw), .int (nI gh), .ref y1, .ref y2, .ref y3, .int to, .int (b2i wr), .ref y4, .ref y5, .int (nI k), .ref y6, .ref y7, .ref y8, .ref y9, .int (nI mk), .ref y10, .ref y11, .ref y12, .ref y13, .ref y14, .ref y15, .ref y16, .ref y17, .ref y18])), (y1, .inl (E.2 0, 128, .inl ed)), (y2, .inl (E.2 0, 64, .inl du)), (y3, .inl (E.2 0, 64, .inl sh)), (y4, .inl (E.2 0, 128, .inl eb)), (y5, .inl (E.2 0, 64, .inl sb)), (y6, .inl (E.2 0, 900, .inl nu)), (y7, .inl (E.2 0, 900, .inl pl)), (y8, .inl (E.2 0, 901, .inl bg)), (y9, .inl (E.2 0, 4000, .inl ch)), (y18, .inl (E.2 1, 64, .inl rc))] s.heap := hP
  have hl := lv_entry ([.ref q]) (n := 3) (Nat.le_of_ble_eq_true rfl)
  rw [lg_entry_eq]
  generalize (lg_sl ([.ref q]) ++ List.replicate (3 - (lg_sl ([.ref q])).length) Slot.unset).toArray = ls at hl ⊢
  have hl : lv_has ls 3 [(0, .ref q)] := hl
  have hf_66 := hts (.fieldLink RX6 66 "LoopRegionsModel" "reached" "[Z") (by decide +kernel)
  have hf_7 := hts (.fieldLink RX6 7 "LoopRegionsModel" "edges" "[I") (by decide +kernel)
  have hi_RX6 : ∀ w ∈ wsX60, w ∈ wsX6_apart := by decide +kernel
  have hN : gw * gh ≤ 64 := Nat.mul_le_mul hg8 hh8
  have hN1 : 1 ≤ gw * gh := Nat.mul_le_mul hg1 hh1
  refine lv_iconst (v := (-1)) hx hb dX6_apart_0 (by decide) ?_
  refine lv_istore_n (lv' := [(1, .int (-1)), (0, .ref q)]) hx hb dX6_apart_1 rfl hl (by decide) rfl (fun ls hl => ?_)
  refine lv_aload_n hx hb dX6_apart_2 rfl (lv_at hl 1 rfl) ?_
  refine crVi (As := []) (rest := []) ⟨hx, hb, hml, hown, hts⟩ hE (cX6_all_ct l E q y1 y2 y3 y4 y5 y6 y7 y8 y9 y10 y11 y12 y13 y14 y15 y16 y17 y18 gw gh th to wr k mk) (cwV 0 hts gX6_apart_X6_all rfl rfl rfl (by decide +kernel) ⟨Nat.le_of_ble_eq_true rfl, Nat.le_of_ble_eq_true rfl⟩) (hP.sub (ws' := [(q, .inr (7, [.int th, .int (nI gw), .int (nI gh), .ref y1, .ref y2, .ref y3, .int to, .int (b2i wr), .ref y4, .ref y5, .int (nI k), .ref y6, .ref y7, .ref y8, .ref y9, .int (nI mk), .ref y10, .ref y11, .ref y12, .ref y13, .ref y14, .ref y15, .ref y16, .ref y17, .ref y18]))]) [0] rfl) (va_recv hE.1 hP (ci := 7) (q0 := 0) rfl rfl) rfl hl.1 rfl (Nat.le_of_ble_eq_true rfl) dX6_apart_3 ⟨Nat.zero_le _, Nat.zero_le _⟩ ?_
  refine lv_iconst (v := 1) hx hb dX6_apart_6 (by decide) ?_
  refine lv_isub hx hb dX6_apart_7 ?_
  refine lv_topi (fun x_1 ex_1 => ?_)
  refine lv_istore_n (lv' := [(2, .int x_1), (1, .int (-1)), (0, .ref q)]) hx hb dX6_apart_8 rfl hl (by decide) rfl (fun ls hl => ?_)
  refine W_loopR (σ := Int32 × Int32) (J := 9) (nL := 3) (fun n9 x => ∃ k9, n9 = k9 + 1 ∧ k9 ≤ gw * gh ∧ x.1 = nI k9 - 1 ∧ rLast (rNeed gw gh ed du) k9 x.2 = rLast (rNeed gw gh ed du) (gw * gh) (-1)) (fun x => [(2, .int x.1), (1, .int x.2), (0, .ref q)]) (fun x h => by obtain ⟨k9, h, _⟩ := h; exact absurd h (by omega)) (fun n_9 ih_9 x ls hI_9 hl => ?_) (gw * gh + 1) (x_1, (-1)) (⟨gw * gh, rfl, Nat.le_refl _, by subst_vars; rfl, by subst_vars; rfl⟩) (lv_sub hl [0, 1, 2] rfl)
  obtain ⟨cc, fi⟩ := x
  try dsimp only at hI_9
  have hl : lv_has ls 3 [(2, .int cc), (1, .int fi), (0, .ref q)] := hl
  obtain ⟨k9, hk_9, hN_9, rfl, hv_9⟩ := hI_9
  obtain rfl : n_9 = k9 := Nat.succ.inj hk_9
  have hl : lv_has ls 3 [(2, .int (nI n_9 - 1)), (1, .int fi), (0, .ref q)] := hl
  refine lv_iload_n hx hb dX6_apart_9 rfl (lv_at hl 0 rfl) ?_
  refine lv_if_lt (tgt := 33) hx hb dX6_apart_10 (by decide) (fun c_10 => ?_) (fun c_10 => ?_)
  · skip
    obtain rfl : n_9 = 0 := down_0 (by omega) c_10
    obtain rfl : fi = rLast (rNeed gw gh ed du) (gw * gh) (-1) := hv_9
    have hl : lv_has ls 3 [(2, .int (nI 0 - 1)), (1, .int (rLast (rNeed gw gh ed du) (gw * gh) (-1))), (0, .ref q)] := hl
    refine lv_iload_n hx hb dX6_apart_33 rfl (lv_at hl 1 rfl) ?_
    refine lv_if_ge (tgt := 39) hx hb dX6_apart_34 (by decide) (fun c_34 => ?_) (fun c_34 => ?_)
    · skip
      have hF0 : ¬ rLast (rNeed gw gh ed du) (gw * gh) (-1) < 0 := Int32.not_lt.mpr c_34
      obtain ⟨f0, hf0, hF⟩ := rLast_some hF0
      have hc0 : (rLast (rNeed gw gh ed du) (gw * gh) (-1)).toNatClampNeg = f0 := by rw [hF]; exact nI_clamp (by omega)
      have hdd : dAp gw gh ed du = dOr (rL (pA1 gw gh ed du (rcS gw gh (usE ed false (-1)) f0)) (gw * gh) (gw * gh)) (rL (pA2 gw gh ed (rcS gw gh (usE ed false (-1)) f0)) (2 * (gw * gh)) (2 * (gw * gh))) := by rw [dAp, if_neg hF0, hc0]
      rw [hF] at hl
      have hl : lv_has ls 3 [(2, .int (nI 0 - 1)), (1, .int (nI f0)), (0, .ref q)] := hl
      refine lv_aload_n hx hb dX6_apart_39 rfl (lv_at hl 2 rfl) ?_
      refine lv_iload_n hx hb dX6_apart_40 rfl (lv_at hl 1 rfl) ?_
      refine lv_iconst (v := 0) hx hb dX6_apart_41 (by decide) ?_
      refine lv_iconst (v := (-1)) hx hb dX6_apart_42 (by decide) ?_
      refine wrV (As := [.int (nI f0), .int 0, .int (-1)]) (rest := []) (wr := [(y2, .inl (E.2 0, 64, .inl du)), (y3, .inl (E.2 0, 64, .inl sh)), (y4, .inl (E.2 0, 128, .inl eb)), (y5, .inl (E.2 0, 64, .inl sb)), (y6, .inl (E.2 0, 900, .inl nu)), (y7, .inl (E.2 0, 900, .inl pl)), (y8, .inl (E.2 0, 901, .inl bg)), (y9, .inl (E.2 0, 4000, .inl ch))]) ⟨hx, hb, hml, hown, hts⟩ hE (cX6_spread_ct l E s.heap.size q y1 y2 y3 y4 y5 y6 y7 y8 y9 y10 y11 y12 y13 y14 y15 y16 y17 y18 gw gh th to wr k mk ed rc f0 false (-1) (by first | assumption | omega | (subst_vars; assumption)) (by first | assumption | omega | (subst_vars; assumption)) (by first | assumption | omega | (subst_vars; assumption)) (by first | assumption | omega | (subst_vars; assumption)) (by first | assumption | omega | (subst_vars; assumption))) (cwV 3 hts gX6_apart_X6_spread rfl rfl rfl (by decide +kernel) ⟨Nat.le_of_ble_eq_true rfl, Nat.le_of_ble_eq_true rfl⟩) hP hD hS hA [0, 1, 10] [2, 3, 4, 5, 6, 7, 8, 9] rfl rfl (by decide) (by decide) (hP.sub (ws' := [(q, .inr (7, [.int th, .int (nI gw), .int (nI gh), .ref y1, .ref y2, .ref y3, .int to, .int (b2i wr), .ref y4, .ref y5, .int (nI k), .ref y6, .ref y7, .ref y8, .ref y9, .int (nI mk), .ref y10, .ref y11, .ref y12, .ref y13, .ref y14, .ref y15, .ref y16, .ref y17, .ref y18])), (y1, .inl (E.2 0, 128, .inl ed)), (y18, .inl (E.2 1, 64, .inl rc))]) [0, 1, 10] rfl) (hD.sub (ws' := [(q, .inr (7, [.int th, .int (nI gw), .int (nI gh), .ref y1, .ref y2, .ref y3, .int to, .int (b2i wr), .ref y4, .ref y5, .int (nI k), .ref y6, .ref y7, .ref y8, .ref y9, .int (nI mk), .ref y10, .ref y11, .ref y12, .ref y13, .ref y14, .ref y15, .ref y16, .ref y17, .ref y18])), (y1, .inl (E.2 0, 128, .inl ed)), (y18, .inl (E.2 1, 64, .inl rc))]) [0, 1, 10] (by decide) rfl) (va_recv hE.1 hP (ci := 7) (q0 := 0) rfl rfl) rfl hl.1 rfl (Nat.le_of_ble_eq_true rfl) dX6_apart_43 ⟨Nat.zero_le _, Nat.zero_le _⟩ (fun cs_ H locs h_2 hP hD hS => ?_)
      obtain ⟨r_3, hsI_r_3, hsC_r_3, rfl⟩ := h_2
      have hP : va_P E.1 vwCl [(q, .inr (7, [.int th, .int (nI gw), .int (nI gh), .ref y1, .ref y2, .ref y3, .int to, .int (b2i wr), .ref y4, .ref y5, .int (nI k), .ref y6, .ref y7, .ref y8, .ref y9, .int (nI mk), .ref y10, .ref y11, .ref y12, .ref y13, .ref y14, .ref y15, .ref y16, .ref y17, .ref y18])), (y1, .inl (E.2 0, 128, .inl ed)), (y2, .inl (E.2 0, 64, .inl du)), (y3, .inl (E.2 0, 64, .inl sh)), (y4, .inl (E.2 0, 128, .inl eb)), (y5, .inl (E.2 0, 64, .inl sb)), (y6, .inl (E.2 0, 900, .inl nu)), (y7, .inl (E.2 0, 900, .inl pl)), (y8, .inl (E.2 0, 901, .inl bg)), (y9, .inl (E.2 0, 4000, .inl ch)), (y18, .inl (E.2 1, 64, .inl r_3))] H := hP.sub [8, 9, 0, 1, 2, 3, 4, 5, 6, 7, 10] rfl
      have hD : va_D A [(q, .inr (7, [.int th, .int (nI gw), .int (nI gh), .ref y1, .ref y2, .ref y3, .int to, .int (b2i wr), .ref y4, .ref y5, .int (nI k), .ref y6, .ref y7, .ref y8, .ref y9, .int (nI mk), .ref y10, .ref y11, .ref y12, .ref y13, .ref y14, .ref y15, .ref y16, .ref y17, .ref y18])), (y1, .inl (E.2 0, 128, .inl ed)), (y2, .inl (E.2 0, 64, .inl du)), (y3, .inl (E.2 0, 64, .inl sh)), (y4, .inl (E.2 0, 128, .inl eb)), (y5, .inl (E.2 0, 64, .inl sb)), (y6, .inl (E.2 0, 900, .inl nu)), (y7, .inl (E.2 0, 900, .inl pl)), (y8, .inl (E.2 0, 901, .inl bg)), (y9, .inl (E.2 0, 4000, .inl ch)), (y18, .inl (E.2 1, 64, .inl r_3))] := hD.sub [8, 9, 0, 1, 2, 3, 4, 5, 6, 7, 10] (by decide) rfl
      refine lv_iconst (v := 0) hx hb dX6_apart_46 (by decide) ?_
      refine lv_istore_n (lv' := [(2, .int 0), (1, .int (nI f0)), (0, .ref q)]) hx hb dX6_apart_47 rfl hl (by decide) rfl (fun ls hl => ?_)
      refine W_loopR (σ := Int32) (J := 48) (nL := 3) (fun n9 x => ∃ k9, n9 = k9 + 1 ∧ k9 ≤ gw * gh ∧ x = nI (gw * gh - k9) ∧ rL (pA1 gw gh ed du (rcS gw gh (usE ed false (-1)) f0)) (gw * gh) k9 = rL (pA1 gw gh ed du (rcS gw gh (usE ed false (-1)) f0)) (gw * gh) (gw * gh)) (fun x => [(2, .int x), (1, .int (nI f0)), (0, .ref q)]) (fun x h => by obtain ⟨k9, h, _⟩ := h; exact absurd h (by omega)) (fun n_48 ih_48 x ls hI_48 hl => ?_) (gw * gh + 1) 0 (⟨gw * gh, rfl, Nat.le_refl _, by rw [Nat.sub_self]; rfl, rfl⟩) (lv_sub hl [0, 1, 2] rfl)
      obtain ⟨x_48_, rfl⟩ : ∃ z, z = x := ⟨_, rfl⟩
      try dsimp only at hI_48
      have hl : lv_has ls 3 [(2, .int x_48_), (1, .int (nI f0)), (0, .ref q)] := hl
      obtain ⟨k9, hk_48, hN_48, rfl, hv_48⟩ := hI_48
      obtain rfl : n_48 = k9 := Nat.succ.inj hk_48
      have hl : lv_has ls 3 [(2, .int (nI (gw * gh - n_48))), (1, .int (nI f0)), (0, .ref q)] := hl
      refine lv_iload_n hx hb dX6_apart_48 rfl (lv_at hl 0 rfl) ?_
      refine lv_aload_n hx hb dX6_apart_49 rfl (lv_at hl 2 rfl) ?_
      refine crVi (As := []) (rest := [.int (nI (gw * gh - n_48))]) ⟨hx, hb, hml, hown, hts⟩ hE (cX6_all_ct l E q y1 y2 y3 y4 y5 y6 y7 y8 y9 y10 y11 y12 y13 y14 y15 y16 y17 y18 gw gh th to wr k mk) (cwV 0 hts gX6_apart_X6_all rfl rfl rfl (by decide +kernel) ⟨Nat.le_of_ble_eq_true rfl, Nat.le_of_ble_eq_true rfl⟩) (hP.sub (ws' := [(q, .inr (7, [.int th, .int (nI gw), .int (nI gh), .ref y1, .ref y2, .ref y3, .int to, .int (b2i wr), .ref y4, .ref y5, .int (nI k), .ref y6, .ref y7, .ref y8, .ref y9, .int (nI mk), .ref y10, .ref y11, .ref y12, .ref y13, .ref y14, .ref y15, .ref y16, .ref y17, .ref y18]))]) [0] rfl) (va_recv hE.1 hP (ci := 7) (q0 := 0) rfl rfl) rfl hl.1 rfl (Nat.le_of_ble_eq_true rfl) dX6_apart_50 ⟨Nat.zero_le _, Nat.zero_le _⟩ ?_
      refine lv_icmp_ge (tgt := 87) hx hb dX6_apart_53 (by decide) (fun c_53 => ?_) (fun c_53 => ?_)
      · skip
        have m_53 : (gw * gh) ≤ (gw * gh - n_48) := (nI_leI (a := (gw * gh)) (b := (gw * gh - n_48)) (by omega) (by omega)).mp c_53
        have k_53 : ¬ (gw * gh - n_48) < (gw * gh) := Nat.not_lt.mpr m_53
        have hx_48 : rL (pA1 gw gh ed du (rcS gw gh (usE ed false (-1)) f0)) (gw * gh) (gw * gh) = none := by have h0 : n_48 = 0 := (by omega); subst h0; rw [← hv_48]; rfl
        refine lv_iconst (v := 0) hx hb dX6_apart_87 (by decide) ?_
        refine lv_istore_n (lv' := [(2, .int 0), (1, .int (nI f0)), (0, .ref q)]) hx hb dX6_apart_88 rfl hl (by decide) rfl (fun ls hl => ?_)
        refine W_loopR (σ := Int32) (J := 89) (nL := 3) (fun n9 x => ∃ k9, n9 = k9 + 1 ∧ k9 ≤ 2 * (gw * gh) ∧ x = nI (2 * (gw * gh) - k9) ∧ rL (pA2 gw gh ed (rcS gw gh (usE ed false (-1)) f0)) (2 * (gw * gh)) k9 = rL (pA2 gw gh ed (rcS gw gh (usE ed false (-1)) f0)) (2 * (gw * gh)) (2 * (gw * gh))) (fun x => [(2, .int x), (1, .int (nI f0)), (0, .ref q)]) (fun x h => by obtain ⟨k9, h, _⟩ := h; exact absurd h (by omega)) (fun n_89 ih_89 x ls hI_89 hl => ?_) (2 * (gw * gh) + 1) 0 (⟨2 * (gw * gh), rfl, Nat.le_refl _, by rw [Nat.sub_self]; rfl, rfl⟩) (lv_sub hl [0, 1, 2] rfl)
        obtain ⟨x_89_, rfl⟩ : ∃ z, z = x := ⟨_, rfl⟩
        try dsimp only at hI_89
        have hl : lv_has ls 3 [(2, .int x_89_), (1, .int (nI f0)), (0, .ref q)] := hl
        obtain ⟨k9, hk_89, hN_89, rfl, hv_89⟩ := hI_89
        obtain rfl : n_89 = k9 := Nat.succ.inj hk_89
        have hl : lv_has ls 3 [(2, .int (nI (2 * (gw * gh) - n_89))), (1, .int (nI f0)), (0, .ref q)] := hl
        refine lv_iload_n hx hb dX6_apart_89 rfl (lv_at hl 0 rfl) ?_
        refine lv_iconst (v := 2) hx hb dX6_apart_90 (by decide) ?_
        refine lv_aload_n hx hb dX6_apart_91 rfl (lv_at hl 2 rfl) ?_
        refine crVi (As := []) (rest := [.int 2, .int (nI (2 * (gw * gh) - n_89))]) ⟨hx, hb, hml, hown, hts⟩ hE (cX6_all_ct l E q y1 y2 y3 y4 y5 y6 y7 y8 y9 y10 y11 y12 y13 y14 y15 y16 y17 y18 gw gh th to wr k mk) (cwV 0 hts gX6_apart_X6_all rfl rfl rfl (by decide +kernel) ⟨Nat.le_of_ble_eq_true rfl, Nat.le_of_ble_eq_true rfl⟩) (hP.sub (ws' := [(q, .inr (7, [.int th, .int (nI gw), .int (nI gh), .ref y1, .ref y2, .ref y3, .int to, .int (b2i wr), .ref y4, .ref y5, .int (nI k), .ref y6, .ref y7, .ref y8, .ref y9, .int (nI mk), .ref y10, .ref y11, .ref y12, .ref y13, .ref y14, .ref y15, .ref y16, .ref y17, .ref y18]))]) [0] rfl) (va_recv hE.1 hP (ci := 7) (q0 := 0) rfl rfl) rfl hl.1 rfl (Nat.le_of_ble_eq_true rfl) dX6_apart_92 ⟨Nat.zero_le _, Nat.zero_le _⟩ ?_
        refine lv_imul hx hb dX6_apart_95 ?_
        refine lv_eqi (show (2 * (nI (gw * gh)) : Int32) = nI (2 * (gw * gh)) from pk_mul 2 (gw * gh)) ?_
        refine lv_icmp_ge (tgt := 143) hx hb dX6_apart_96 (by decide) (fun c_96 => ?_) (fun c_96 => ?_)
        · skip
          have m_96 : (2 * (gw * gh)) ≤ (2 * (gw * gh) - n_89) := (nI_leI (a := (2 * (gw * gh))) (b := (2 * (gw * gh) - n_89)) (by omega) (by omega)).mp c_96
          have k_96 : ¬ (2 * (gw * gh) - n_89) < (2 * (gw * gh)) := Nat.not_lt.mpr m_96
          have hx_89 : rL (pA2 gw gh ed (rcS gw gh (usE ed false (-1)) f0)) (2 * (gw * gh)) (2 * (gw * gh)) = none := by have h0 : n_89 = 0 := (by omega); subst h0; rw [← hv_89]; rfl
          have hd : dAp gw gh ed du = none := by rw [hdd, dOr_n hx_48, hx_89]
          refine lv_iconst (v := 0) hx hb dX6_apart_143 (by decide) ?_
          exact W.zret (v := 0) hx hb hr (rfl) (fun t9 ht9 hW => ⟨⟨by rw [hd]; rfl, [(q, .inr (7, [.int th, .int (nI gw), .int (nI gh), .ref y1, .ref y2, .ref y3, .int to, .int (b2i wr), .ref y4, .ref y5, .int (nI k), .ref y6, .ref y7, .ref y8, .ref y9, .int (nI mk), .ref y10, .ref y11, .ref y12, .ref y13, .ref y14, .ref y15, .ref y16, .ref y17, .ref y18])), (y1, .inl (E.2 0, 128, .inl ed)), (y2, .inl (E.2 0, 64, .inl du)), (y3, .inl (E.2 0, 64, .inl sh)), (y4, .inl (E.2 0, 128, .inl eb)), (y5, .inl (E.2 0, 64, .inl sb)), (y6, .inl (E.2 0, 900, .inl nu)), (y7, .inl (E.2 0, 900, .inl pl)), (y8, .inl (E.2 0, 901, .inl bg)), (y9, .inl (E.2 0, 4000, .inl ch)), (y18, .inl (E.2 1, 64, .inl r_3))], ⟨_, by rw [hd]; rfl⟩, by rw [ht9]; exact hP, hD⟩, hS.F ht9⟩) hS.2.2 dX6_apart_144
        · skip
          have m_96 : ¬ (2 * (gw * gh)) ≤ (2 * (gw * gh) - n_89) := fun q => c_96 ((nI_leI (a := (2 * (gw * gh))) (b := (2 * (gw * gh) - n_89)) (by omega) (by omega)).mpr q)
          have k_96 : (2 * (gw * gh) - n_89) < (2 * (gw * gh)) := Nat.lt_of_not_le m_96
          obtain ⟨j_89, rfl⟩ : ∃ j, n_89 = j + 1 := ⟨n_89 - 1, by omega⟩
          obtain ⟨i_89, hi_89⟩ : ∃ i, i = 2 * (gw * gh) - (j_89 + 1) := ⟨_, rfl⟩
          have hib_89 : i_89 < 2 * (gw * gh) := by omega
          rw [← hi_89] at hl
          have hl : lv_has ls 3 [(2, .int (nI i_89)), (1, .int (nI f0)), (0, .ref q)] := hl
          refine lv_aload_n hx hb dX6_apart_99 rfl (lv_at hl 2 rfl) ?_
          refine lv_iload_n hx hb dX6_apart_100 rfl (lv_at hl 0 rfl) ?_
          refine crVi (As := [.int (nI i_89)]) (rest := []) ⟨hx, hb, hml, hown, hts⟩ hE (cX6_isEdge_ct l E q y1 y2 y3 y4 y5 y6 y7 y8 y9 y10 y11 y12 y13 y14 y15 y16 y17 y18 gw gh th to wr k mk (nI i_89) (by first | assumption | omega | (subst_vars; assumption)) (by first | assumption | omega | (subst_vars; assumption)) (by first | assumption | omega | (subst_vars; assumption)) (by first | assumption | omega | (subst_vars; assumption))) (cwV 1 hts gX6_apart_X6_isEdge rfl rfl rfl (by decide +kernel) ⟨Nat.le_of_ble_eq_true rfl, Nat.le_of_ble_eq_true rfl⟩) (hP.sub (ws' := [(q, .inr (7, [.int th, .int (nI gw), .int (nI gh), .ref y1, .ref y2, .ref y3, .int to, .int (b2i wr), .ref y4, .ref y5, .int (nI k), .ref y6, .ref y7, .ref y8, .ref y9, .int (nI mk), .ref y10, .ref y11, .ref y12, .ref y13, .ref y14, .ref y15, .ref y16, .ref y17, .ref y18]))]) [0] rfl) (va_recv hE.1 hP (ci := 7) (q0 := 0) rfl rfl) rfl hl.1 rfl (Nat.le_of_ble_eq_true rfl) dX6_apart_101 ⟨Nat.zero_le _, Nat.zero_le _⟩ ?_
          refine lv_eqi (congrArg b2i (rIsE_nI (j := i_89) (by omega))) ?_
          refine lv_if_eq (tgt := 137) hx hb dX6_apart_104 (by decide) (fun c_104 => ?_) (fun c_104 => ?_)
          · skip
            rw [rL_no hi_89 (show pA2 gw gh ed (rcS gw gh (usE ed false (-1)) f0) i_89 = none by rw [pA2, if_neg (fun h => by rw [b2i_eq0, h.1] at c_104; cases c_104)])] at hv_89
            refine lv_iinc (v := nI (i_89 + 1)) (lv' := [(2, .int (nI (i_89 + 1))), (1, .int (nI f0)), (0, .ref q)]) hx hb dX6_apart_137 hl (k := 0) rfl (nI_1 _) (by decide) rfl (fun ls hl => ?_)
            refine lv_goto (tgt := 89) hx hb dX6_apart_140 (by decide) ?_
            exact ih_89 (nI (i_89 + 1)) ls (⟨j_89, rfl, by omega, congrArg nI (by omega), hv_89⟩) (lv_sub hl [0, 1, 2] rfl)
          · skip
            refine lv_aload_n hx hb dX6_apart_107 rfl (lv_at hl 2 rfl) ?_
            refine va_get (D := E.1) (ci := 7) (v := .ref y1) (C := RX6) (T := TX6) (N := 25) hx hb hts hi_RX6 hown hE.1 hP 0 rfl rfl 3 (by decide) hf_7 (fun _ h9 => h9) rfl dX6_apart_108 ?_
            refine lv_iload_n hx hb dX6_apart_111 rfl (lv_at hl 0 rfl) ?_
            refine va_iald hx hb hE.1 hP 1 0 rfl rfl (show vp_in (nI i_89) 128 from vp_in_nI (by omega) (by decide)) dX6_apart_112 ?_
            refine lv_eqi (congrArg ed (show (nI i_89 : Int32).toNatClampNeg = i_89 from nI_clamp (by omega))) ?_
            refine lv_if_ne (tgt := 137) hx hb dX6_apart_113 (by decide) (fun c_113 => ?_) (fun c_113 => ?_)
            · skip
              rw [rL_no hi_89 (show pA2 gw gh ed (rcS gw gh (usE ed false (-1)) f0) i_89 = none by rw [pA2, if_neg (fun h => c_113 h.2.1)])] at hv_89
              refine lv_iinc (v := nI (i_89 + 1)) (lv' := [(2, .int (nI (i_89 + 1))), (1, .int (nI f0)), (0, .ref q)]) hx hb dX6_apart_137 hl (k := 0) rfl (nI_1 _) (by decide) rfl (fun ls hl => ?_)
              refine lv_goto (tgt := 89) hx hb dX6_apart_140 (by decide) ?_
              exact ih_89 (nI (i_89 + 1)) ls (⟨j_89, rfl, by omega, congrArg nI (by omega), hv_89⟩) (lv_sub hl [0, 1, 2] rfl)
            · skip
              refine lv_aload_n hx hb dX6_apart_116 rfl (lv_at hl 2 rfl) ?_
              refine va_get (D := E.1) (ci := 7) (v := .ref y18) (C := RX6) (T := TX6) (N := 25) hx hb hts hi_RX6 hown hE.1 hP 0 rfl rfl 24 (by decide) hf_66 (fun _ h9 => h9) rfl dX6_apart_117 ?_
              refine lv_iload_n hx hb dX6_apart_120 rfl (lv_at hl 0 rfl) ?_
              refine lv_iconst (v := 2) hx hb dX6_apart_121 (by decide) ?_
              refine lv_idiv hx hb dX6_apart_122 (by decide) ?_
              refine lv_eqi (show ((nI i_89) / 2 : Int32) = nI (i_89 / 2) from pk_div (a := i_89) (d := 2) (by omega) (by omega) (by omega)) ?_
              refine va_zald hx hb hE.1 hP 10 1 rfl rfl (show vp_in (nI (i_89 / 2)) 64 from vp_in_nI (by omega) (by decide)) dX6_apart_123 ?_
              refine lv_eqi (congrArg r_3 (show (nI (i_89 / 2) : Int32).toNatClampNeg = (i_89 / 2) from nI_clamp (by omega))) ?_
              refine lv_eqi (sp_eq hsI_r_3 hsC_r_3 (i_89 / 2) (by omega)) ?_
              refine lv_if_ne (tgt := 137) hx hb dX6_apart_124 (by decide) (fun c_124 => ?_) (fun c_124 => ?_)
              · skip
                rw [rL_no hi_89 (show pA2 gw gh ed (rcS gw gh (usE ed false (-1)) f0) i_89 = none by rw [pA2, if_neg (fun h => c_124 h.2.2)])] at hv_89
                refine lv_iinc (v := nI (i_89 + 1)) (lv' := [(2, .int (nI (i_89 + 1))), (1, .int (nI f0)), (0, .ref q)]) hx hb dX6_apart_137 hl (k := 0) rfl (nI_1 _) (by decide) rfl (fun ls hl => ?_)
                refine lv_goto (tgt := 89) hx hb dX6_apart_140 (by decide) ?_
                exact ih_89 (nI (i_89 + 1)) ls (⟨j_89, rfl, by omega, congrArg nI (by omega), hv_89⟩) (lv_sub hl [0, 1, 2] rfl)
              · skip
                have hp : pA2 gw gh ed (rcS gw gh (usE ed false (-1)) f0) i_89 = some (9, nI i_89, 1, false, [nI i_89]) := by rw [b2i_eq0] at c_104; rw [pA2, if_pos ⟨by simpa using c_104, c_113, c_124⟩]
                have hd : dAp gw gh ed du = some (9, nI i_89, 1, false, [nI i_89]) := by rw [hdd, dOr_n hx_48, ← hv_89, rL_yes hi_89 hp]
                refine lv_aload_n hx hb dX6_apart_127 rfl (lv_at hl 2 rfl) ?_
                refine lv_bipush (v := 9) hx hb dX6_apart_128 (by decide) ?_
                refine lv_iload_n hx hb dX6_apart_130 rfl (lv_at hl 0 rfl) ?_
                refine lv_iload_n hx hb dX6_apart_131 rfl (lv_at hl 0 rfl) ?_
                refine lv_iconst (v := 2) hx hb dX6_apart_132 (by decide) ?_
                refine wrV (As := [.int 9, .int (nI i_89), .int (nI i_89), .int 2]) (rest := []) (wr := [(y2, .inl (E.2 0, 64, .inl du)), (y3, .inl (E.2 0, 64, .inl sh)), (y5, .inl (E.2 0, 64, .inl sb)), (y18, .inl (E.2 1, 64, .inl r_3))]) ⟨hx, hb, hml, hown, hts⟩ hE (cX6_setOne_ct l E H.size q y1 y2 y3 y4 y5 y6 y7 y8 y9 y10 y11 y12 y13 y14 y15 y16 y17 y18 gw gh th to wr k mk ed eb nu pl bg ch t 9 (nI i_89) i_89 false (by first | assumption | omega | (subst_vars; assumption)) (by first | assumption | omega | (subst_vars; assumption)) (by rw [hd] at htm; exact htm) (by first | assumption | omega | (subst_vars; assumption))) (cwV 4 hts gX6_apart_X6_setOne rfl rfl rfl (by decide +kernel) ⟨Nat.le_of_ble_eq_true rfl, Nat.le_of_ble_eq_true rfl⟩) hP hD hS hA [0, 1, 4, 6, 7, 8, 9] [2, 3, 5, 10] rfl rfl (by decide) (by decide) (hP.sub (ws' := [(q, .inr (7, [.int th, .int (nI gw), .int (nI gh), .ref y1, .ref y2, .ref y3, .int to, .int (b2i wr), .ref y4, .ref y5, .int (nI k), .ref y6, .ref y7, .ref y8, .ref y9, .int (nI mk), .ref y10, .ref y11, .ref y12, .ref y13, .ref y14, .ref y15, .ref y16, .ref y17, .ref y18])), (y1, .inl (E.2 0, 128, .inl ed)), (y4, .inl (E.2 0, 128, .inl eb)), (y6, .inl (E.2 0, 900, .inl nu)), (y7, .inl (E.2 0, 900, .inl pl)), (y8, .inl (E.2 0, 901, .inl bg)), (y9, .inl (E.2 0, 4000, .inl ch))]) [0, 1, 4, 6, 7, 8, 9] rfl) (hD.sub (ws' := [(q, .inr (7, [.int th, .int (nI gw), .int (nI gh), .ref y1, .ref y2, .ref y3, .int to, .int (b2i wr), .ref y4, .ref y5, .int (nI k), .ref y6, .ref y7, .ref y8, .ref y9, .int (nI mk), .ref y10, .ref y11, .ref y12, .ref y13, .ref y14, .ref y15, .ref y16, .ref y17, .ref y18])), (y1, .inl (E.2 0, 128, .inl ed)), (y4, .inl (E.2 0, 128, .inl eb)), (y6, .inl (E.2 0, 900, .inl nu)), (y7, .inl (E.2 0, 900, .inl pl)), (y8, .inl (E.2 0, 901, .inl bg)), (y9, .inl (E.2 0, 4000, .inl ch))]) [0, 1, 4, 6, 7, 8, 9] (by decide) rfl) (va_recv hE.1 hP (ci := 7) (q0 := 0) rfl rfl) rfl hl.1 rfl (Nat.le_of_ble_eq_true rfl) dX6_apart_133 ⟨Nat.zero_le _, Nat.zero_le _⟩ (fun cs_ H locs h_4 hP hD hS => ?_)
                subst h_4
                have hP : va_P E.1 vwCl [(q, .inr (7, [.int th, .int (nI gw), .int (nI gh), .ref y1, .ref y2, .ref y3, .int to, .int (b2i wr), .ref y4, .ref y5, .int (nI (k + 1)), .ref y6, .ref y7, .ref y8, .ref y9, .int (nI mk), .ref y10, .ref y11, .ref y12, .ref y13, .ref y14, .ref y15, .ref y16, .ref y17, .ref y18])), (y1, .inl (E.2 0, 128, .inl (edS false ed [nI i_89]))), (y2, .inl (E.2 0, 64, .inl du)), (y3, .inl (E.2 0, 64, .inl sh)), (y4, .inl (E.2 0, 128, .inl (byS k eb [nI i_89]))), (y5, .inl (E.2 0, 64, .inl sb)), (y6, .inl (E.2 0, 900, .inl (upd nu k 9))), (y7, .inl (E.2 0, 900, .inl (upd pl k (nI i_89)))), (y8, .inl (E.2 0, 901, .inl (upd bg (k + 1) (nI (t + [nI i_89].length))))), (y9, .inl (E.2 0, 4000, .inl (chW false ch t [nI i_89]))), (y18, .inl (E.2 1, 64, .inl r_3))] H := hP.sub [4, 5, 0, 1, 6, 2, 7, 8, 9, 10, 3] rfl
                have hD : va_D A [(q, .inr (7, [.int th, .int (nI gw), .int (nI gh), .ref y1, .ref y2, .ref y3, .int to, .int (b2i wr), .ref y4, .ref y5, .int (nI (k + 1)), .ref y6, .ref y7, .ref y8, .ref y9, .int (nI mk), .ref y10, .ref y11, .ref y12, .ref y13, .ref y14, .ref y15, .ref y16, .ref y17, .ref y18])), (y1, .inl (E.2 0, 128, .inl (edS false ed [nI i_89]))), (y2, .inl (E.2 0, 64, .inl du)), (y3, .inl (E.2 0, 64, .inl sh)), (y4, .inl (E.2 0, 128, .inl (byS k eb [nI i_89]))), (y5, .inl (E.2 0, 64, .inl sb)), (y6, .inl (E.2 0, 900, .inl (upd nu k 9))), (y7, .inl (E.2 0, 900, .inl (upd pl k (nI i_89)))), (y8, .inl (E.2 0, 901, .inl (upd bg (k + 1) (nI (t + [nI i_89].length))))), (y9, .inl (E.2 0, 4000, .inl (chW false ch t [nI i_89]))), (y18, .inl (E.2 1, 64, .inl r_3))] := hD.sub [4, 5, 0, 1, 6, 2, 7, 8, 9, 10, 3] (by decide) rfl
                exact W.zret (v := 1) hx hb hr (rfl) (fun t9 ht9 hW => ⟨⟨by rw [hd]; rfl, [(q, .inr (7, [.int th, .int (nI gw), .int (nI gh), .ref y1, .ref y2, .ref y3, .int to, .int (b2i wr), .ref y4, .ref y5, .int (nI (k + 1)), .ref y6, .ref y7, .ref y8, .ref y9, .int (nI mk), .ref y10, .ref y11, .ref y12, .ref y13, .ref y14, .ref y15, .ref y16, .ref y17, .ref y18])), (y1, .inl (E.2 0, 128, .inl (edS false ed [nI i_89]))), (y2, .inl (E.2 0, 64, .inl du)), (y3, .inl (E.2 0, 64, .inl sh)), (y4, .inl (E.2 0, 128, .inl (byS k eb [nI i_89]))), (y5, .inl (E.2 0, 64, .inl sb)), (y6, .inl (E.2 0, 900, .inl (upd nu k 9))), (y7, .inl (E.2 0, 900, .inl (upd pl k (nI i_89)))), (y8, .inl (E.2 0, 901, .inl (upd bg (k + 1) (nI (t + [nI i_89].length))))), (y9, .inl (E.2 0, 4000, .inl (chW false ch t [nI i_89]))), (y18, .inl (E.2 1, 64, .inl r_3))], ⟨_, by rw [hd]; rfl⟩, by rw [ht9]; exact hP, hD⟩, hS.F ht9⟩) hS.2.2 dX6_apart_136
      · skip
        have m_53 : ¬ (gw * gh) ≤ (gw * gh - n_48) := fun q => c_53 ((nI_leI (a := (gw * gh)) (b := (gw * gh - n_48)) (by omega) (by omega)).mpr q)
        have k_53 : (gw * gh - n_48) < (gw * gh) := Nat.lt_of_not_le m_53
        obtain ⟨j_48, rfl⟩ : ∃ j, n_48 = j + 1 := ⟨n_48 - 1, by omega⟩
        obtain ⟨i_48, hi_48⟩ : ∃ i, i = gw * gh - (j_48 + 1) := ⟨_, rfl⟩
        have hib_48 : i_48 < gw * gh := by omega
        rw [← hi_48] at hl
        have hl : lv_has ls 3 [(2, .int (nI i_48)), (1, .int (nI f0)), (0, .ref q)] := hl
        refine lv_aload_n hx hb dX6_apart_56 rfl (lv_at hl 2 rfl) ?_
        refine lv_iload_n hx hb dX6_apart_57 rfl (lv_at hl 0 rfl) ?_
        refine crVi (As := [.int (nI i_48)]) (rest := []) ⟨hx, hb, hml, hown, hts⟩ hE (cX6_needs_ct l E q y1 y2 y3 y4 y5 y6 y7 y8 y9 y10 y11 y12 y13 y14 y15 y16 y17 y18 gw gh th to wr k mk ed du i_48 (by first | assumption | omega | (subst_vars; assumption)) (by first | assumption | omega | (subst_vars; assumption)) (by first | assumption | omega | (subst_vars; assumption)) (by first | assumption | omega | (subst_vars; assumption)) (by first | assumption | omega | (subst_vars; assumption))) (cwV 1 hts gX6_apart_X6_needs rfl rfl rfl (by decide +kernel) ⟨Nat.le_of_ble_eq_true rfl, Nat.le_of_ble_eq_true rfl⟩) (hP.sub (ws' := [(q, .inr (7, [.int th, .int (nI gw), .int (nI gh), .ref y1, .ref y2, .ref y3, .int to, .int (b2i wr), .ref y4, .ref y5, .int (nI k), .ref y6, .ref y7, .ref y8, .ref y9, .int (nI mk), .ref y10, .ref y11, .ref y12, .ref y13, .ref y14, .ref y15, .ref y16, .ref y17, .ref y18])), (y1, .inl (E.2 0, 128, .inl ed)), (y2, .inl (E.2 0, 64, .inl du))]) [0, 1, 2] rfl) (va_recv hE.1 hP (ci := 7) (q0 := 0) rfl rfl) rfl hl.1 rfl (Nat.le_of_ble_eq_true rfl) dX6_apart_58 ⟨Nat.zero_le _, Nat.zero_le _⟩ ?_
        refine lv_if_eq (tgt := 81) hx hb dX6_apart_61 (by decide) (fun c_61 => ?_) (fun c_61 => ?_)
        · skip
          rw [rL_no hi_48 (show pA1 gw gh ed du (rcS gw gh (usE ed false (-1)) f0) i_48 = none by rw [pA1, if_neg (fun h => by rw [b2i_eq0, h.1] at c_61; cases c_61)])] at hv_48
          refine lv_iinc (v := nI (i_48 + 1)) (lv' := [(2, .int (nI (i_48 + 1))), (1, .int (nI f0)), (0, .ref q)]) hx hb dX6_apart_81 hl (k := 0) rfl (nI_1 _) (by decide) rfl (fun ls hl => ?_)
          refine lv_goto (tgt := 48) hx hb dX6_apart_84 (by decide) ?_
          exact ih_48 (nI (i_48 + 1)) ls (⟨j_48, rfl, by omega, congrArg nI (by omega), hv_48⟩) (lv_sub hl [0, 1, 2] rfl)
        · skip
          refine lv_aload_n hx hb dX6_apart_64 rfl (lv_at hl 2 rfl) ?_
          refine va_get (D := E.1) (ci := 7) (v := .ref y18) (C := RX6) (T := TX6) (N := 25) hx hb hts hi_RX6 hown hE.1 hP 0 rfl rfl 24 (by decide) hf_66 (fun _ h9 => h9) rfl dX6_apart_65 ?_
          refine lv_iload_n hx hb dX6_apart_68 rfl (lv_at hl 0 rfl) ?_
          refine va_zald hx hb hE.1 hP 10 1 rfl rfl (show vp_in (nI i_48) 64 from vp_in_nI (by omega) (by decide)) dX6_apart_69 ?_
          refine lv_eqi (congrArg r_3 (show (nI i_48 : Int32).toNatClampNeg = i_48 from nI_clamp (by omega))) ?_
          refine lv_eqi (sp_eq hsI_r_3 hsC_r_3 (i_48) (by omega)) ?_
          refine lv_if_ne (tgt := 81) hx hb dX6_apart_70 (by decide) (fun c_70 => ?_) (fun c_70 => ?_)
          · skip
            rw [rL_no hi_48 (show pA1 gw gh ed du (rcS gw gh (usE ed false (-1)) f0) i_48 = none by rw [pA1, if_neg (fun h => c_70 h.2)])] at hv_48
            refine lv_iinc (v := nI (i_48 + 1)) (lv' := [(2, .int (nI (i_48 + 1))), (1, .int (nI f0)), (0, .ref q)]) hx hb dX6_apart_81 hl (k := 0) rfl (nI_1 _) (by decide) rfl (fun ls hl => ?_)
            refine lv_goto (tgt := 48) hx hb dX6_apart_84 (by decide) ?_
            exact ih_48 (nI (i_48 + 1)) ls (⟨j_48, rfl, by omega, congrArg nI (by omega), hv_48⟩) (lv_sub hl [0, 1, 2] rfl)
          · skip
            have hp : pA1 gw gh ed du (rcS gw gh (usE ed false (-1)) f0) i_48 = some (9, nI i_48, 0, false, []) := by rw [b2i_eq0] at c_61; rw [pA1, if_pos ⟨by simpa using c_61, c_70⟩]
            have hd : dAp gw gh ed du = some (9, nI i_48, 0, false, []) := by rw [hdd, dOr_s (show rL (pA1 gw gh ed du (rcS gw gh (usE ed false (-1)) f0)) (gw * gh) (gw * gh) = _ by rw [← hv_48, rL_yes hi_48 hp])]
            refine lv_aload_n hx hb dX6_apart_73 rfl (lv_at hl 2 rfl) ?_
            refine lv_bipush (v := 9) hx hb dX6_apart_74 (by decide) ?_
            refine lv_iload_n hx hb dX6_apart_76 rfl (lv_at hl 0 rfl) ?_
            refine wrV (As := [.int 9, .int (nI i_48)]) (rest := []) (wr := [(y1, .inl (E.2 0, 128, .inl ed)), (y2, .inl (E.2 0, 64, .inl du)), (y3, .inl (E.2 0, 64, .inl sh)), (y4, .inl (E.2 0, 128, .inl eb)), (y5, .inl (E.2 0, 64, .inl sb)), (y9, .inl (E.2 0, 4000, .inl ch)), (y18, .inl (E.2 1, 64, .inl r_3))]) ⟨hx, hb, hml, hown, hts⟩ hE (cX6_isWrongAt_ct l E H.size q y1 y2 y3 y4 y5 y6 y7 y8 y9 y10 y11 y12 y13 y14 y15 y16 y17 y18 gw gh th to wr k mk nu pl bg t 9 (nI i_48) (by first | assumption | omega | (subst_vars; assumption)) (by first | assumption | omega | (subst_vars; assumption))) (cwV 2 hts gX6_apart_X6_isWrongAt rfl rfl rfl (by decide +kernel) ⟨Nat.le_of_ble_eq_true rfl, Nat.le_of_ble_eq_true rfl⟩) hP hD hS hA [0, 6, 7, 8] [1, 2, 3, 4, 5, 9, 10] rfl rfl (by decide) (by decide) (hP.sub (ws' := [(q, .inr (7, [.int th, .int (nI gw), .int (nI gh), .ref y1, .ref y2, .ref y3, .int to, .int (b2i wr), .ref y4, .ref y5, .int (nI k), .ref y6, .ref y7, .ref y8, .ref y9, .int (nI mk), .ref y10, .ref y11, .ref y12, .ref y13, .ref y14, .ref y15, .ref y16, .ref y17, .ref y18])), (y6, .inl (E.2 0, 900, .inl nu)), (y7, .inl (E.2 0, 900, .inl pl)), (y8, .inl (E.2 0, 901, .inl bg))]) [0, 6, 7, 8] rfl) (hD.sub (ws' := [(q, .inr (7, [.int th, .int (nI gw), .int (nI gh), .ref y1, .ref y2, .ref y3, .int to, .int (b2i wr), .ref y4, .ref y5, .int (nI k), .ref y6, .ref y7, .ref y8, .ref y9, .int (nI mk), .ref y10, .ref y11, .ref y12, .ref y13, .ref y14, .ref y15, .ref y16, .ref y17, .ref y18])), (y6, .inl (E.2 0, 900, .inl nu)), (y7, .inl (E.2 0, 900, .inl pl)), (y8, .inl (E.2 0, 901, .inl bg))]) [0, 6, 7, 8] (by decide) rfl) (va_recv hE.1 hP (ci := 7) (q0 := 0) rfl rfl) rfl hl.1 rfl (Nat.le_of_ble_eq_true rfl) dX6_apart_77 ⟨Nat.zero_le _, Nat.zero_le _⟩ (fun cs_ H locs h_5 hP hD hS => ?_)
            subst h_5
            have hP : va_P E.1 vwCl [(q, .inr (7, [.int th, .int (nI gw), .int (nI gh), .ref y1, .ref y2, .ref y3, .int to, .int (b2i true), .ref y4, .ref y5, .int (nI (k + 1)), .ref y6, .ref y7, .ref y8, .ref y9, .int (nI mk), .ref y10, .ref y11, .ref y12, .ref y13, .ref y14, .ref y15, .ref y16, .ref y17, .ref y18])), (y1, .inl (E.2 0, 128, .inl ed)), (y2, .inl (E.2 0, 64, .inl du)), (y3, .inl (E.2 0, 64, .inl sh)), (y4, .inl (E.2 0, 128, .inl eb)), (y5, .inl (E.2 0, 64, .inl sb)), (y6, .inl (E.2 0, 900, .inl (upd nu k 9))), (y7, .inl (E.2 0, 900, .inl (upd pl k (nI i_48)))), (y8, .inl (E.2 0, 901, .inl (upd bg (k + 1) (nI t)))), (y9, .inl (E.2 0, 4000, .inl ch)), (y18, .inl (E.2 1, 64, .inl r_3))] H := hP.sub [7, 0, 1, 2, 3, 4, 8, 9, 10, 5, 6] rfl
            have hD : va_D A [(q, .inr (7, [.int th, .int (nI gw), .int (nI gh), .ref y1, .ref y2, .ref y3, .int to, .int (b2i true), .ref y4, .ref y5, .int (nI (k + 1)), .ref y6, .ref y7, .ref y8, .ref y9, .int (nI mk), .ref y10, .ref y11, .ref y12, .ref y13, .ref y14, .ref y15, .ref y16, .ref y17, .ref y18])), (y1, .inl (E.2 0, 128, .inl ed)), (y2, .inl (E.2 0, 64, .inl du)), (y3, .inl (E.2 0, 64, .inl sh)), (y4, .inl (E.2 0, 128, .inl eb)), (y5, .inl (E.2 0, 64, .inl sb)), (y6, .inl (E.2 0, 900, .inl (upd nu k 9))), (y7, .inl (E.2 0, 900, .inl (upd pl k (nI i_48)))), (y8, .inl (E.2 0, 901, .inl (upd bg (k + 1) (nI t)))), (y9, .inl (E.2 0, 4000, .inl ch)), (y18, .inl (E.2 1, 64, .inl r_3))] := hD.sub [7, 0, 1, 2, 3, 4, 8, 9, 10, 5, 6] (by decide) rfl
            exact W.zret (v := 1) hx hb hr (rfl) (fun t9 ht9 hW => ⟨⟨by rw [hd]; rfl, [(q, .inr (7, [.int th, .int (nI gw), .int (nI gh), .ref y1, .ref y2, .ref y3, .int to, .int (b2i true), .ref y4, .ref y5, .int (nI (k + 1)), .ref y6, .ref y7, .ref y8, .ref y9, .int (nI mk), .ref y10, .ref y11, .ref y12, .ref y13, .ref y14, .ref y15, .ref y16, .ref y17, .ref y18])), (y1, .inl (E.2 0, 128, .inl ed)), (y2, .inl (E.2 0, 64, .inl du)), (y3, .inl (E.2 0, 64, .inl sh)), (y4, .inl (E.2 0, 128, .inl eb)), (y5, .inl (E.2 0, 64, .inl sb)), (y6, .inl (E.2 0, 900, .inl (upd nu k 9))), (y7, .inl (E.2 0, 900, .inl (upd pl k (nI i_48)))), (y8, .inl (E.2 0, 901, .inl (upd bg (k + 1) (nI t)))), (y9, .inl (E.2 0, 4000, .inl ch)), (y18, .inl (E.2 1, 64, .inl r_3))], ⟨_, by rw [hd]; rfl⟩, by rw [ht9]; exact hP, hD⟩, hS.F ht9⟩) hS.2.2 dX6_apart_80
    · skip
      have hd : dAp gw gh ed du = none := by rw [dAp, if_pos (by simpa using c_34)]
      refine lv_iconst (v := 0) hx hb dX6_apart_37 (by decide) ?_
      exact W.zret (v := 0) hx hb hr (rfl) (fun t9 ht9 hW => ⟨⟨by rw [hd]; rfl, [(q, .inr (7, [.int th, .int (nI gw), .int (nI gh), .ref y1, .ref y2, .ref y3, .int to, .int (b2i wr), .ref y4, .ref y5, .int (nI k), .ref y6, .ref y7, .ref y8, .ref y9, .int (nI mk), .ref y10, .ref y11, .ref y12, .ref y13, .ref y14, .ref y15, .ref y16, .ref y17, .ref y18])), (y1, .inl (E.2 0, 128, .inl ed)), (y2, .inl (E.2 0, 64, .inl du)), (y3, .inl (E.2 0, 64, .inl sh)), (y4, .inl (E.2 0, 128, .inl eb)), (y5, .inl (E.2 0, 64, .inl sb)), (y6, .inl (E.2 0, 900, .inl nu)), (y7, .inl (E.2 0, 900, .inl pl)), (y8, .inl (E.2 0, 901, .inl bg)), (y9, .inl (E.2 0, 4000, .inl ch)), (y18, .inl (E.2 1, 64, .inl rc))], ⟨_, by rw [hd]; rfl⟩, by rw [ht9]; exact hP, hD⟩, hS.F ht9⟩) hS.2.2 dX6_apart_38
  · skip
    obtain ⟨j, rfl⟩ := down_go (by omega) c_10
    rw [nI_pred] at hl
    have hl : lv_has ls 3 [(2, .int (nI j)), (1, .int fi), (0, .ref q)] := hl
    refine lv_aload_n hx hb dX6_apart_13 rfl (lv_at hl 2 rfl) ?_
    refine lv_iload_n hx hb dX6_apart_14 rfl (lv_at hl 0 rfl) ?_
    refine crVi (As := [.int (nI j)]) (rest := []) ⟨hx, hb, hml, hown, hts⟩ hE (cX6_needs_ct l E q y1 y2 y3 y4 y5 y6 y7 y8 y9 y10 y11 y12 y13 y14 y15 y16 y17 y18 gw gh th to wr k mk ed du j (by first | assumption | omega | (subst_vars; assumption)) (by first | assumption | omega | (subst_vars; assumption)) (by first | assumption | omega | (subst_vars; assumption)) (by first | assumption | omega | (subst_vars; assumption)) (by first | assumption | omega | (subst_vars; assumption))) (cwV 1 hts gX6_apart_X6_needs rfl rfl rfl (by decide +kernel) ⟨Nat.le_of_ble_eq_true rfl, Nat.le_of_ble_eq_true rfl⟩) (hP.sub (ws' := [(q, .inr (7, [.int th, .int (nI gw), .int (nI gh), .ref y1, .ref y2, .ref y3, .int to, .int (b2i wr), .ref y4, .ref y5, .int (nI k), .ref y6, .ref y7, .ref y8, .ref y9, .int (nI mk), .ref y10, .ref y11, .ref y12, .ref y13, .ref y14, .ref y15, .ref y16, .ref y17, .ref y18])), (y1, .inl (E.2 0, 128, .inl ed)), (y2, .inl (E.2 0, 64, .inl du))]) [0, 1, 2] rfl) (va_recv hE.1 hP (ci := 7) (q0 := 0) rfl rfl) rfl hl.1 rfl (Nat.le_of_ble_eq_true rfl) dX6_apart_15 ⟨Nat.zero_le _, Nat.zero_le _⟩ ?_
    refine W_joinI (J := 26) (rest := []) (fun z9 => z9 = if rNeed gw gh ed du j then nI j else fi) (fun v_6 ev_6 => ?_) (fun K_18 => ?_)
    · skip
      refine lv_istore_n (lv' := [(1, .int v_6), (2, .int (nI j)), (0, .ref q)]) hx hb dX6_apart_26 rfl hl (by decide) rfl (fun ls hl => ?_)
      rw [rLast, ← ev_6] at hv_9
      obtain ⟨x_7, ex_7⟩ : ∃ y : Int32, y = (nI j) + (-1) := ⟨_, rfl⟩
      refine lv_iinc (v := x_7) (lv' := [(2, .int x_7), (1, .int v_6), (0, .ref q)]) hx hb dX6_apart_27 hl (k := 1) rfl (by rw [ex_7]; rfl) (by decide) rfl (fun ls hl => ?_)
      refine lv_goto (tgt := 9) hx hb dX6_apart_30 (by decide) ?_
      exact ih_9 (x_7, v_6) ls (⟨j, rfl, by omega, by rw [ex_7]; exact sub1 _, hv_9⟩) (lv_sub hl [0, 1, 2] rfl)
    · skip
      refine lv_if_eq (tgt := 25) hx hb dX6_apart_18 (by decide) (fun c_18 => ?_) (fun c_18 => ?_)
      · skip
        refine lv_iload_n hx hb dX6_apart_25 rfl (lv_at hl 1 rfl) ?_
        exact K_18 _ (by rw [b2i_eq0] at c_18; simp [c_18])
      · skip
        refine lv_iload_n hx hb dX6_apart_21 rfl (lv_at hl 0 rfl) ?_
        refine lv_goto (tgt := 26) hx hb dX6_apart_22 (by decide) ?_
        exact K_18 _ (by rw [b2i_eq0] at c_18; simp [c_18])
