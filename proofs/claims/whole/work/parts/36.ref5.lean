theorem zc_stepS {r : Nat → Int32} {j : Nat} (hj : j < 64) (h0 : r j = 0) : zc (upd r j 1) 64 < zc r 64 := by
  have := zc_upd hj h0
  omega
def usS (sh : Nat → Int32) (wo : Int32) (i : Nat) : Bool := decide (¬ sh i = 2) && decide (¬ nI i = wo)
def RchS (gw gh : Nat) (P : Nat → Bool) (a b : Nat) : Prop := ∀ S : Nat → Prop, S a → (∀ e, isEn gw gh e = true → (S (e / 2) → P (oth gw e) = true → S (oth gw e)) ∧ (S (oth gw e) → P (e / 2) = true → S (e / 2))) → S b
def ssI (gw gh : Nat) (P : Nat → Bool) (fr : Nat) (r : Nat → Int32) : Prop := (∀ i, i < 64 → r i = 0 ∨ r i = 1) ∧ r fr = 1 ∧ ∀ i, i < 64 → r i = 1 → RchS gw gh P fr i
def ssE (gw : Nat) (P : Nat → Bool) (e : Nat) (r : Nat → Int32) : Prop := (r (e / 2) = 1 → P (oth gw e) = true → r (oth gw e) = 1) ∧ (r (oth gw e) = 1 → P (e / 2) = true → r (e / 2) = 1)
def ssP (gw gh : Nat) (P : Nat → Bool) (n : Nat) (r : Nat → Int32) : Prop := ∀ e, e < n → isEn gw gh e = true → ssE gw P e r
def ssC (gw gh : Nat) (P : Nat → Bool) (r : Nat → Int32) : Prop := ssP gw gh P (2 * (gw * gh)) r
theorem ssP_0 {gw gh : Nat} {P : Nat → Bool} {r : Nat → Int32} : ssP gw gh P 0 r := fun e h => absurd h (Nat.not_lt_zero e)
theorem ssP_s {gw gh : Nat} {P : Nat → Bool} {n : Nat} {r : Nat → Int32} (h : ssP gw gh P n r) (hs : isEn gw gh n = true → ssE gw P n r) : ssP gw gh P (n + 1) r := by
  intro e h1 h2
  rcases Nat.lt_or_ge e n with q | q
  · exact h e q h2
  · obtain rfl : e = n := by omega
    exact hs h2
theorem ssI_0 {gw gh : Nat} {P : Nat → Bool} {fr : Nat} {r : Nat → Int32} (hz : ∀ i, i < 64 → r i = 0) (_ : fr < 64) : ssI gw gh P fr (upd r fr 1) := by
  refine ⟨fun i hi => ?_, pk_us, fun i hi h => ?_⟩
  · by_cases q : i = fr
    · subst q; exact Or.inr pk_us
    · rw [pk_un q]; exact Or.inl (hz i hi)
  · by_cases q : i = fr
    · subst q; exact fun S h _ => h
    · rw [pk_un q, hz i hi] at h; exact absurd h (by decide)
theorem ssE_eq {gw : Nat} {P : Nat → Bool} {e : Nat} {r : Nat → Int32} (h : r (e / 2) = r (oth gw e)) : ssE gw P e r := ⟨fun q _ => h ▸ q, fun q _ => h ▸ q⟩
theorem ss_c0 {r : Nat → Int32} {a b : Nat} (hne : ¬ r a = r b) (h : ∀ i, i < 64 → r i = 0 ∨ r i = 1) (ha : a < 64) (hb : b < 64) : r (if r a = 0 then a else b) = 0 := by
  split
  · assumption
  · rename_i q
    rcases h b hb with p | p
    · exact p
    · rcases h a ha with p2 | p2
      · exact absurd p2 q
      · exact absurd (p2.trans p.symm) hne
theorem ssE_no {gw : Nat} {P : Nat → Bool} {e : Nat} {r : Nat → Int32} (hne : ¬ r (e / 2) = r (oth gw e)) (h : ∀ i, i < 64 → r i = 0 ∨ r i = 1) (ha : e / 2 < 64) (hb : oth gw e < 64) (hP : P (if r (e / 2) = 0 then e / 2 else oth gw e) = false) : ssE gw P e r := by
  by_cases q : r (e / 2) = 0
  · rw [if_pos q] at hP
    exact ⟨fun p => absurd (q.symm.trans p) (by decide), fun _ p => absurd (hP.symm.trans p) (by decide)⟩
  · rw [if_neg q] at hP
    have h0 := ss_c0 hne h ha hb
    rw [if_neg q] at h0
    exact ⟨fun _ p => absurd (hP.symm.trans p) (by decide), fun p => absurd (h0.symm.trans p) (by decide)⟩
theorem ssI_step {gw gh : Nat} {P : Nat → Bool} {fr j : Nat} {r : Nat → Int32} (h : ssI gw gh P fr r) (he : isEn gw gh j = true) (hb : oth gw j < 64) (ha : j / 2 < 64) (hne : ¬ r (j / 2) = r (oth gw j)) (hP : P (if r (j / 2) = 0 then j / 2 else oth gw j) = true) : ssI gw gh P fr (upd r (if r (j / 2) = 0 then j / 2 else oth gw j) 1) := by
  have h0 := ss_c0 hne h.1 ha hb
  refine ⟨fun i hi => ?_, ?_, fun i hi hq => ?_⟩
  · by_cases q : i = (if r (j / 2) = 0 then j / 2 else oth gw j)
    · rw [q]; exact Or.inr pk_us
    · rw [pk_un q]; exact h.1 i hi
  · by_cases q : fr = (if r (j / 2) = 0 then j / 2 else oth gw j)
    · rw [q]; exact pk_us
    · rw [pk_un q]; exact h.2.1
  · by_cases q : i = (if r (j / 2) = 0 then j / 2 else oth gw j)
    · rw [q]
      intro S hS hc
      by_cases w : r (j / 2) = 0
      · rw [if_pos w] at hP ⊢
        have h1 : r (oth gw j) = 1 := by
          rcases h.1 _ hb with p | p
          · exact absurd (w.trans p.symm) hne
          · exact p
        exact (hc j he).2 (h.2.2 _ hb h1 S hS hc) hP
      · rw [if_neg w] at hP ⊢
        have h1 : r (j / 2) = 1 := by
          rcases h.1 _ ha with p | p
          · exact absurd p w
          · exact p
        exact (hc j he).1 (h.2.2 _ ha h1 S hS hc) hP
    · rw [pk_un q] at hq; exact h.2.2 i hi hq
set_option maxHeartbeats 4000000 in
set_option maxRecDepth 100000 in
theorem cX6_spreadShades_ct (l : Launch) (E : GE) (sz : Nat) (q : Nat) (y1 : Nat) (y2 : Nat) (y3 : Nat) (y4 : Nat) (y5 : Nat) (y6 : Nat) (y7 : Nat) (y8 : Nat) (y9 : Nat) (y10 : Nat) (y11 : Nat) (y12 : Nat) (y13 : Nat) (y14 : Nat) (y15 : Nat) (y16 : Nat) (y17 : Nat) (y18 : Nat) (gw : Nat) (gh : Nat) (th : Int32) (to : Int32) (wr : Bool) (k : Nat) (mk : Nat) (sh : Nat → Int32) (rc : Nat → Int32) (fr : Nat) (wo : Int32) (hfr : fr < 64) (hg1 : 1 ≤ gw) (hh1 : 1 ≤ gh) (hg8 : gw ≤ 8) (hh8 : gh ≤ 8) : wrM l yX6_spreadShades wsX6_spreadShades ({ frames := 2, cells := 0, slots := 0, locals := 41 }) E sz [.ref q, .int (nI fr), .int wo] [(q, .inr (7, [.int th, .int (nI gw), .int (nI gh), .ref y1, .ref y2, .ref y3, .int to, .int (b2i wr), .ref y4, .ref y5, .int (nI k), .ref y6, .ref y7, .ref y8, .ref y9, .int (nI mk), .ref y10, .ref y11, .ref y12, .ref y13, .ref y14, .ref y15, .ref y16, .ref y17, .ref y18])), (y3, .inl (E.2 0, 64, .inl sh)), (y18, .inl (E.2 1, 64, .inl rc))] none (fun cs' => ∃ rc' : Nat → Int32, ssI gw gh (usS sh wo) fr rc' ∧ ssC gw gh (usS sh wo) rc' ∧ cs' = [(q, .inr (7, [.int th, .int (nI gw), .int (nI gh), .ref y1, .ref y2, .ref y3, .int to, .int (b2i wr), .ref y4, .ref y5, .int (nI k), .ref y6, .ref y7, .ref y8, .ref y9, .int (nI mk), .ref y10, .ref y11, .ref y12, .ref y13, .ref y14, .ref y15, .ref y16, .ref y17, .ref y18])), (y3, .inl (E.2 0, 64, .inl sh)), (y18, .inl (E.2 1, 64, .inl rc'))]) 0 0 := by
  refine Met.ofW (cc := cX6_spreadShades) (maxL := 6) (ret := none) (by decide) rfl ?_
  intro p e s m args below meth c s₁ B hml hv
  obtain ⟨rfl, hsz, hE, hP, hD0⟩ := hv
  have hx := B.exec
  have hb := B.bytes
  have hr := B.returns
  have hts := atoms_spec (ws := wsX6_spreadShades) B.pre
  have hown : s.vm.findClass RX6 = some m.cls := findClass_of_methodNamed B.named
  have hlocks := B.notSynchronized
  subst hsz
  have hD := hD0.self (sz := s.heap.size)
  generalize hAe : va_A [(q, .inr (7, [.int th, .int (nI gw), .int (nI gh), .ref y1, .ref y2, .ref y3, .int to, .int (b2i wr), .ref y4, .ref y5, .int (nI k), .ref y6, .ref y7, .ref y8, .ref y9, .int (nI mk), .ref y10, .ref y11, .ref y12, .ref y13, .ref y14, .ref y15, .ref y16, .ref y17, .ref y18])), (y3, .inl (E.2 0, 64, .inl sh)), (y18, .inl (E.2 1, 64, .inl rc))] s.heap.size = A at hD ⊢
  have hA : ∀ q : Nat, s.heap.size ≤ q → A q := fun q h => by rw [← hAe]; exact Or.inr h
  have hS : va_S A s.heap s.heap [] := va_S.rf
  have hP : va_P E.1 vwCl [(q, .inr (7, [.int th, .int (nI gw), .int (nI gh), .ref y1, .ref y2, .ref y3, .int to, .int (b2i wr), .ref y4, .ref y5, .int (nI k), .ref y6, .ref y7, .ref y8, .ref y9, .int (nI mk), .ref y10, .ref y11, .ref y12, .ref y13, .ref y14, .ref y15, .ref y16, .ref y17, .ref y18])), (y3, .inl (E.2 0, 64, .inl sh)), (y18, .inl (E.2 1, 64, .inl rc))] s.heap := hP
  have hl := lv_entry ([.ref q, .int (nI fr), .int wo]) (n := 6) (Nat.le_of_ble_eq_true rfl)
  rw [lg_entry_eq]
  generalize (lg_sl ([.ref q, .int (nI fr), .int wo]) ++ List.replicate (6 - (lg_sl ([.ref q, .int (nI fr), .int wo])).length) Slot.unset).toArray = ls at hl ⊢
  have hl : lv_has ls 6 [(0, .ref q), (1, .int (nI fr)), (2, .int wo)] := hl
  have hf_16 := hts (.fieldLink RX6 16 "LoopRegionsModel" "shades" "[I") (by decide +kernel)
  have hf_66 := hts (.fieldLink RX6 66 "LoopRegionsModel" "reached" "[Z") (by decide +kernel)
  have hi_RX6 : ∀ w ∈ wsX60, w ∈ wsX6_spreadShades := by decide +kernel
  have hN : gw * gh ≤ 64 := Nat.mul_le_mul hg8 hh8
  have hN1 : 1 ≤ gw * gh := Nat.mul_le_mul hg1 hh1
  refine lv_aload_n hx hb dX6_spreadShades_0 rfl (lv_at hl 0 rfl) ?_
  refine wrV (As := []) (rest := []) (wr := [(y3, .inl (E.2 0, 64, .inl sh))]) ⟨hx, hb, hml, hown, hts⟩ hE (cX6_clear_ct l E s.heap.size q y1 y2 y3 y4 y5 y6 y7 y8 y9 y10 y11 y12 y13 y14 y15 y16 y17 y18 gw gh th to wr k mk rc) (cwV 0 hts gX6_spreadShades_X6_clear rfl rfl rfl (by decide +kernel) ⟨Nat.le_of_ble_eq_true rfl, Nat.le_of_ble_eq_true rfl⟩) hP hD hS hA [0, 2] [1] rfl rfl (by decide) (by decide) (hP.sub (ws' := [(q, .inr (7, [.int th, .int (nI gw), .int (nI gh), .ref y1, .ref y2, .ref y3, .int to, .int (b2i wr), .ref y4, .ref y5, .int (nI k), .ref y6, .ref y7, .ref y8, .ref y9, .int (nI mk), .ref y10, .ref y11, .ref y12, .ref y13, .ref y14, .ref y15, .ref y16, .ref y17, .ref y18])), (y18, .inl (E.2 1, 64, .inl rc))]) [0, 2] rfl) (hD.sub (ws' := [(q, .inr (7, [.int th, .int (nI gw), .int (nI gh), .ref y1, .ref y2, .ref y3, .int to, .int (b2i wr), .ref y4, .ref y5, .int (nI k), .ref y6, .ref y7, .ref y8, .ref y9, .int (nI mk), .ref y10, .ref y11, .ref y12, .ref y13, .ref y14, .ref y15, .ref y16, .ref y17, .ref y18])), (y18, .inl (E.2 1, 64, .inl rc))]) [0, 2] (by decide) rfl) (va_recv hE.1 hP (ci := 7) (q0 := 0) rfl rfl) rfl hl.1 rfl (Nat.le_of_ble_eq_true rfl) dX6_spreadShades_1 ⟨Nat.zero_le _, Nat.zero_le _⟩ (fun cs_ H locs h_1 hP hD hS => ?_)
  obtain ⟨r_2, hz_r_2, rfl⟩ := h_1
  have hP : va_P E.1 vwCl [(q, .inr (7, [.int th, .int (nI gw), .int (nI gh), .ref y1, .ref y2, .ref y3, .int to, .int (b2i wr), .ref y4, .ref y5, .int (nI k), .ref y6, .ref y7, .ref y8, .ref y9, .int (nI mk), .ref y10, .ref y11, .ref y12, .ref y13, .ref y14, .ref y15, .ref y16, .ref y17, .ref y18])), (y3, .inl (E.2 0, 64, .inl sh)), (y18, .inl (E.2 1, 64, .inl r_2))] H := hP.sub [1, 0, 2] rfl
  have hD : va_D A [(q, .inr (7, [.int th, .int (nI gw), .int (nI gh), .ref y1, .ref y2, .ref y3, .int to, .int (b2i wr), .ref y4, .ref y5, .int (nI k), .ref y6, .ref y7, .ref y8, .ref y9, .int (nI mk), .ref y10, .ref y11, .ref y12, .ref y13, .ref y14, .ref y15, .ref y16, .ref y17, .ref y18])), (y3, .inl (E.2 0, 64, .inl sh)), (y18, .inl (E.2 1, 64, .inl r_2))] := hD.sub [1, 0, 2] (by decide) rfl
  refine lv_aload_n hx hb dX6_spreadShades_4 rfl (lv_at hl 0 rfl) ?_
  refine va_get (D := E.1) (ci := 7) (v := .ref y18) (C := RX6) (T := TX6) (N := 25) hx hb hts hi_RX6 hown hE.1 hP 0 rfl rfl 24 (by decide) hf_66 (fun _ h9 => h9) rfl dX6_spreadShades_5 ?_
  refine lv_iload_n hx hb dX6_spreadShades_8 rfl (lv_at hl 1 rfl) ?_
  refine lv_iconst (v := 1) hx hb dX6_spreadShades_9 (by decide) ?_
  refine va_zast hx hb hE.1 hP hD hS 2 1 rfl rfl (show vp_in (nI fr) 64 from vp_in_nI (by omega) (by decide)) dX6_spreadShades_10 (fun H locs hP hD hS => ?_)
  rw [show (nI fr : Int32).toNatClampNeg = fr from nI_clamp (by omega)] at hP hD
  rw [show vp_nar .boolean 1 = 1 from rfl] at hP hD
  have hP : va_P E.1 vwCl [(q, .inr (7, [.int th, .int (nI gw), .int (nI gh), .ref y1, .ref y2, .ref y3, .int to, .int (b2i wr), .ref y4, .ref y5, .int (nI k), .ref y6, .ref y7, .ref y8, .ref y9, .int (nI mk), .ref y10, .ref y11, .ref y12, .ref y13, .ref y14, .ref y15, .ref y16, .ref y17, .ref y18])), (y3, .inl (E.2 0, 64, .inl sh)), (y18, .inl (E.2 1, 64, .inl (upd r_2 fr 1)))] H := hP
  have hD : va_D A [(q, .inr (7, [.int th, .int (nI gw), .int (nI gh), .ref y1, .ref y2, .ref y3, .int to, .int (b2i wr), .ref y4, .ref y5, .int (nI k), .ref y6, .ref y7, .ref y8, .ref y9, .int (nI mk), .ref y10, .ref y11, .ref y12, .ref y13, .ref y14, .ref y15, .ref y16, .ref y17, .ref y18])), (y3, .inl (E.2 0, 64, .inl sh)), (y18, .inl (E.2 1, 64, .inl (upd r_2 fr 1)))] := hD
  refine lv_iconst (v := 1) hx hb dX6_spreadShades_11 (by decide) ?_
  refine lv_istore_n (lv' := [(3, .int 1), (0, .ref q), (1, .int (nI fr)), (2, .int wo)]) hx hb dX6_spreadShades_12 rfl hl (by decide) rfl (fun ls hl => ?_)
  refine W_loopW (σ := Bool × (Nat → Int32)) (J := 13) (nL := 6) (fun n9 x H locs => ssI gw gh (usS sh wo) fr x.2 ∧ (x.1 = false → ssC gw gh (usS sh wo) x.2) ∧ zc x.2 64 + (if x.1 then 1 else 0) < n9 ∧ va_P E.1 vwCl [(q, .inr (7, [.int th, .int (nI gw), .int (nI gh), .ref y1, .ref y2, .ref y3, .int to, .int (b2i wr), .ref y4, .ref y5, .int (nI k), .ref y6, .ref y7, .ref y8, .ref y9, .int (nI mk), .ref y10, .ref y11, .ref y12, .ref y13, .ref y14, .ref y15, .ref y16, .ref y17, .ref y18])), (y3, .inl (E.2 0, 64, .inl sh)), (y18, .inl (E.2 1, 64, .inl x.2))] H ∧ va_D A [(q, .inr (7, [.int th, .int (nI gw), .int (nI gh), .ref y1, .ref y2, .ref y3, .int to, .int (b2i wr), .ref y4, .ref y5, .int (nI k), .ref y6, .ref y7, .ref y8, .ref y9, .int (nI mk), .ref y10, .ref y11, .ref y12, .ref y13, .ref y14, .ref y15, .ref y16, .ref y17, .ref y18])), (y3, .inl (E.2 0, 64, .inl sh)), (y18, .inl (E.2 1, 64, .inl x.2))] ∧ va_S A s.heap H locs) (fun x => [(3, .int (b2i x.1)), (0, .ref q), (1, .int (nI fr)), (2, .int wo)]) (fun x H locs h => absurd h.2.2.1 (by omega)) (fun n_o ih_13 x H locs ls hI_o hl => ?_) 66 (true, upd r_2 fr 1) ⟨ssI_0 hz_r_2 hfr, fun q => Bool.noConfusion q, by have h9 := zc_le (upd r_2 fr 1) 64; dsimp only; simp; omega, hP, hD, hS⟩ (lv_sub hl [0, 1, 2, 3] rfl)
  obtain ⟨mo0, r1⟩ := x
  obtain ⟨hi1, hc1, hz1, hP, hD, hS⟩ := hI_o
  dsimp only at hi1 hc1 hz1
  obtain ⟨f, rfl⟩ : ∃ f, n_o = f + 0 := ⟨n_o, rfl⟩
  have hl : lv_has ls 6 [(3, .int (b2i mo0)), (0, .ref q), (1, .int (nI fr)), (2, .int wo)] := hl
  have hP : va_P E.1 vwCl [(q, .inr (7, [.int th, .int (nI gw), .int (nI gh), .ref y1, .ref y2, .ref y3, .int to, .int (b2i wr), .ref y4, .ref y5, .int (nI k), .ref y6, .ref y7, .ref y8, .ref y9, .int (nI mk), .ref y10, .ref y11, .ref y12, .ref y13, .ref y14, .ref y15, .ref y16, .ref y17, .ref y18])), (y3, .inl (E.2 0, 64, .inl sh)), (y18, .inl (E.2 1, 64, .inl r1))] H := hP
  have hD : va_D A [(q, .inr (7, [.int th, .int (nI gw), .int (nI gh), .ref y1, .ref y2, .ref y3, .int to, .int (b2i wr), .ref y4, .ref y5, .int (nI k), .ref y6, .ref y7, .ref y8, .ref y9, .int (nI mk), .ref y10, .ref y11, .ref y12, .ref y13, .ref y14, .ref y15, .ref y16, .ref y17, .ref y18])), (y3, .inl (E.2 0, 64, .inl sh)), (y18, .inl (E.2 1, 64, .inl r1))] := hD
  refine lv_iload_n hx hb dX6_spreadShades_13 rfl (lv_at hl 0 rfl) ?_
  refine lv_if_eq (tgt := 134) hx hb dX6_spreadShades_14 (by decide) (fun c_14 => ?_) (fun c_14 => ?_)
  · skip
    have hmf : mo0 = false := by rw [b2i_eq0] at c_14; exact c_14
    exact W.vret hx hb hr (fun t9 ht9 hW => ⟨⟨rfl, [(q, .inr (7, [.int th, .int (nI gw), .int (nI gh), .ref y1, .ref y2, .ref y3, .int to, .int (b2i wr), .ref y4, .ref y5, .int (nI k), .ref y6, .ref y7, .ref y8, .ref y9, .int (nI mk), .ref y10, .ref y11, .ref y12, .ref y13, .ref y14, .ref y15, .ref y16, .ref y17, .ref y18])), (y3, .inl (E.2 0, 64, .inl sh)), (y18, .inl (E.2 1, 64, .inl r1))], ⟨_, hi1, hc1 hmf, rfl⟩, by rw [ht9]; exact hP, hD⟩, hS.F ht9⟩) hS.2.2 dX6_spreadShades_134
  · skip
    have hmt : mo0 = true := by rw [b2i_eq0] at c_14; simpa using c_14
    refine lv_iconst (v := 0) hx hb dX6_spreadShades_17 (by decide) ?_
    refine lv_istore_n (lv' := [(3, .int 0), (0, .ref q), (1, .int (nI fr)), (2, .int wo)]) hx hb dX6_spreadShades_18 rfl hl (by decide) rfl (fun ls hl => ?_)
    refine lv_iconst (v := 0) hx hb dX6_spreadShades_19 (by decide) ?_
    refine lv_istore (lv' := [(4, .int 0), (3, .int 0), (0, .ref q), (1, .int (nI fr)), (2, .int wo)]) hx hb dX6_spreadShades_20 hl (by decide) rfl (fun ls hl => ?_)
    refine W_loopW (σ := Nat × Bool × (Nat → Int32)) (J := 22) (nL := 6) (fun n9 x H locs => x.1 + n9 = 2 * (gw * gh) + 1 ∧ x.1 ≤ 2 * (gw * gh) ∧ ssI gw gh (usS sh wo) fr x.2.2 ∧ (x.2.1 = true → zc x.2.2 64 < zc r1 64) ∧ (x.2.1 = false → x.2.2 = r1 ∧ ssP gw gh (usS sh wo) x.1 x.2.2) ∧ va_P E.1 vwCl [(q, .inr (7, [.int th, .int (nI gw), .int (nI gh), .ref y1, .ref y2, .ref y3, .int to, .int (b2i wr), .ref y4, .ref y5, .int (nI k), .ref y6, .ref y7, .ref y8, .ref y9, .int (nI mk), .ref y10, .ref y11, .ref y12, .ref y13, .ref y14, .ref y15, .ref y16, .ref y17, .ref y18])), (y3, .inl (E.2 0, 64, .inl sh)), (y18, .inl (E.2 1, 64, .inl x.2.2))] H ∧ va_D A [(q, .inr (7, [.int th, .int (nI gw), .int (nI gh), .ref y1, .ref y2, .ref y3, .int to, .int (b2i wr), .ref y4, .ref y5, .int (nI k), .ref y6, .ref y7, .ref y8, .ref y9, .int (nI mk), .ref y10, .ref y11, .ref y12, .ref y13, .ref y14, .ref y15, .ref y16, .ref y17, .ref y18])), (y3, .inl (E.2 0, 64, .inl sh)), (y18, .inl (E.2 1, 64, .inl x.2.2))] ∧ va_S A s.heap H locs) (fun x => [(4, .int (nI x.1)), (3, .int (b2i x.2.1)), (0, .ref q), (1, .int (nI fr)), (2, .int wo)]) (fun x H locs h => absurd h.1 (by have := h.2.1; omega)) (fun n_i ih_22 x H locs ls hI_i hl => ?_) (2 * (gw * gh) + 1) (0, false, r1) ⟨by dsimp only; omega, Nat.zero_le _, hi1, fun q => Bool.noConfusion q, fun _ => ⟨rfl, ssP_0⟩, hP, hD, hS⟩ (lv_sub hl [0, 1, 2, 3, 4] rfl)
    obtain ⟨je, mo1, r2⟩ := x
    obtain ⟨hn1, hjl, hi2, ht2, hf2, hP, hD, hS⟩ := hI_i
    dsimp only at hn1 hjl hi2 ht2 hf2
    have hl : lv_has ls 6 [(4, .int (nI je)), (3, .int (b2i mo1)), (0, .ref q), (1, .int (nI fr)), (2, .int wo)] := hl
    have hP : va_P E.1 vwCl [(q, .inr (7, [.int th, .int (nI gw), .int (nI gh), .ref y1, .ref y2, .ref y3, .int to, .int (b2i wr), .ref y4, .ref y5, .int (nI k), .ref y6, .ref y7, .ref y8, .ref y9, .int (nI mk), .ref y10, .ref y11, .ref y12, .ref y13, .ref y14, .ref y15, .ref y16, .ref y17, .ref y18])), (y3, .inl (E.2 0, 64, .inl sh)), (y18, .inl (E.2 1, 64, .inl r2))] H := hP
    have hD : va_D A [(q, .inr (7, [.int th, .int (nI gw), .int (nI gh), .ref y1, .ref y2, .ref y3, .int to, .int (b2i wr), .ref y4, .ref y5, .int (nI k), .ref y6, .ref y7, .ref y8, .ref y9, .int (nI mk), .ref y10, .ref y11, .ref y12, .ref y13, .ref y14, .ref y15, .ref y16, .ref y17, .ref y18])), (y3, .inl (E.2 0, 64, .inl sh)), (y18, .inl (E.2 1, 64, .inl r2))] := hD
    refine lv_iload hx hb dX6_spreadShades_22 (lv_at hl 0 rfl) ?_
    refine lv_iconst (v := 2) hx hb dX6_spreadShades_24 (by decide) ?_
    refine lv_aload_n hx hb dX6_spreadShades_25 rfl (lv_at hl 2 rfl) ?_
    refine crVi (As := []) (rest := [.int 2, .int (nI je)]) ⟨hx, hb, hml, hown, hts⟩ hE (cX6_all_ct l E q y1 y2 y3 y4 y5 y6 y7 y8 y9 y10 y11 y12 y13 y14 y15 y16 y17 y18 gw gh th to wr k mk) (cwV 0 hts gX6_spreadShades_X6_all rfl rfl rfl (by decide +kernel) ⟨Nat.le_of_ble_eq_true rfl, Nat.le_of_ble_eq_true rfl⟩) (hP.sub (ws' := [(q, .inr (7, [.int th, .int (nI gw), .int (nI gh), .ref y1, .ref y2, .ref y3, .int to, .int (b2i wr), .ref y4, .ref y5, .int (nI k), .ref y6, .ref y7, .ref y8, .ref y9, .int (nI mk), .ref y10, .ref y11, .ref y12, .ref y13, .ref y14, .ref y15, .ref y16, .ref y17, .ref y18]))]) [0] rfl) (va_recv hE.1 hP (ci := 7) (q0 := 0) rfl rfl) rfl hl.1 rfl (Nat.le_of_ble_eq_true rfl) dX6_spreadShades_26 ⟨Nat.zero_le _, Nat.zero_le _⟩ ?_
    refine lv_imul hx hb dX6_spreadShades_29 ?_
    refine lv_eqi (show (2 * (nI (gw * gh)) : Int32) = nI (2 * (gw * gh)) from pk_mul 2 (gw * gh)) ?_
    refine lv_icmp_ge (tgt := 131) hx hb dX6_spreadShades_30 (by decide) (fun c_30 => ?_) (fun c_30 => ?_)
    · skip
      have m_30 : (2 * (gw * gh)) ≤ je := (nI_leI (a := (2 * (gw * gh))) (b := je) (by omega) (by omega)).mp c_30
      have k_30 : ¬ je < (2 * (gw * gh)) := Nat.not_lt.mpr m_30
      have hje : je = 2 * (gw * gh) := by omega
      refine lv_goto (tgt := 13) hx hb dX6_spreadShades_131 (by decide) ?_
      exact ih_13 (mo1, r2) H locs ls ⟨hi2, fun q => by have h9 := (hf2 q).2; rw [hje] at h9; exact h9, by cases mo1 with | false => (have h9 := (hf2 rfl).1; rw [hmt] at hz1; simp only [h9]; simp at hz1 ⊢; omega) | true => (have h9 := ht2 rfl; rw [hmt] at hz1; simp at hz1 ⊢; omega), hP, hD, hS⟩ (lv_sub hl [1, 2, 3, 4] rfl)
    · skip
      have m_30 : ¬ (2 * (gw * gh)) ≤ je := fun q => c_30 ((nI_leI (a := (2 * (gw * gh))) (b := je) (by omega) (by omega)).mpr q)
      have k_30 : je < (2 * (gw * gh)) := Nat.lt_of_not_le m_30
      refine lv_aload_n hx hb dX6_spreadShades_33 rfl (lv_at hl 2 rfl) ?_
      refine lv_iload hx hb dX6_spreadShades_34 (lv_at hl 0 rfl) ?_
      refine crVi (As := [.int (nI je)]) (rest := []) ⟨hx, hb, hml, hown, hts⟩ hE (cX6_isEdge_ct l E q y1 y2 y3 y4 y5 y6 y7 y8 y9 y10 y11 y12 y13 y14 y15 y16 y17 y18 gw gh th to wr k mk (nI je) (by first | assumption | omega | (subst_vars; assumption)) (by first | assumption | omega | (subst_vars; assumption)) (by first | assumption | omega | (subst_vars; assumption)) (by first | assumption | omega | (subst_vars; assumption))) (cwV 1 hts gX6_spreadShades_X6_isEdge rfl rfl rfl (by decide +kernel) ⟨Nat.le_of_ble_eq_true rfl, Nat.le_of_ble_eq_true rfl⟩) (hP.sub (ws' := [(q, .inr (7, [.int th, .int (nI gw), .int (nI gh), .ref y1, .ref y2, .ref y3, .int to, .int (b2i wr), .ref y4, .ref y5, .int (nI k), .ref y6, .ref y7, .ref y8, .ref y9, .int (nI mk), .ref y10, .ref y11, .ref y12, .ref y13, .ref y14, .ref y15, .ref y16, .ref y17, .ref y18]))]) [0] rfl) (va_recv hE.1 hP (ci := 7) (q0 := 0) rfl rfl) rfl hl.1 rfl (Nat.le_of_ble_eq_true rfl) dX6_spreadShades_36 ⟨Nat.zero_le _, Nat.zero_le _⟩ ?_
      refine lv_eqi (congrArg b2i (rIsE_nI (j := je) (by omega))) ?_
      refine lv_if_eq (tgt := 125) hx hb dX6_spreadShades_39 (by decide) (fun c_39 => ?_) (fun c_39 => ?_)
      · skip
        have hskip : isEn gw gh je = true → ssE gw (usS sh wo) je r2 := fun h => by rw [b2i_eq0, h] at c_39; cases c_39
        refine lv_iinc (v := nI (je + 1)) (lv' := [(4, .int (nI (je + 1))), (3, .int (b2i mo1)), (0, .ref q), (1, .int (nI fr)), (2, .int wo)]) hx hb dX6_spreadShades_125 hl (k := 0) rfl (nI_1 _) (by decide) rfl (fun ls hl => ?_)
        refine lv_goto (tgt := 22) hx hb dX6_spreadShades_128 (by decide) ?_
        exact ih_22 (je + 1, mo1, r2) H locs ls ⟨by dsimp only; omega, by dsimp only; omega, hi2, ht2, fun q => ⟨(hf2 q).1, ssP_s (hf2 q).2 hskip⟩, hP, hD, hS⟩ (lv_sub hl [0, 1, 2, 3, 4] rfl)
      · skip
        have he : isEn gw gh je = true := by rw [b2i_eq0] at c_39; simpa using c_39
        have hot := oth_lt he hg1 hg8 hh8
        refine lv_aload_n hx hb dX6_spreadShades_42 rfl (lv_at hl 2 rfl) ?_
        refine va_get (D := E.1) (ci := 7) (v := .ref y18) (C := RX6) (T := TX6) (N := 25) hx hb hts hi_RX6 hown hE.1 hP 0 rfl rfl 24 (by decide) hf_66 (fun _ h9 => h9) rfl dX6_spreadShades_43 ?_
        refine lv_iload hx hb dX6_spreadShades_46 (lv_at hl 0 rfl) ?_
        refine lv_iconst (v := 2) hx hb dX6_spreadShades_48 (by decide) ?_
        refine lv_idiv hx hb dX6_spreadShades_49 (by decide) ?_
        refine lv_eqi (show ((nI je) / 2 : Int32) = nI (je / 2) from pk_div (a := je) (d := 2) (by omega) (by omega) (by omega)) ?_
        refine va_zald hx hb hE.1 hP 2 1 rfl rfl (show vp_in (nI (je / 2)) 64 from vp_in_nI (by omega) (by decide)) dX6_spreadShades_50 ?_
        refine lv_eqi (congrArg r2 (show (nI (je / 2) : Int32).toNatClampNeg = (je / 2) from nI_clamp (by omega))) ?_
        refine lv_aload_n hx hb dX6_spreadShades_51 rfl (lv_at hl 2 rfl) ?_
        refine va_get (D := E.1) (ci := 7) (v := .ref y18) (C := RX6) (T := TX6) (N := 25) hx hb hts hi_RX6 hown hE.1 hP 0 rfl rfl 24 (by decide) hf_66 (fun _ h9 => h9) rfl dX6_spreadShades_52 ?_
        refine lv_aload_n hx hb dX6_spreadShades_55 rfl (lv_at hl 2 rfl) ?_
        refine lv_iload hx hb dX6_spreadShades_56 (lv_at hl 0 rfl) ?_
        refine crVi (As := [.int (nI je)]) (rest := [.ref y18, .int (r2 (je / 2))]) ⟨hx, hb, hml, hown, hts⟩ hE (cX6_other_ct l E q y1 y2 y3 y4 y5 y6 y7 y8 y9 y10 y11 y12 y13 y14 y15 y16 y17 y18 gw gh th to wr k mk je (by first | assumption | omega | (subst_vars; assumption)) (by first | assumption | omega | (subst_vars; assumption)) (by first | assumption | omega | (subst_vars; assumption)) (by first | assumption | omega | (subst_vars; assumption)) (by first | assumption | omega | (subst_vars; assumption))) (cwV 1 hts gX6_spreadShades_X6_other rfl rfl rfl (by decide +kernel) ⟨Nat.le_of_ble_eq_true rfl, Nat.le_of_ble_eq_true rfl⟩) (hP.sub (ws' := [(q, .inr (7, [.int th, .int (nI gw), .int (nI gh), .ref y1, .ref y2, .ref y3, .int to, .int (b2i wr), .ref y4, .ref y5, .int (nI k), .ref y6, .ref y7, .ref y8, .ref y9, .int (nI mk), .ref y10, .ref y11, .ref y12, .ref y13, .ref y14, .ref y15, .ref y16, .ref y17, .ref y18]))]) [0] rfl) (va_recv hE.1 hP (ci := 7) (q0 := 0) rfl rfl) rfl hl.1 rfl (Nat.le_of_ble_eq_true rfl) dX6_spreadShades_58 ⟨Nat.zero_le _, Nat.zero_le _⟩ ?_
        refine va_zald hx hb hE.1 hP 2 1 rfl rfl (show vp_in (nI (oth gw je)) 64 from vp_in_nI (by omega) (by decide)) dX6_spreadShades_61 ?_
        refine lv_eqi (congrArg r2 (show (nI (oth gw je) : Int32).toNatClampNeg = (oth gw je) from nI_clamp (by omega))) ?_
        refine lv_icmp_ne (tgt := 68) hx hb dX6_spreadShades_62 (by decide) (fun c_62 => ?_) (fun c_62 => ?_)
        · skip
          refine lv_aload_n hx hb dX6_spreadShades_68 rfl (lv_at hl 2 rfl) ?_
          refine va_get (D := E.1) (ci := 7) (v := .ref y18) (C := RX6) (T := TX6) (N := 25) hx hb hts hi_RX6 hown hE.1 hP 0 rfl rfl 24 (by decide) hf_66 (fun _ h9 => h9) rfl dX6_spreadShades_69 ?_
          refine lv_iload hx hb dX6_spreadShades_72 (lv_at hl 0 rfl) ?_
          refine lv_iconst (v := 2) hx hb dX6_spreadShades_74 (by decide) ?_
          refine lv_idiv hx hb dX6_spreadShades_75 (by decide) ?_
          refine lv_eqi (show ((nI je) / 2 : Int32) = nI (je / 2) from pk_div (a := je) (d := 2) (by omega) (by omega) (by omega)) ?_
          refine va_zald hx hb hE.1 hP 2 1 rfl rfl (show vp_in (nI (je / 2)) 64 from vp_in_nI (by omega) (by decide)) dX6_spreadShades_76 ?_
          refine lv_eqi (congrArg r2 (show (nI (je / 2) : Int32).toNatClampNeg = (je / 2) from nI_clamp (by omega))) ?_
          refine W_joinI (J := 93) (rest := []) (fun z9 => z9 = nI (if r2 (je / 2) = 0 then je / 2 else oth gw je)) (fun v_3 ev_3 => ?_) (fun K_77 => ?_)
          · skip
            subst ev_3
            have hccb : (if r2 (je / 2) = 0 then je / 2 else oth gw je) < 64 := by split <;> omega
            refine lv_istore (lv' := [(5, .int (nI (if r2 (je / 2) = 0 then je / 2 else oth gw je))), (4, .int (nI je)), (3, .int (b2i mo1)), (0, .ref q), (1, .int (nI fr)), (2, .int wo)]) hx hb dX6_spreadShades_93 hl (by decide) rfl (fun ls hl => ?_)
            refine lv_aload_n hx hb dX6_spreadShades_95 rfl (lv_at hl 3 rfl) ?_
            refine va_get (D := E.1) (ci := 7) (v := .ref y3) (C := RX6) (T := TX6) (N := 25) hx hb hts hi_RX6 hown hE.1 hP 0 rfl rfl 5 (by decide) hf_16 (fun _ h9 => h9) rfl dX6_spreadShades_96 ?_
            refine lv_iload hx hb dX6_spreadShades_99 (lv_at hl 0 rfl) ?_
            refine va_iald hx hb hE.1 hP 1 0 rfl rfl (show vp_in (nI (if r2 (je / 2) = 0 then je / 2 else oth gw je)) 64 from vp_in_nI (by omega) (by decide)) dX6_spreadShades_101 ?_
            refine lv_eqi (congrArg sh (show (nI (if r2 (je / 2) = 0 then je / 2 else oth gw je) : Int32).toNatClampNeg = (if r2 (je / 2) = 0 then je / 2 else oth gw je) from nI_clamp (by omega))) ?_
            refine lv_iconst (v := 2) hx hb dX6_spreadShades_102 (by decide) ?_
            refine lv_icmp_eq (tgt := 125) hx hb dX6_spreadShades_103 (by decide) (fun c_103 => ?_) (fun c_103 => ?_)
            · skip
              have hskip : isEn gw gh je = true → ssE gw (usS sh wo) je r2 := fun _ => ssE_no c_62 hi2.1 (by omega) (by omega) (by simp [usS, c_103])
              refine lv_iinc (v := nI (je + 1)) (lv' := [(4, .int (nI (je + 1))), (5, .int (nI (if r2 (je / 2) = 0 then je / 2 else oth gw je))), (3, .int (b2i mo1)), (0, .ref q), (1, .int (nI fr)), (2, .int wo)]) hx hb dX6_spreadShades_125 hl (k := 1) rfl (nI_1 _) (by decide) rfl (fun ls hl => ?_)
              refine lv_goto (tgt := 22) hx hb dX6_spreadShades_128 (by decide) ?_
              exact ih_22 (je + 1, mo1, r2) H locs ls ⟨by dsimp only; omega, by dsimp only; omega, hi2, ht2, fun q => ⟨(hf2 q).1, ssP_s (hf2 q).2 hskip⟩, hP, hD, hS⟩ (lv_sub hl [0, 2, 3, 4, 5] rfl)
            · skip
              refine lv_iload hx hb dX6_spreadShades_106 (lv_at hl 0 rfl) ?_
              refine lv_iload_n hx hb dX6_spreadShades_108 rfl (lv_at hl 5 rfl) ?_
              refine lv_icmp_ne (tgt := 115) hx hb dX6_spreadShades_109 (by decide) (fun c_109 => ?_) (fun c_109 => ?_)
              · skip
                refine lv_aload_n hx hb dX6_spreadShades_115 rfl (lv_at hl 3 rfl) ?_
                refine va_get (D := E.1) (ci := 7) (v := .ref y18) (C := RX6) (T := TX6) (N := 25) hx hb hts hi_RX6 hown hE.1 hP 0 rfl rfl 24 (by decide) hf_66 (fun _ h9 => h9) rfl dX6_spreadShades_116 ?_
                refine lv_iload hx hb dX6_spreadShades_119 (lv_at hl 0 rfl) ?_
                refine lv_iconst (v := 1) hx hb dX6_spreadShades_121 (by decide) ?_
                refine va_zast hx hb hE.1 hP hD hS 2 1 rfl rfl (show vp_in (nI (if r2 (je / 2) = 0 then je / 2 else oth gw je)) 64 from vp_in_nI (by omega) (by decide)) dX6_spreadShades_122 (fun H locs hP hD hS => ?_)
                rw [show (nI (if r2 (je / 2) = 0 then je / 2 else oth gw je) : Int32).toNatClampNeg = (if r2 (je / 2) = 0 then je / 2 else oth gw je) from nI_clamp (by omega)] at hP hD
                rw [show vp_nar .boolean 1 = 1 from rfl] at hP hD
                have hP : va_P E.1 vwCl [(q, .inr (7, [.int th, .int (nI gw), .int (nI gh), .ref y1, .ref y2, .ref y3, .int to, .int (b2i wr), .ref y4, .ref y5, .int (nI k), .ref y6, .ref y7, .ref y8, .ref y9, .int (nI mk), .ref y10, .ref y11, .ref y12, .ref y13, .ref y14, .ref y15, .ref y16, .ref y17, .ref y18])), (y3, .inl (E.2 0, 64, .inl sh)), (y18, .inl (E.2 1, 64, .inl (upd r2 (if r2 (je / 2) = 0 then je / 2 else oth gw je) 1)))] H := hP
                have hD : va_D A [(q, .inr (7, [.int th, .int (nI gw), .int (nI gh), .ref y1, .ref y2, .ref y3, .int to, .int (b2i wr), .ref y4, .ref y5, .int (nI k), .ref y6, .ref y7, .ref y8, .ref y9, .int (nI mk), .ref y10, .ref y11, .ref y12, .ref y13, .ref y14, .ref y15, .ref y16, .ref y17, .ref y18])), (y3, .inl (E.2 0, 64, .inl sh)), (y18, .inl (E.2 1, 64, .inl (upd r2 (if r2 (je / 2) = 0 then je / 2 else oth gw je) 1)))] := hD
                refine lv_iconst (v := 1) hx hb dX6_spreadShades_123 (by decide) ?_
                refine lv_istore_n (lv' := [(3, .int 1), (5, .int (nI (if r2 (je / 2) = 0 then je / 2 else oth gw je))), (4, .int (nI je)), (0, .ref q), (1, .int (nI fr)), (2, .int wo)]) hx hb dX6_spreadShades_124 rfl hl (by decide) rfl (fun ls hl => ?_)
                refine lv_iinc (v := nI (je + 1)) (lv' := [(4, .int (nI (je + 1))), (3, .int 1), (5, .int (nI (if r2 (je / 2) = 0 then je / 2 else oth gw je))), (0, .ref q), (1, .int (nI fr)), (2, .int wo)]) hx hb dX6_spreadShades_125 hl (k := 2) rfl (nI_1 _) (by decide) rfl (fun ls hl => ?_)
                refine lv_goto (tgt := 22) hx hb dX6_spreadShades_128 (by decide) ?_
                exact ih_22 (je + 1, true, upd r2 (if r2 (je / 2) = 0 then je / 2 else oth gw je) 1) H locs ls ⟨by dsimp only; omega, by dsimp only; omega, ssI_step hi2 he hot (by omega) c_62 (by simp [usS, c_103, c_109]), fun _ => Nat.lt_of_lt_of_le (zc_stepS hccb (ss_c0 c_62 hi2.1 (by omega) (by omega))) (by cases mo1 with | false => (rw [(hf2 rfl).1]; exact Nat.le_refl _) | true => exact Nat.le_of_lt (ht2 rfl)), fun q => Bool.noConfusion q, hP, hD, hS⟩ (lv_sub hl [0, 1, 3, 4, 5] rfl)
              · skip
                refine lv_goto (tgt := 125) hx hb dX6_spreadShades_112 (by decide) ?_
                have hskip : isEn gw gh je = true → ssE gw (usS sh wo) je r2 := fun _ => ssE_no c_62 hi2.1 (by omega) (by omega) (by simp [usS, c_109])
                refine lv_iinc (v := nI (je + 1)) (lv' := [(4, .int (nI (je + 1))), (5, .int (nI (if r2 (je / 2) = 0 then je / 2 else oth gw je))), (3, .int (b2i mo1)), (0, .ref q), (1, .int (nI fr)), (2, .int wo)]) hx hb dX6_spreadShades_125 hl (k := 1) rfl (nI_1 _) (by decide) rfl (fun ls hl => ?_)
                refine lv_goto (tgt := 22) hx hb dX6_spreadShades_128 (by decide) ?_
                exact ih_22 (je + 1, mo1, r2) H locs ls ⟨by dsimp only; omega, by dsimp only; omega, hi2, ht2, fun q => ⟨(hf2 q).1, ssP_s (hf2 q).2 hskip⟩, hP, hD, hS⟩ (lv_sub hl [0, 2, 3, 4, 5] rfl)
          · skip
            refine lv_if_eq (tgt := 89) hx hb dX6_spreadShades_77 (by decide) (fun c_77 => ?_) (fun c_77 => ?_)
            · skip
              refine lv_iload hx hb dX6_spreadShades_89 (lv_at hl 0 rfl) ?_
              refine lv_iconst (v := 2) hx hb dX6_spreadShades_91 (by decide) ?_
              refine lv_idiv hx hb dX6_spreadShades_92 (by decide) ?_
              refine lv_eqi (show ((nI je) / 2 : Int32) = nI (je / 2) from pk_div (a := je) (d := 2) (by omega) (by omega) (by omega)) ?_
              exact K_77 _ (by simp only [c_77, if_true, if_false])
            · skip
              refine lv_aload_n hx hb dX6_spreadShades_80 rfl (lv_at hl 2 rfl) ?_
              refine lv_iload hx hb dX6_spreadShades_81 (lv_at hl 0 rfl) ?_
              refine crVi (As := [.int (nI je)]) (rest := []) ⟨hx, hb, hml, hown, hts⟩ hE (cX6_other_ct l E q y1 y2 y3 y4 y5 y6 y7 y8 y9 y10 y11 y12 y13 y14 y15 y16 y17 y18 gw gh th to wr k mk je (by first | assumption | omega | (subst_vars; assumption)) (by first | assumption | omega | (subst_vars; assumption)) (by first | assumption | omega | (subst_vars; assumption)) (by first | assumption | omega | (subst_vars; assumption)) (by first | assumption | omega | (subst_vars; assumption))) (cwV 1 hts gX6_spreadShades_X6_other rfl rfl rfl (by decide +kernel) ⟨Nat.le_of_ble_eq_true rfl, Nat.le_of_ble_eq_true rfl⟩) (hP.sub (ws' := [(q, .inr (7, [.int th, .int (nI gw), .int (nI gh), .ref y1, .ref y2, .ref y3, .int to, .int (b2i wr), .ref y4, .ref y5, .int (nI k), .ref y6, .ref y7, .ref y8, .ref y9, .int (nI mk), .ref y10, .ref y11, .ref y12, .ref y13, .ref y14, .ref y15, .ref y16, .ref y17, .ref y18]))]) [0] rfl) (va_recv hE.1 hP (ci := 7) (q0 := 0) rfl rfl) rfl hl.1 rfl (Nat.le_of_ble_eq_true rfl) dX6_spreadShades_83 ⟨Nat.zero_le _, Nat.zero_le _⟩ ?_
              refine lv_goto (tgt := 93) hx hb dX6_spreadShades_86 (by decide) ?_
              exact K_77 _ (by simp only [c_77, if_true, if_false])
        · skip
          refine lv_goto (tgt := 125) hx hb dX6_spreadShades_65 (by decide) ?_
          have hskip : isEn gw gh je = true → ssE gw (usS sh wo) je r2 := fun _ => ssE_eq c_62
          refine lv_iinc (v := nI (je + 1)) (lv' := [(4, .int (nI (je + 1))), (3, .int (b2i mo1)), (0, .ref q), (1, .int (nI fr)), (2, .int wo)]) hx hb dX6_spreadShades_125 hl (k := 0) rfl (nI_1 _) (by decide) rfl (fun ls hl => ?_)
          refine lv_goto (tgt := 22) hx hb dX6_spreadShades_128 (by decide) ?_
          exact ih_22 (je + 1, mo1, r2) H locs ls ⟨by dsimp only; omega, by dsimp only; omega, hi2, ht2, fun q => ⟨(hf2 q).1, ssP_s (hf2 q).2 hskip⟩, hP, hD, hS⟩ (lv_sub hl [0, 1, 2, 3, 4] rfl)
