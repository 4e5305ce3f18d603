def usE (ed : Nat → Int32) (z : Bool) (wo : Int32) (e : Nat) : Bool := decide (¬ nI e = wo) && (if z then decide (ed e = 1) else decide (¬ ed e = 2))
/-- b can be come to from a over edges of P -/
def Rch (gw gh : Nat) (P : Nat → Bool) (a b : Nat) : Prop := ∀ S : Nat → Prop, S a → (∀ e, isEn gw gh e = true → P e = true → (S (e / 2) ↔ S (oth gw e))) → S b
def zc (r : Nat → Int32) : Nat → Nat
  | 0 => 0
  | k + 1 => (if r k = 0 then 1 else 0) + zc r k
theorem zc_le (r : Nat → Int32) (k : Nat) : zc r k ≤ k := by
  induction k with
  | zero => exact Nat.le_refl _
  | succ k ih => rw [zc]; split <;> omega
theorem zc_congr {r r' : Nat → Int32} {k : Nat} (h : ∀ i, i < k → r i = r' i) : zc r k = zc r' k := by
  induction k with
  | zero => rfl
  | succ k ih => rw [zc, zc, h k (by omega), ih (fun i hi => h i (by omega))]
theorem zc_upd {r : Nat → Int32} {j k : Nat} (hj : j < k) (h0 : r j = 0) : zc (upd r j 1) k + 1 = zc r k := by
  induction k with
  | zero => omega
  | succ k ih =>
    rw [zc, zc]
    rcases Nat.lt_or_ge j k with q | q
    · rw [pk_un (by omega)]; have := ih q; omega
    · obtain rfl : j = k := by omega
      rw [pk_us, h0, zc_congr (r := upd r j 1) (r' := r) (fun i hi => pk_un (by omega))]
      simp
      omega
theorem upd_same {r : Nat → Int32} {j : Nat} {x : Int32} (h : r j = x) : upd r j x = r := by
  funext i; unfold upd; by_cases q : i = j
  · rw [if_pos q, q, h]
  · rw [if_neg q]
def spI (gw gh : Nat) (P : Nat → Bool) (fr : Nat) (r : Nat → Int32) : Prop := (∀ i, i < 64 → r i = 0 ∨ r i = 1) ∧ r fr = 1 ∧ ∀ i, i < 64 → r i = 1 → Rch gw gh P fr i
def spP (gw gh : Nat) (P : Nat → Bool) (n : Nat) (r : Nat → Int32) : Prop := ∀ e, e < n → isEn gw gh e = true → P e = true → r (e / 2) = r (oth gw e)
def spC (gw gh : Nat) (P : Nat → Bool) (r : Nat → Int32) : Prop := spP gw gh P (2 * (gw * gh)) r
theorem spP_0 {gw gh : Nat} {P : Nat → Bool} {r : Nat → Int32} : spP gw gh P 0 r := fun e h => absurd h (Nat.not_lt_zero e)
theorem spP_s {gw gh : Nat} {P : Nat → Bool} {n : Nat} {r : Nat → Int32} (h : spP gw gh P n r) (hs : isEn gw gh n = true → P n = true → r (n / 2) = r (oth gw n)) : spP gw gh P (n + 1) r := by
  intro e h1 h2 h3
  rcases Nat.lt_or_ge e n with q | q
  · exact h e q h2 h3
  · obtain rfl : e = n := by omega
    exact hs h2 h3
theorem spI_0 {gw gh : Nat} {P : Nat → Bool} {fr : Nat} {r : Nat → Int32} (hz : ∀ i, i < 64 → r i = 0) (_ : fr < 64) : spI gw gh P fr (upd r fr 1) := by
  refine ⟨fun i hi => ?_, pk_us, fun i hi h => ?_⟩
  · by_cases q : i = fr
    · subst q; exact Or.inr pk_us
    · rw [pk_un q]; exact Or.inl (hz i hi)
  · by_cases q : i = fr
    · subst q; exact fun S h _ => h
    · rw [pk_un q, hz i hi] at h; exact absurd h (by decide)
theorem oth_lt {gw gh j : Nat} (h : isEn gw gh j = true) (h1 : 1 ≤ gw) (h2 : gw ≤ 8) (h3 : gh ≤ 8) : oth gw j < 64 := by
  have hN : gw * gh ≤ 64 := Nat.mul_le_mul h2 h3
  simp only [isEn, Bool.and_eq_true, decide_eq_true_eq] at h
  unfold oth
  split
  · rename_i hq
    rw [if_pos hq, decide_eq_true_eq] at h
    have hd := Nat.div_add_mod (j / 2) gw
    have hlt : j / 2 / gw < gh := by rw [Nat.div_lt_iff_lt_mul (by omega), Nat.mul_comm]; omega
    have h9 : gw * (j / 2 / gw + 1) ≤ gw * gh := Nat.mul_le_mul_left gw hlt
    rw [Nat.mul_add] at h9
    omega
  · rename_i hq
    rw [if_neg hq, decide_eq_true_eq] at h
    have hd := Nat.div_add_mod (j / 2) gw
    have hm := Nat.mod_lt (j / 2) (show 0 < gw by omega)
    generalize j / 2 / gw = x at h hd
    generalize j / 2 % gw = y at hm hd
    have h9 : gw * (x + 2) ≤ gw * gh := Nat.mul_le_mul_left gw (by omega)
    rw [Nat.mul_add] at h9
    omega
theorem sp_two {r : Nat → Int32} {a b : Nat} (h : ∀ i, i < 64 → r i = 0 ∨ r i = 1) (ha : a < 64) (hb : b < 64) (hne : ¬ r a = r b) : (r a = 1 ∧ r b = 0 ∧ upd (upd r a 1) b 1 = upd r b 1) ∨ (r a = 0 ∧ r b = 1 ∧ upd (upd r a 1) b 1 = upd r a 1) := by
  rcases h a ha with p | p <;> rcases h b hb with q | q
  · exact absurd (p.trans q.symm) hne
  · refine Or.inr ⟨p, q, upd_same ?_⟩
    by_cases hab : b = a
    · subst hab; exact pk_us
    · rw [pk_un hab]; exact q
  · exact Or.inl ⟨p, q, by rw [upd_same p]⟩
  · exact absurd (p.trans q.symm) hne
theorem zc_step {gw gh : Nat} {P : Nat → Bool} {fr : Nat} {r : Nat → Int32} {a b : Nat} (h : spI gw gh P fr r) (hb : b < 64) (ha : a < 64) (hne : ¬ r a = r b) : zc (upd (upd r a 1) b 1) 64 < zc r 64 := by
  rcases sp_two h.1 ha hb hne with ⟨-, h0, e⟩ | ⟨h0, -, e⟩
  · rw [e]; have := zc_upd hb h0; omega
  · rw [e]; have := zc_upd ha h0; omega
theorem spI_step {gw gh : Nat} {P : Nat → Bool} {fr j : Nat} {r : Nat → Int32} (h : spI gw gh P fr r) (he : isEn gw gh j = true) (hp : P j = true) (hb : oth gw j < 64) (ha : j / 2 < 64) (hne : ¬ r (j / 2) = r (oth gw j)) : spI gw gh P fr (upd (upd r (j / 2) 1) (oth gw j) 1) := by
  rcases sp_two h.1 ha hb hne with ⟨h1, h0, e⟩ | ⟨h0, h1, e⟩
  · rw [e]
    refine ⟨fun i hi => ?_, ?_, fun i hi hq => ?_⟩
    · by_cases q : i = oth gw j
      · subst q; exact Or.inr pk_us
      · rw [pk_un q]; exact h.1 i hi
    · by_cases q : fr = oth gw j
      · rw [q]; exact pk_us
      · rw [pk_un q]; exact h.2.1
    · by_cases q : i = oth gw j
      · subst q
        exact fun S hS hc => (hc j he hp).mp (h.2.2 _ ha h1 S hS hc)
      · rw [pk_un q] at hq; exact h.2.2 i hi hq
  · rw [e]
    refine ⟨fun i hi => ?_, ?_, fun i hi hq => ?_⟩
    · by_cases q : i = j / 2
      · subst q; exact Or.inr pk_us
      · rw [pk_un q]; exact h.1 i hi
    · by_cases q : fr = j / 2
      · rw [q]; exact pk_us
      · rw [pk_un q]; exact h.2.1
    · by_cases q : i = j / 2
      · subst q
        exact fun S hS hc => (hc j he hp).mpr (h.2.2 _ hb h1 S hS hc)
      · rw [pk_un q] at hq; exact h.2.2 i hi hq
set_option maxHeartbeats 4000000 in
set_option maxRecDepth 100000 in
theorem cX6_clear_ct (l : Launch) (E : GE) (sz : Nat) (q : Nat) (y1 : Nat) (y2 : Nat) (y3 : Nat) (y4 : Nat) (y5 : Nat) (y6 : Nat) (y7 : Nat) (y8 : Nat) (y9 : Nat) (y10 : Nat) (y11 : Nat) (y12 : Nat) (y13 : Nat) (y14 : Nat) (y15 : Nat) (y16 : Nat) (y17 : Nat) (y18 : Nat) (gw : Nat) (gh : Nat) (th : Int32) (to : Int32) (wr : Bool) (k : Nat) (mk : Nat) (rc : Nat → Int32)   : wrM l yX6_clear wsX6_clear ({ frames := 0, cells := 0, slots := 0, locals := 0 }) E sz [.ref q] [(q, .inr (7, [.int th, .int (nI gw), .int (nI gh), .ref y1, .ref y2, .ref y3, .int to, .int (b2i wr), .ref y4, .ref y5, .int (nI k), .ref y6, .ref y7, .ref y8, .ref y9, .int (nI mk), .ref y10, .ref y11, .ref y12, .ref y13, .ref y14, .ref y15, .ref y16, .ref y17, .ref y18])), (y18, .inl (E.2 1, 64, .inl rc))] none (fun cs' => ∃ rc' : Nat → Int32, (∀ i, i < 64 → rc' i = 0) ∧ cs' = [(q, .inr (7, [.int th, .int (nI gw), .int (nI gh), .ref y1, .ref y2, .ref y3, .int to, .int (b2i wr), .ref y4, .ref y5, .int (nI k), .ref y6, .ref y7, .ref y8, .ref y9, .int (nI mk), .ref y10, .ref y11, .ref y12, .ref y13, .ref y14, .ref y15, .ref y16, .ref y17, .ref y18])), (y18, .inl (E.2 1, 64, .inl rc'))]) 0 0 := by
  refine Met.ofW (cc := cX6_clear) (maxL := 2) (ret := none) (by decide) rfl ?_
  intro p e s m args below meth c s₁ B hml hv
  obtain ⟨rfl, hsz, hE, hP, hD0⟩ := hv
  have hx := B.exec
  have hb := B.bytes
  have hr := B.returns
  have hts := atoms_spec (ws := wsX6_clear) B.pre
  have hown : s.vm.findClass RX6 = some m.cls := findClass_of_methodNamed B.named
  have hlocks := B.notSynchronized
  subst hsz
  have hD := hD0.self (sz := s.heap.size)
  generalize hAe : va_A [(q, .inr (7, [.int th, .int (nI gw), .int (nI gh), .ref y1, .ref y2, .ref y3, .int to, .int (b2i wr), .ref y4, .ref y5, .int (nI k), .ref y6, .ref y7, .ref y8, .ref y9, .int (nI mk), .ref y10, .ref y11, .ref y12, .ref y13, .ref y14, .ref y15, .ref y16, .ref y17, .ref y18])), (y18, .inl (E.2 1, 64, .inl rc))] s.heap.size = A at hD ⊢
  have hA : ∀ q : Nat, s.heap.size ≤ q → A q := fun q h => by rw [← hAe]; exact Or.inr h
  have hS : va_S A s.heap s.heap [] := va_S.rf
  have hP : va_P E.1 vwCl [(q, .inr (7, [.int th, .int (nI gw), .int (nI gh), .ref y1, .ref y2, .ref y3, .int to, .int (b2i wr), .ref y4, .ref y5, .int (nI k), .ref y6, .ref y7, .ref y8, .ref y9, .int (nI mk), .ref y10, .ref y11, .ref y12, .ref y13, .ref y14, .ref y15, .ref y16, .ref y17, .ref y18])), (y18, .inl (E.2 1, 64, .inl rc))] s.heap := hP
  have hl := lv_entry ([.ref q]) (n := 2) (Nat.le_of_ble_eq_true rfl)
  rw [lg_entry_eq]
  generalize (lg_sl ([.ref q]) ++ List.replicate (2 - (lg_sl ([.ref q])).length) Slot.unset).toArray = ls at hl ⊢
  have hl : lv_has ls 2 [(0, .ref q)] := hl
  have hf_66 := hts (.fieldLink RX6 66 "LoopRegionsModel" "reached" "[Z") (by decide +kernel)
  have hi_RX6 : ∀ w ∈ wsX60, w ∈ wsX6_clear := by decide +kernel
  refine lv_iconst (v := 0) hx hb dX6_clear_0 (by decide) ?_
  refine lv_istore_n (lv' := [(1, .int 0), (0, .ref q)]) hx hb dX6_clear_1 rfl hl (by decide) rfl (fun ls hl => ?_)
  refine W_loopW (σ := Int32 × (Nat → Int32)) (J := 2) (nL := 2) (fun n9 x H locs => ∃ k9, n9 = k9 + 1 ∧ k9 ≤ 64 ∧ x.1 = nI (64 - k9) ∧ (∀ i, i < 64 - k9 → x.2 i = 0) ∧ va_P E.1 vwCl [(q, .inr (7, [.int th, .int (nI gw), .int (nI gh), .ref y1, .ref y2, .ref y3, .int to, .int (b2i wr), .ref y4, .ref y5, .int (nI k), .ref y6, .ref y7, .ref y8, .ref y9, .int (nI mk), .ref y10, .ref y11, .ref y12, .ref y13, .ref y14, .ref y15, .ref y16, .ref y17, .ref y18])), (y18, .inl (E.2 1, 64, .inl x.2))] H ∧ va_D A [(q, .inr (7, [.int th, .int (nI gw), .int (nI gh), .ref y1, .ref y2, .ref y3, .int to, .int (b2i wr), .ref y4, .ref y5, .int (nI k), .ref y6, .ref y7, .ref y8, .ref y9, .int (nI mk), .ref y10, .ref y11, .ref y12, .ref y13, .ref y14, .ref y15, .ref y16, .ref y17, .ref y18])), (y18, .inl (E.2 1, 64, .inl x.2))] ∧ va_S A s.heap H locs) (fun x => [(1, .int x.1), (0, .ref q)]) (fun x H locs h => by obtain ⟨k9, h, _⟩ := h; exact absurd h (by omega)) (fun n_2 ih_2 x H locs ls hI_2 hl => ?_) (65) (0, rc) (⟨64, rfl, Nat.le_refl _, rfl, fun i h => absurd h (by omega), hP, hD, hS⟩) (lv_sub hl [0, 1] rfl)
  obtain ⟨dd, r0⟩ := x
  try dsimp only at hI_2
  have hl : lv_has ls 2 [(1, .int dd), (0, .ref q)] := hl
  obtain ⟨k9, hk_2, hN_2, rfl, hz, hP, hD, hS⟩ := hI_2
  obtain rfl : n_2 = k9 := Nat.succ.inj hk_2
  have hl : lv_has ls 2 [(1, .int (nI (64 - n_2))), (0, .ref q)] := hl
  have hP : va_P E.1 vwCl [(q, .inr (7, [.int th, .int (nI gw), .int (nI gh), .ref y1, .ref y2, .ref y3, .int to, .int (b2i wr), .ref y4, .ref y5, .int (nI k), .ref y6, .ref y7, .ref y8, .ref y9, .int (nI mk), .ref y10, .ref y11, .ref y12, .ref y13, .ref y14, .ref y15, .ref y16, .ref y17, .ref y18])), (y18, .inl (E.2 1, 64, .inl r0))] H := hP
  have hD : va_D A [(q, .inr (7, [.int th, .int (nI gw), .int (nI gh), .ref y1, .ref y2, .ref y3, .int to, .int (b2i wr), .ref y4, .ref y5, .int (nI k), .ref y6, .ref y7, .ref y8, .ref y9, .int (nI mk), .ref y10, .ref y11, .ref y12, .ref y13, .ref y14, .ref y15, .ref y16, .ref y17, .ref y18])), (y18, .inl (E.2 1, 64, .inl r0))] := hD
  refine lv_iload_n hx hb dX6_clear_2 rfl (lv_at hl 0 rfl) ?_
  refine lv_bipush (v := 64) hx hb dX6_clear_3 (by decide) ?_
  refine lv_icmp_ge (tgt := 21) hx hb dX6_clear_5 (by decide) (fun c_5 => ?_) (fun c_5 => ?_)
  · skip
    have m_5 : 64 ≤ (64 - n_2) := (nI_leI (a := 64) (b := (64 - n_2)) (by omega) (by omega)).mp c_5
    have k_5 : ¬ (64 - n_2) < 64 := Nat.not_lt.mpr m_5
    exact W.vret hx hb hr (fun t9 ht9 hW => ⟨⟨rfl, [(q, .inr (7, [.int th, .int (nI gw), .int (nI gh), .ref y1, .ref y2, .ref y3, .int to, .int (b2i wr), .ref y4, .ref y5, .int (nI k), .ref y6, .ref y7, .ref y8, .ref y9, .int (nI mk), .ref y10, .ref y11, .ref y12, .ref y13, .ref y14, .ref y15, .ref y16, .ref y17, .ref y18])), (y18, .inl (E.2 1, 64, .inl r0))], ⟨_, fun i h => hz i (by omega), rfl⟩, by rw [ht9]; exact hP, hD⟩, hS.F ht9⟩) hS.2.2 dX6_clear_21
  · skip
    have m_5 : ¬ 64 ≤ (64 - n_2) := fun q => c_5 ((nI_leI (a := 64) (b := (64 - n_2)) (by omega) (by omega)).mpr q)
    have k_5 : (64 - n_2) < 64 := Nat.lt_of_not_le m_5
    obtain ⟨j, rfl⟩ : ∃ j, n_2 = j + 1 := ⟨n_2 - 1, by omega⟩
    refine lv_aload_n hx hb dX6_clear_8 rfl (lv_at hl 1 rfl) ?_
    refine va_get (D := E.1) (ci := 7) (v := .ref y18) (C := RX6) (T := TX6) (N := 25) hx hb hts hi_RX6 hown hE.1 hP 0 rfl rfl 24 (by decide) hf_66 (fun _ h9 => h9) rfl dX6_clear_9 ?_
    refine lv_iload_n hx hb dX6_clear_12 rfl (lv_at hl 0 rfl) ?_
    refine lv_iconst (v := 0) hx hb dX6_clear_13 (by decide) ?_
    refine va_zast hx hb hE.1 hP hD hS 1 1 rfl rfl (show vp_in (nI (64 - (j + 1))) 64 from vp_in_nI (by omega) (by decide)) dX6_clear_14 (fun H locs hP hD hS => ?_)
    rw [show (nI (64 - (j + 1)) : Int32).toNatClampNeg = (64 - (j + 1)) from nI_clamp (by omega)] at hP hD
    rw [show vp_nar .boolean 0 = 0 from rfl] at hP hD
    have hP : va_P E.1 vwCl [(q, .inr (7, [.int th, .int (nI gw), .int (nI gh), .ref y1, .ref y2, .ref y3, .int to, .int (b2i wr), .ref y4, .ref y5, .int (nI k), .ref y6, .ref y7, .ref y8, .ref y9, .int (nI mk), .ref y10, .ref y11, .ref y12, .ref y13, .ref y14, .ref y15, .ref y16, .ref y17, .ref y18])), (y18, .inl (E.2 1, 64, .inl (upd r0 (64 - (j + 1)) 0)))] H := hP
    have hD : va_D A [(q, .inr (7, [.int th, .int (nI gw), .int (nI gh), .ref y1, .ref y2, .ref y3, .int to, .int (b2i wr), .ref y4, .ref y5, .int (nI k), .ref y6, .ref y7, .ref y8, .ref y9, .int (nI mk), .ref y10, .ref y11, .ref y12, .ref y13, .ref y14, .ref y15, .ref y16, .ref y17, .ref y18])), (y18, .inl (E.2 1, 64, .inl (upd r0 (64 - (j + 1)) 0)))] := hD
    refine lv_iinc (v := nI ((64 - (j + 1)) + 1)) (lv' := [(1, .int (nI ((64 - (j + 1)) + 1))), (0, .ref q)]) hx hb dX6_clear_15 hl (k := 0) rfl (nI_1 _) (by decide) rfl (fun ls hl => ?_)
    refine lv_goto (tgt := 2) hx hb dX6_clear_18 (by decide) ?_
    exact ih_2 (nI ((64 - (j + 1)) + 1), upd r0 (64 - (j + 1)) 0) H locs ls (⟨j, rfl, by omega, congrArg nI (by omega), fun i h => by rcases Nat.lt_or_ge i (64 - (j + 1)) with q | q; (show upd _ _ _ i = 0; rw [pk_un (by omega)]; exact hz i q); (show upd _ _ _ i = 0; rw [show i = 64 - (j + 1) by omega]; exact pk_us), hP, hD, hS⟩) (lv_sub hl [0, 1] rfl)
set_option maxHeartbeats 4000000 in
set_option maxRecDepth 100000 in
theorem cX6_spread_ct (l : Launch) (E : GE) (sz : Nat) (q : Nat) (y1 : Nat) (y2 : Nat) (y3 : Nat) (y4 : Nat) (y5 : Nat) (y6 : Nat) (y7 : Nat) (y8 : Nat) (y9 : Nat) (y10 : Nat) (y11 : Nat) (y12 : Nat) (y13 : Nat) (y14 : Nat) (y15 : Nat) (y16 : Nat) (y17 : Nat) (y18 : Nat) (gw : Nat) (gh : Nat) (th : Int32) (to : Int32) (wr : Bool) (k : Nat) (mk : Nat) (ed : Nat → Int32) (rc : Nat → Int32) (fr : Nat) (z : Bool) (wo : Int32) (hfr : fr < 64) (hg1 : 1 ≤ gw) (hh1 : 1 ≤ gh) (hg8 : gw ≤ 8) (hh8 : gh ≤ 8) : wrM l yX6_spread wsX6_spread ({ frames := 2, cells := 0, slots := 0, locals := 41 }) E sz [.ref q, .int (nI fr), .int (b2i z), .int wo] [(q, .inr (7, [.int th, .int (nI gw), .int (nI gh), .ref y1, .ref y2, .ref y3, .int to, .int (b2i wr), .ref y4, .ref y5, .int (nI k), .ref y6, .ref y7, .ref y8, .ref y9, .int (nI mk), .ref y10, .ref y11, .ref y12, .ref y13, .ref y14, .ref y15, .ref y16, .ref y17, .ref y18])), (y1, .inl (E.2 0, 128, .inl ed)), (y18, .inl (E.2 1, 64, .inl rc))] none (fun cs' => ∃ rc' : Nat → Int32, spI gw gh (usE ed z wo) fr rc' ∧ spC gw gh (usE ed z wo) rc' ∧ cs' = [(q, .inr (7, [.int th, .int (nI gw), .int (nI gh), .ref y1, .ref y2, .ref y3, .int to, .int (b2i wr), .ref y4, .ref y5, .int (nI k), .ref y6, .ref y7, .ref y8, .ref y9, .int (nI mk), .ref y10, .ref y11, .ref y12, .ref y13, .ref y14, .ref y15, .ref y16, .ref y17, .ref y18])), (y1, .inl (E.2 0, 128, .inl ed)), (y18, .inl (E.2 1, 64, .inl rc'))]) 0 0 := by
  refine Met.ofW (cc := cX6_spread) (maxL := 6) (ret := none) (by decide) rfl ?_
  intro p e s m args below meth c s₁ B hml hv
  obtain ⟨rfl, hsz, hE, hP, hD0⟩ := hv
  have hx := B.exec
  have hb := B.bytes
  have hr := B.returns
  have hts := atoms_spec (ws := wsX6_spread) B.pre
  have hown : s.vm.findClass RX6 = some m.cls := findClass_of_methodNamed B.named
  have hlocks := B.notSynchronized
  subst hsz
  have hD := hD0.self (sz := s.heap.size)
  generalize hAe : va_A [(q, .inr (7, [.int th, .int (nI gw), .int (nI gh), .ref y1, .ref y2, .ref y3, .int to, .int (b2i wr), .ref y4, .ref y5, .int (nI k), .ref y6, .ref y7, .ref y8, .ref y9, .int (nI mk), .ref y10, .ref y11, .ref y12, .ref y13, .ref y14, .ref y15, .ref y16, .ref y17, .ref y18])), (y1, .inl (E.2 0, 128, .inl ed)), (y18, .inl (E.2 1, 64, .inl rc))] s.heap.size = A at hD ⊢
  have hA : ∀ q : Nat, s.heap.size ≤ q → A q := fun q h => by rw [← hAe]; exact Or.inr h
  have hS : va_S A s.heap s.heap [] := va_S.rf
  have hP : va_P E.1 vwCl [(q, .inr (7, [.int th, .int (nI gw), .int (nI gh), .ref y1, .ref y2, .ref y3, .int to, .int (b2i wr), .ref y4, .ref y5, .int (nI k), .ref y6, .ref y7, .ref y8, .ref y9, .int (nI mk), .ref y10, .ref y11, .ref y12, .ref y13, .ref y14, .ref y15, .ref y16, .ref y17, .ref y18])), (y1, .inl (E.2 0, 128, .inl ed)), (y18, .inl (E.2 1, 64, .inl rc))] s.heap := hP
  have hl := lv_entry ([.ref q, .int (nI fr), .int (b2i z), .int wo]) (n := 6) (Nat.le_of_ble_eq_true rfl)
  rw [lg_entry_eq]
  generalize (lg_sl ([.ref q, .int (nI fr), .int (b2i z), .int wo]) ++ List.replicate (6 - (lg_sl ([.ref q, .int (nI fr), .int (b2i z), .int wo])).length) Slot.unset).toArray = ls at hl ⊢
  have hl : lv_has ls 6 [(0, .ref q), (1, .int (nI fr)), (2, .int (b2i z)), (3, .int wo)] := hl
  have hf_66 := hts (.fieldLink RX6 66 "LoopRegionsModel" "reached" "[Z") (by decide +kernel)
  have hf_7 := hts (.fieldLink RX6 7 "LoopRegionsModel" "edges" "[I") (by decide +kernel)
  have hi_RX6 : ∀ w ∈ wsX60, w ∈ wsX6_spread := by decide +kernel
  have hN : gw * gh ≤ 64 := Nat.mul_le_mul hg8 hh8
  have hN1 : 1 ≤ gw * gh := Nat.mul_le_mul hg1 hh1
  refine lv_aload_n hx hb dX6_spread_0 rfl (lv_at hl 0 rfl) ?_
  refine wrV (As := []) (rest := []) (wr := [(y1, .inl (E.2 0, 128, .inl ed))]) ⟨hx, hb, hml, hown, hts⟩ hE (cX6_clear_ct l E s.heap.size q y1 y2 y3 y4 y5 y6 y7 y8 y9 y10 y11 y12 y13 y14 y15 y16 y17 y18 gw gh th to wr k mk rc) (cwV 0 hts gX6_spread_X6_clear rfl rfl rfl (by decide +kernel) ⟨Nat.le_of_ble_eq_true rfl, Nat.le_of_ble_eq_true rfl⟩) hP hD hS hA [0, 2] [1] rfl rfl (by decide) (by decide) (hP.sub (ws' := [(q, .inr (7, [.int th, .int (nI gw), .int (nI gh), .ref y1, .ref y2, .ref y3, .int to, .int (b2i wr), .ref y4, .ref y5, .int (nI k), .ref y6, .ref y7, .ref y8, .ref y9, .int (nI mk), .ref y10, .ref y11, .ref y12, .ref y13, .ref y14, .ref y15, .ref y16, .ref y17, .ref y18])), (y18, .inl (E.2 1, 64, .inl rc))]) [0, 2] rfl) (hD.sub (ws' := [(q, .inr (7, [.int th, .int (nI gw), .int (nI gh), .ref y1, .ref y2, .ref y3, .int to, .int (b2i wr), .ref y4, .ref y5, .int (nI k), .ref y6, .ref y7, .ref y8, .ref y9, .int (nI mk), .ref y10, .ref y11, .ref y12, .ref y13, .ref y14, .ref y15, .ref y16, .ref y17, .ref y18])), (y18, .inl (E.2 1, 64, .inl rc))]) [0, 2] (by decide) rfl) (va_recv hE.1 hP (ci := 7) (q0 := 0) rfl rfl) rfl hl.1 rfl (Nat.le_of_ble_eq_true rfl) dX6_spread_1 ⟨Nat.zero_le _, Nat.zero_le _⟩ (fun cs_ H locs h_1 hP hD hS => ?_)
  obtain ⟨r_2, hz_r_2, rfl⟩ := h_1
  have hP : va_P E.1 vwCl [(q, .inr (7, [.int th, .int (nI gw), .int (nI gh), .ref y1, .ref y2, .ref y3, .int to, .int (b2i wr), .ref y4, .ref y5, .int (nI k), .ref y6, .ref y7, .ref y8, .ref y9, .int (nI mk), .ref y10, .ref y11, .ref y12, .ref y13, .ref y14, .ref y15, .ref y16, .ref y17, .ref y18])), (y1, .inl (E.2 0, 128, .inl ed)), (y18, .inl (E.2 1, 64, .inl r_2))] H := hP.sub [1, 0, 2] rfl
  have hD : va_D A [(q, .inr (7, [.int th, .int (nI gw), .int (nI gh), .ref y1, .ref y2, .ref y3, .int to, .int (b2i wr), .ref y4, .ref y5, .int (nI k), .ref y6, .ref y7, .ref y8, .ref y9, .int (nI mk), .ref y10, .ref y11, .ref y12, .ref y13, .ref y14, .ref y15, .ref y16, .ref y17, .ref y18])), (y1, .inl (E.2 0, 128, .inl ed)), (y18, .inl (E.2 1, 64, .inl r_2))] := hD.sub [1, 0, 2] (by decide) rfl
  refine lv_aload_n hx hb dX6_spread_4 rfl (lv_at hl 0 rfl) ?_
  refine va_get (D := E.1) (ci := 7) (v := .ref y18) (C := RX6) (T := TX6) (N := 25) hx hb hts hi_RX6 hown hE.1 hP 0 rfl rfl 24 (by decide) hf_66 (fun _ h9 => h9) rfl dX6_spread_5 ?_
  refine lv_iload_n hx hb dX6_spread_8 rfl (lv_at hl 1 rfl) ?_
  refine lv_iconst (v := 1) hx hb dX6_spread_9 (by decide) ?_
  refine va_zast hx hb hE.1 hP hD hS 2 1 rfl rfl (show vp_in (nI fr) 64 from vp_in_nI (by omega) (by decide)) dX6_spread_10 (fun H locs hP hD hS => ?_)
  rw [show (nI fr : Int32).toNatClampNeg = fr from nI_clamp (by omega)] at hP hD
  rw [show vp_nar .boolean 1 = 1 from rfl] at hP hD
  have hP : va_P E.1 vwCl [(q, .inr (7, [.int th, .int (nI gw), .int (nI gh), .ref y1, .ref y2, .ref y3, .int to, .int (b2i wr), .ref y4, .ref y5, .int (nI k), .ref y6, .ref y7, .ref y8, .ref y9, .int (nI mk), .ref y10, .ref y11, .ref y12, .ref y13, .ref y14, .ref y15, .ref y16, .ref y17, .ref y18])), (y1, .inl (E.2 0, 128, .inl ed)), (y18, .inl (E.2 1, 64, .inl (upd r_2 fr 1)))] H := hP
  have hD : va_D A [(q, .inr (7, [.int th, .int (nI gw), .int (nI gh), .ref y1, .ref y2, .ref y3, .int to, .int (b2i wr), .ref y4, .ref y5, .int (nI k), .ref y6, .ref y7, .ref y8, .ref y9, .int (nI mk), .ref y10, .ref y11, .ref y12, .ref y13, .ref y14, .ref y15, .ref y16, .ref y17, .ref y18])), (y1, .inl (E.2 0, 128, .inl ed)), (y18, .inl (E.2 1, 64, .inl (upd r_2 fr 1)))] := hD
  refine lv_iconst (v := 1) hx hb dX6_spread_11 (by decide) ?_
  refine lv_istore (lv' := [(4, .int 1), (0, .ref q), (1, .int (nI fr)), (2, .int (b2i z)), (3, .int wo)]) hx hb dX6_spread_12 hl (by decide) rfl (fun ls hl => ?_)
  refine W_loopW (σ := Bool × (Nat → Int32)) (J := 14) (nL := 6) (fun n9 x H locs => spI gw gh (usE ed z wo) fr x.2 ∧ (x.1 = false → spC gw gh (usE ed z wo) x.2) ∧ zc x.2 64 + (if x.1 then 1 else 0) < n9 ∧ va_P E.1 vwCl [(q, .inr (7, [.int th, .int (nI gw), .int (nI gh), .ref y1, .ref y2, .ref y3, .int to, .int (b2i wr), .ref y4, .ref y5, .int (nI k), .ref y6, .ref y7, .ref y8, .ref y9, .int (nI mk), .ref y10, .ref y11, .ref y12, .ref y13, .ref y14, .ref y15, .ref y16, .ref y17, .ref y18])), (y1, .inl (E.2 0, 128, .inl ed)), (y18, .inl (E.2 1, 64, .inl x.2))] H ∧ va_D A [(q, .inr (7, [.int th, .int (nI gw), .int (nI gh), .ref y1, .ref y2, .ref y3, .int to, .int (b2i wr), .ref y4, .ref y5, .int (nI k), .ref y6, .ref y7, .ref y8, .ref y9, .int (nI mk), .ref y10, .ref y11, .ref y12, .ref y13, .ref y14, .ref y15, .ref y16, .ref y17, .ref y18])), (y1, .inl (E.2 0, 128, .inl ed)), (y18, .inl (E.2 1, 64, .inl x.2))] ∧ va_S A s.heap H locs) (fun x => [(4, .int (b2i x.1)), (0, .ref q), (1, .int (nI fr)), (2, .int (b2i z)), (3, .int wo)]) (fun x H locs h => absurd h.2.2.1 (by omega)) (fun n_o ih_14 x H locs ls hI_o hl => ?_) 66 (true, upd r_2 fr 1) ⟨spI_0 hz_r_2 hfr, fun q => Bool.noConfusion q, by have h9 := zc_le (upd r_2 fr 1) 64; dsimp only; simp; omega, hP, hD, hS⟩ (lv_sub hl [0, 1, 2, 3, 4] rfl)
  obtain ⟨mo0, r1⟩ := x
  obtain ⟨hi1, hc1, hz1, hP, hD, hS⟩ := hI_o
  dsimp only at hi1 hc1 hz1
  obtain ⟨f, rfl⟩ : ∃ f, n_o = f + 0 := ⟨n_o, rfl⟩
  have hl : lv_has ls 6 [(4, .int (b2i mo0)), (0, .ref q), (1, .int (nI fr)), (2, .int (b2i z)), (3, .int wo)] := hl
  have hP : va_P E.1 vwCl [(q, .inr (7, [.int th, .int (nI gw), .int (nI gh), .ref y1, .ref y2, .ref y3, .int to, .int (b2i wr), .ref y4, .ref y5, .int (nI k), .ref y6, .ref y7, .ref y8, .ref y9, .int (nI mk), .ref y10, .ref y11, .ref y12, .ref y13, .ref y14, .ref y15, .ref y16, .ref y17, .ref y18])), (y1, .inl (E.2 0, 128, .inl ed)), (y18, .inl (E.2 1, 64, .inl r1))] H := hP
  have hD : va_D A [(q, .inr (7, [.int th, .int (nI gw), .int (nI gh), .ref y1, .ref y2, .ref y3, .int to, .int (b2i wr), .ref y4, .ref y5, .int (nI k), .ref y6, .ref y7, .ref y8, .ref y9, .int (nI mk), .ref y10, .ref y11, .ref y12, .ref y13, .ref y14, .ref y15, .ref y16, .ref y17, .ref y18])), (y1, .inl (E.2 0, 128, .inl ed)), (y18, .inl (E.2 1, 64, .inl r1))] := hD
  refine lv_iload hx hb dX6_spread_14 (lv_at hl 0 rfl) ?_
  refine lv_if_eq (tgt := 140) hx hb dX6_spread_16 (by decide) (fun c_16 => ?_) (fun c_16 => ?_)
  · skip
    have hmf : mo0 = false := by rw [b2i_eq0] at c_16; exact c_16
    exact W.vret hx hb hr (fun t9 ht9 hW => ⟨⟨rfl, [(q, .inr (7, [.int th, .int (nI gw), .int (nI gh), .ref y1, .ref y2, .ref y3, .int to, .int (b2i wr), .ref y4, .ref y5, .int (nI k), .ref y6, .ref y7, .ref y8, .ref y9, .int (nI mk), .ref y10, .ref y11, .ref y12, .ref y13, .ref y14, .ref y15, .ref y16, .ref y17, .ref y18])), (y1, .inl (E.2 0, 128, .inl ed)), (y18, .inl (E.2 1, 64, .inl r1))], ⟨_, hi1, hc1 hmf, rfl⟩, by rw [ht9]; exact hP, hD⟩, hS.F ht9⟩) hS.2.2 dX6_spread_140
  · skip
    have hmt : mo0 = true := by rw [b2i_eq0] at c_16; simpa using c_16
    refine lv_iconst (v := 0) hx hb dX6_spread_19 (by decide) ?_
    refine lv_istore (lv' := [(4, .int 0), (0, .ref q), (1, .int (nI fr)), (2, .int (b2i z)), (3, .int wo)]) hx hb dX6_spread_20 hl (by decide) rfl (fun ls hl => ?_)
    refine lv_iconst (v := 0) hx hb dX6_spread_22 (by decide) ?_
    refine lv_istore (lv' := [(5, .int 0), (4, .int 0), (0, .ref q), (1, .int (nI fr)), (2, .int (b2i z)), (3, .int wo)]) hx hb dX6_spread_23 hl (by decide) rfl (fun ls hl => ?_)
    refine W_loopW (σ := Nat × Bool × (Nat → Int32)) (J := 25) (nL := 6) (fun n9 x H locs => x.1 + n9 = 2 * (gw * gh) + 1 ∧ x.1 ≤ 2 * (gw * gh) ∧ spI gw gh (usE ed z wo) fr x.2.2 ∧ (x.2.1 = true → zc x.2.2 64 < zc r1 64) ∧ (x.2.1 = false → x.2.2 = r1 ∧ spP gw gh (usE ed z wo) x.1 x.2.2) ∧ va_P E.1 vwCl [(q, .inr (7, [.int th, .int (nI gw), .int (nI gh), .ref y1, .ref y2, .ref y3, .int to, .int (b2i wr), .ref y4, .ref y5, .int (nI k), .ref y6, .ref y7, .ref y8, .ref y9, .int (nI mk), .ref y10, .ref y11, .ref y12, .ref y13, .ref y14, .ref y15, .ref y16, .ref y17, .ref y18])), (y1, .inl (E.2 0, 128, .inl ed)), (y18, .inl (E.2 1, 64, .inl x.2.2))] H ∧ va_D A [(q, .inr (7, [.int th, .int (nI gw), .int (nI gh), .ref y1, .ref y2, .ref y3, .int to, .int (b2i wr), .ref y4, .ref y5, .int (nI k), .ref y6, .ref y7, .ref y8, .ref y9, .int (nI mk), .ref y10, .ref y11, .ref y12, .ref y13, .ref y14, .ref y15, .ref y16, .ref y17, .ref y18])), (y1, .inl (E.2 0, 128, .inl ed)), (y18, .inl (E.2 1, 64, .inl x.2.2))] ∧ va_S A s.heap H locs) (fun x => [(5, .int (nI x.1)), (4, .int (b2i x.2.1)), (0, .ref q), (1, .int (nI fr)), (2, .int (b2i z)), (3, .int wo)]) (fun x H locs h => absurd h.1 (by have := h.2.1; omega)) (fun n_i ih_25 x H locs ls hI_i hl => ?_) (2 * (gw * gh) + 1) (0, false, r1) ⟨by dsimp only; omega, Nat.zero_le _, hi1, fun q => Bool.noConfusion q, fun _ => ⟨rfl, spP_0⟩, hP, hD, hS⟩ (lv_sub hl [0, 1, 2, 3, 4, 5] rfl)
    obtain ⟨je, mo1, r2⟩ := x
    obtain ⟨hn1, hjl, hi2, ht2, hf2, hP, hD, hS⟩ := hI_i
    dsimp only at hn1 hjl hi2 ht2 hf2
    have hl : lv_has ls 6 [(5, .int (nI je)), (4, .int (b2i mo1)), (0, .ref q), (1, .int (nI fr)), (2, .int (b2i z)), (3, .int wo)] := hl
    have hP : va_P E.1 vwCl [(q, .inr (7, [.int th, .int (nI gw), .int (nI gh), .ref y1, .ref y2, .ref y3, .int to, .int (b2i wr), .ref y4, .ref y5, .int (nI k), .ref y6, .ref y7, .ref y8, .ref y9, .int (nI mk), .ref y10, .ref y11, .ref y12, .ref y13, .ref y14, .ref y15, .ref y16, .ref y17, .ref y18])), (y1, .inl (E.2 0, 128, .inl ed)), (y18, .inl (E.2 1, 64, .inl r2))] H := hP
    have hD : va_D A [(q, .inr (7, [.int th, .int (nI gw), .int (nI gh), .ref y1, .ref y2, .ref y3, .int to, .int (b2i wr), .ref y4, .ref y5, .int (nI k), .ref y6, .ref y7, .ref y8, .ref y9, .int (nI mk), .ref y10, .ref y11, .ref y12, .ref y13, .ref y14, .ref y15, .ref y16, .ref y17, .ref y18])), (y1, .inl (E.2 0, 128, .inl ed)), (y18, .inl (E.2 1, 64, .inl r2))] := hD
    refine lv_iload hx hb dX6_spread_25 (lv_at hl 0 rfl) ?_
    refine lv_iconst (v := 2) hx hb dX6_spread_27 (by decide) ?_
    refine lv_aload_n hx hb dX6_spread_28 rfl (lv_at hl 2 rfl) ?_
    refine crVi (As := []) (rest := [.int 2, .int (nI je)]) ⟨hx, hb, hml, hown, hts⟩ hE (cX6_all_ct l E q y1 y2 y3 y4 y5 y6 y7 y8 y9 y10 y11 y12 y13 y14 y15 y16 y17 y18 gw gh th to wr k mk) (cwV 0 hts gX6_spread_X6_all rfl rfl rfl (by decide +kernel) ⟨Nat.le_of_ble_eq_true rfl, Nat.le_of_ble_eq_true rfl⟩) (hP.sub (ws' := [(q, .inr (7, [.int th, .int (nI gw), .int (nI gh), .ref y1, .ref y2, .ref y3, .int to, .int (b2i wr), .ref y4, .ref y5, .int (nI k), .ref y6, .ref y7, .ref y8, .ref y9, .int (nI mk), .ref y10, .ref y11, .ref y12, .ref y13, .ref y14, .ref y15, .ref y16, .ref y17, .ref y18]))]) [0] rfl) (va_recv hE.1 hP (ci := 7) (q0 := 0) rfl rfl) rfl hl.1 rfl (Nat.le_of_ble_eq_true rfl) dX6_spread_29 ⟨Nat.zero_le _, Nat.zero_le _⟩ ?_
    refine lv_imul hx hb dX6_spread_32 ?_
    refine lv_eqi (show (2 * (nI (gw * gh)) : Int32) = nI (2 * (gw * gh)) from pk_mul 2 (gw * gh)) ?_
    refine lv_icmp_ge (tgt := 137) hx hb dX6_spread_33 (by decide) (fun c_33 => ?_) (fun c_33 => ?_)
    · skip
      have m_33 : (2 * (gw * gh)) ≤ je := (nI_leI (a := (2 * (gw * gh))) (b := je) (by omega) (by omega)).mp c_33
      have k_33 : ¬ je < (2 * (gw * gh)) := Nat.not_lt.mpr m_33
      have hje : je = 2 * (gw * gh) := by omega
      refine lv_goto (tgt := 14) hx hb dX6_spread_137 (by decide) ?_
      exact ih_14 (mo1, r2) H locs ls ⟨hi2, fun q => by have h9 := (hf2 q).2; rw [hje] at h9; exact h9, by cases mo1 with | false => (have h9 := (hf2 rfl).1; rw [hmt] at hz1; simp only [h9]; simp at hz1 ⊢; omega) | true => (have h9 := ht2 rfl; rw [hmt] at hz1; simp at hz1 ⊢; omega), hP, hD, hS⟩ (lv_sub hl [1, 2, 3, 4, 5] rfl)
    · skip
      have m_33 : ¬ (2 * (gw * gh)) ≤ je := fun q => c_33 ((nI_leI (a := (2 * (gw * gh))) (b := je) (by omega) (by omega)).mpr q)
      have k_33 : je < (2 * (gw * gh)) := Nat.lt_of_not_le m_33
      refine lv_aload_n hx hb dX6_spread_36 rfl (lv_at hl 2 rfl) ?_
      refine lv_iload hx hb dX6_spread_37 (lv_at hl 0 rfl) ?_
      refine crVi (As := [.int (nI je)]) (rest := []) ⟨hx, hb, hml, hown, hts⟩ hE (cX6_isEdge_ct l E q y1 y2 y3 y4 y5 y6 y7 y8 y9 y10 y11 y12 y13 y14 y15 y16 y17 y18 gw gh th to wr k mk (nI je) (by first | assumption | omega | (subst_vars; assumption)) (by first | assumption | omega | (subst_vars; assumption)) (by first | assumption | omega | (subst_vars; assumption)) (by first | assumption | omega | (subst_vars; assumption))) (cwV 1 hts gX6_spread_X6_isEdge rfl rfl rfl (by decide +kernel) ⟨Nat.le_of_ble_eq_true rfl, Nat.le_of_ble_eq_true rfl⟩) (hP.sub (ws' := [(q, .inr (7, [.int th, .int (nI gw), .int (nI gh), .ref y1, .ref y2, .ref y3, .int to, .int (b2i wr), .ref y4, .ref y5, .int (nI k), .ref y6, .ref y7, .ref y8, .ref y9, .int (nI mk), .ref y10, .ref y11, .ref y12, .ref y13, .ref y14, .ref y15, .ref y16, .ref y17, .ref y18]))]) [0] rfl) (va_recv hE.1 hP (ci := 7) (q0 := 0) rfl rfl) rfl hl.1 rfl (Nat.le_of_ble_eq_true rfl) dX6_spread_39 ⟨Nat.zero_le _, Nat.zero_le _⟩ ?_
      refine lv_eqi (congrArg b2i (rIsE_nI (j := je) (by omega))) ?_
      refine lv_if_eq (tgt := 131) hx hb dX6_spread_42 (by decide) (fun c_42 => ?_) (fun c_42 => ?_)
      · skip
        have hskip : isEn gw gh je = true → usE ed z wo je = true → r2 (je / 2) = r2 (oth gw je) := fun h _ => by rw [b2i_eq0, h] at c_42; cases c_42
        refine lv_iinc (v := nI (je + 1)) (lv' := [(5, .int (nI (je + 1))), (4, .int (b2i mo1)), (0, .ref q), (1, .int (nI fr)), (2, .int (b2i z)), (3, .int wo)]) hx hb dX6_spread_131 hl (k := 0) rfl (nI_1 _) (by decide) rfl (fun ls hl => ?_)
        refine lv_goto (tgt := 25) hx hb dX6_spread_134 (by decide) ?_
        exact ih_25 (je + 1, mo1, r2) H locs ls ⟨by dsimp only; omega, by dsimp only; omega, hi2, ht2, fun q => ⟨(hf2 q).1, spP_s (hf2 q).2 hskip⟩, hP, hD, hS⟩ (lv_sub hl [0, 1, 2, 3, 4, 5] rfl)
      · skip
        refine lv_iload hx hb dX6_spread_45 (lv_at hl 0 rfl) ?_
        refine lv_iload_n hx hb dX6_spread_47 rfl (lv_at hl 5 rfl) ?_
        refine lv_icmp_eq (tgt := 131) hx hb dX6_spread_48 (by decide) (fun c_48 => ?_) (fun c_48 => ?_)
        · skip
          have hskip : isEn gw gh je = true → usE ed z wo je = true → r2 (je / 2) = r2 (oth gw je) := fun _ h => by simp [usE, c_48] at h
          refine lv_iinc (v := nI (je + 1)) (lv' := [(5, .int (nI (je + 1))), (4, .int (b2i mo1)), (0, .ref q), (1, .int (nI fr)), (2, .int (b2i z)), (3, .int wo)]) hx hb dX6_spread_131 hl (k := 0) rfl (nI_1 _) (by decide) rfl (fun ls hl => ?_)
          refine lv_goto (tgt := 25) hx hb dX6_spread_134 (by decide) ?_
          exact ih_25 (je + 1, mo1, r2) H locs ls ⟨by dsimp only; omega, by dsimp only; omega, hi2, ht2, fun q => ⟨(hf2 q).1, spP_s (hf2 q).2 hskip⟩, hP, hD, hS⟩ (lv_sub hl [0, 1, 2, 3, 4, 5] rfl)
        · skip
          refine lv_iload_n hx hb dX6_spread_51 rfl (lv_at hl 4 rfl) ?_
          refine lv_if_eq (tgt := 69) hx hb dX6_spread_52 (by decide) (fun c_52 => ?_) (fun c_52 => ?_)
          · skip
            refine lv_aload_n hx hb dX6_spread_69 rfl (lv_at hl 2 rfl) ?_
            refine va_get (D := E.1) (ci := 7) (v := .ref y1) (C := RX6) (T := TX6) (N := 25) hx hb hts hi_RX6 hown hE.1 hP 0 rfl rfl 3 (by decide) hf_7 (fun _ h9 => h9) rfl dX6_spread_70 ?_
            refine lv_iload hx hb dX6_spread_73 (lv_at hl 0 rfl) ?_
            refine va_iald hx hb hE.1 hP 1 0 rfl rfl (show vp_in (nI je) 128 from vp_in_nI (by omega) (by decide)) dX6_spread_75 ?_
            refine lv_eqi (congrArg ed (show (nI je : Int32).toNatClampNeg = je from nI_clamp (by omega))) ?_
            refine lv_iconst (v := 2) hx hb dX6_spread_76 (by decide) ?_
            refine lv_icmp_eq (tgt := 131) hx hb dX6_spread_77 (by decide) (fun c_77 => ?_) (fun c_77 => ?_)
            · skip
              have hskip : isEn gw gh je = true → usE ed z wo je = true → r2 (je / 2) = r2 (oth gw je) := fun _ h => by rw [b2i_eq0] at c_52; simp [usE, c_52, c_77] at h
              refine lv_iinc (v := nI (je + 1)) (lv' := [(5, .int (nI (je + 1))), (4, .int (b2i mo1)), (0, .ref q), (1, .int (nI fr)), (2, .int (b2i z)), (3, .int wo)]) hx hb dX6_spread_131 hl (k := 0) rfl (nI_1 _) (by decide) rfl (fun ls hl => ?_)
              refine lv_goto (tgt := 25) hx hb dX6_spread_134 (by decide) ?_
              exact ih_25 (je + 1, mo1, r2) H locs ls ⟨by dsimp only; omega, by dsimp only; omega, hi2, ht2, fun q => ⟨(hf2 q).1, spP_s (hf2 q).2 hskip⟩, hP, hD, hS⟩ (lv_sub hl [0, 1, 2, 3, 4, 5] rfl)
            · skip
              have he : isEn gw gh je = true := by rw [b2i_eq0] at c_42; simpa using c_42
              have hot := oth_lt he hg1 hg8 hh8
              have hus : usE ed z wo je = true := by rw [b2i_eq0] at c_52; simp [usE, c_48, c_52, c_77]
              refine lv_aload_n hx hb dX6_spread_80 rfl (lv_at hl 2 rfl) ?_
              refine va_get (D := E.1) (ci := 7) (v := .ref y18) (C := RX6) (T := TX6) (N := 25) hx hb hts hi_RX6 hown hE.1 hP 0 rfl rfl 24 (by decide) hf_66 (fun _ h9 => h9) rfl dX6_spread_81 ?_
              refine lv_iload hx hb dX6_spread_84 (lv_at hl 0 rfl) ?_
              refine lv_iconst (v := 2) hx hb dX6_spread_86 (by decide) ?_
              refine lv_idiv hx hb dX6_spread_87 (by decide) ?_
              refine lv_eqi (show ((nI je) / 2 : Int32) = nI (je / 2) from pk_div (a := je) (d := 2) (by omega) (by omega) (by omega)) ?_
              refine va_zald hx hb hE.1 hP 2 1 rfl rfl (show vp_in (nI (je / 2)) 64 from vp_in_nI (by omega) (by decide)) dX6_spread_88 ?_
              refine lv_eqi (congrArg r2 (show (nI (je / 2) : Int32).toNatClampNeg = (je / 2) from nI_clamp (by omega))) ?_
              refine lv_aload_n hx hb dX6_spread_89 rfl (lv_at hl 2 rfl) ?_
              refine va_get (D := E.1) (ci := 7) (v := .ref y18) (C := RX6) (T := TX6) (N := 25) hx hb hts hi_RX6 hown hE.1 hP 0 rfl rfl 24 (by decide) hf_66 (fun _ h9 => h9) rfl dX6_spread_90 ?_
              refine lv_aload_n hx hb dX6_spread_93 rfl (lv_at hl 2 rfl) ?_
              refine lv_iload hx hb dX6_spread_94 (lv_at hl 0 rfl) ?_
              refine crVi (As := [.int (nI je)]) (rest := [.ref y18, .int (r2 (je / 2))]) ⟨hx, hb, hml, hown, hts⟩ hE (cX6_other_ct l E q y1 y2 y3 y4 y5 y6 y7 y8 y9 y10 y11 y12 y13 y14 y15 y16 y17 y18 gw gh th to wr k mk je (by first | assumption | omega | (subst_vars; assumption)) (by first | assumption | omega | (subst_vars; assumption)) (by first | assumption | omega | (subst_vars; assumption)) (by first | assumption | omega | (subst_vars; assumption)) (by first | assumption | omega | (subst_vars; assumption))) (cwV 1 hts gX6_spread_X6_other rfl rfl rfl (by decide +kernel) ⟨Nat.le_of_ble_eq_true rfl, Nat.le_of_ble_eq_true rfl⟩) (hP.sub (ws' := [(q, .inr (7, [.int th, .int (nI gw), .int (nI gh), .ref y1, .ref y2, .ref y3, .int to, .int (b2i wr), .ref y4, .ref y5, .int (nI k), .ref y6, .ref y7, .ref y8, .ref y9, .int (nI mk), .ref y10, .ref y11, .ref y12, .ref y13, .ref y14, .ref y15, .ref y16, .ref y17, .ref y18]))]) [0] rfl) (va_recv hE.1 hP (ci := 7) (q0 := 0) rfl rfl) rfl hl.1 rfl (Nat.le_of_ble_eq_true rfl) dX6_spread_96 ⟨Nat.zero_le _, Nat.zero_le _⟩ ?_
              refine va_zald hx hb hE.1 hP 2 1 rfl rfl (show vp_in (nI (oth gw je)) 64 from vp_in_nI (by omega) (by decide)) dX6_spread_99 ?_
              refine lv_eqi (congrArg r2 (show (nI (oth gw je) : Int32).toNatClampNeg = (oth gw je) from nI_clamp (by omega))) ?_
              refine lv_icmp_ne (tgt := 106) hx hb dX6_spread_100 (by decide) (fun c_100 => ?_) (fun c_100 => ?_)
              · skip
                refine lv_aload_n hx hb dX6_spread_106 rfl (lv_at hl 2 rfl) ?_
                refine va_get (D := E.1) (ci := 7) (v := .ref y18) (C := RX6) (T := TX6) (N := 25) hx hb hts hi_RX6 hown hE.1 hP 0 rfl rfl 24 (by decide) hf_66 (fun _ h9 => h9) rfl dX6_spread_107 ?_
                refine lv_iload hx hb dX6_spread_110 (lv_at hl 0 rfl) ?_
                refine lv_iconst (v := 2) hx hb dX6_spread_112 (by decide) ?_
                refine lv_idiv hx hb dX6_spread_113 (by decide) ?_
                refine lv_eqi (show ((nI je) / 2 : Int32) = nI (je / 2) from pk_div (a := je) (d := 2) (by omega) (by omega) (by omega)) ?_
                refine lv_iconst (v := 1) hx hb dX6_spread_114 (by decide) ?_
                refine va_zast hx hb hE.1 hP hD hS 2 1 rfl rfl (show vp_in (nI (je / 2)) 64 from vp_in_nI (by omega) (by decide)) dX6_spread_115 (fun H locs hP hD hS => ?_)
                rw [show (nI (je / 2) : Int32).toNatClampNeg = (je / 2) from nI_clamp (by omega)] at hP hD
                rw [show vp_nar .boolean 1 = 1 from rfl] at hP hD
                have hP : va_P E.1 vwCl [(q, .inr (7, [.int th, .int (nI gw), .int (nI gh), .ref y1, .ref y2, .ref y3, .int to, .int (b2i wr), .ref y4, .ref y5, .int (nI k), .ref y6, .ref y7, .ref y8, .ref y9, .int (nI mk), .ref y10, .ref y11, .ref y12, .ref y13, .ref y14, .ref y15, .ref y16, .ref y17, .ref y18])), (y1, .inl (E.2 0, 128, .inl ed)), (y18, .inl (E.2 1, 64, .inl (upd r2 (je / 2) 1)))] H := hP
                have hD : va_D A [(q, .inr (7, [.int th, .int (nI gw), .int (nI gh), .ref y1, .ref y2, .ref y3, .int to, .int (b2i wr), .ref y4, .ref y5, .int (nI k), .ref y6, .ref y7, .ref y8, .ref y9, .int (nI mk), .ref y10, .ref y11, .ref y12, .ref y13, .ref y14, .ref y15, .ref y16, .ref y17, .ref y18])), (y1, .inl (E.2 0, 128, .inl ed)), (y18, .inl (E.2 1, 64, .inl (upd r2 (je / 2) 1)))] := hD
                refine lv_aload_n hx hb dX6_spread_116 rfl (lv_at hl 2 rfl) ?_
                refine va_get (D := E.1) (ci := 7) (v := .ref y18) (C := RX6) (T := TX6) (N := 25) hx hb hts hi_RX6 hown hE.1 hP 0 rfl rfl 24 (by decide) hf_66 (fun _ h9 => h9) rfl dX6_spread_117 ?_
                refine lv_aload_n hx hb dX6_spread_120 rfl (lv_at hl 2 rfl) ?_
                refine lv_iload hx hb dX6_spread_121 (lv_at hl 0 rfl) ?_
                refine crVi (As := [.int (nI je)]) (rest := [.ref y18]) ⟨hx, hb, hml, hown, hts⟩ hE (cX6_other_ct l E q y1 y2 y3 y4 y5 y6 y7 y8 y9 y10 y11 y12 y13 y14 y15 y16 y17 y18 gw gh th to wr k mk je (by first | assumption | omega | (subst_vars; assumption)) (by first | assumption | omega | (subst_vars; assumption)) (by first | assumption | omega | (subst_vars; assumption)) (by first | assumption | omega | (subst_vars; assumption)) (by first | assumption | omega | (subst_vars; assumption))) (cwV 1 hts gX6_spread_X6_other rfl rfl rfl (by decide +kernel) ⟨Nat.le_of_ble_eq_true rfl, Nat.le_of_ble_eq_true rfl⟩) (hP.sub (ws' := [(q, .inr (7, [.int th, .int (nI gw), .int (nI gh), .ref y1, .ref y2, .ref y3, .int to, .int (b2i wr), .ref y4, .ref y5, .int (nI k), .ref y6, .ref y7, .ref y8, .ref y9, .int (nI mk), .ref y10, .ref y11, .ref y12, .ref y13, .ref y14, .ref y15, .ref y16, .ref y17, .ref y18]))]) [0] rfl) (va_recv hE.1 hP (ci := 7) (q0 := 0) rfl rfl) rfl hl.1 rfl (Nat.le_of_ble_eq_true rfl) dX6_spread_123 ⟨Nat.zero_le _, Nat.zero_le _⟩ ?_
                refine lv_iconst (v := 1) hx hb dX6_spread_126 (by decide) ?_
                refine va_zast hx hb hE.1 hP hD hS 2 1 rfl rfl (show vp_in (nI (oth gw je)) 64 from vp_in_nI (by omega) (by decide)) dX6_spread_127 (fun H locs hP hD hS => ?_)
                rw [show (nI (oth gw je) : Int32).toNatClampNeg = (oth gw je) from nI_clamp (by omega)] at hP hD
                rw [show vp_nar .boolean 1 = 1 from rfl] at hP hD
                have hP : va_P E.1 vwCl [(q, .inr (7, [.int th, .int (nI gw), .int (nI gh), .ref y1, .ref y2, .ref y3, .int to, .int (b2i wr), .ref y4, .ref y5, .int (nI k), .ref y6, .ref y7, .ref y8, .ref y9, .int (nI mk), .ref y10, .ref y11, .ref y12, .ref y13, .ref y14, .ref y15, .ref y16, .ref y17, .ref y18])), (y1, .inl (E.2 0, 128, .inl ed)), (y18, .inl (E.2 1, 64, .inl (upd (upd r2 (je / 2) 1) (oth gw je) 1)))] H := hP
                have hD : va_D A [(q, .inr (7, [.int th, .int (nI gw), .int (nI gh), .ref y1, .ref y2, .ref y3, .int to, .int (b2i wr), .ref y4, .ref y5, .int (nI k), .ref y6, .ref y7, .ref y8, .ref y9, .int (nI mk), .ref y10, .ref y11, .ref y12, .ref y13, .ref y14, .ref y15, .ref y16, .ref y17, .ref y18])), (y1, .inl (E.2 0, 128, .inl ed)), (y18, .inl (E.2 1, 64, .inl (upd (upd r2 (je / 2) 1) (oth gw je) 1)))] := hD
                refine lv_iconst (v := 1) hx hb dX6_spread_128 (by decide) ?_
                refine lv_istore (lv' := [(4, .int 1), (5, .int (nI je)), (0, .ref q), (1, .int (nI fr)), (2, .int (b2i z)), (3, .int wo)]) hx hb dX6_spread_129 hl (by decide) rfl (fun ls hl => ?_)
                refine lv_iinc (v := nI (je + 1)) (lv' := [(5, .int (nI (je + 1))), (4, .int 1), (0, .ref q), (1, .int (nI fr)), (2, .int (b2i z)), (3, .int wo)]) hx hb dX6_spread_131 hl (k := 1) rfl (nI_1 _) (by decide) rfl (fun ls hl => ?_)
                refine lv_goto (tgt := 25) hx hb dX6_spread_134 (by decide) ?_
                exact ih_25 (je + 1, true, upd (upd r2 (je / 2) 1) (oth gw je) 1) H locs ls ⟨by dsimp only; omega, by dsimp only; omega, spI_step hi2 he hus hot (by omega) c_100, fun _ => Nat.lt_of_lt_of_le (zc_step hi2 hot (by omega) c_100) (by cases mo1 with | false => (rw [(hf2 rfl).1]; exact Nat.le_refl _) | true => exact Nat.le_of_lt (ht2 rfl)), fun q => Bool.noConfusion q, hP, hD, hS⟩ (lv_sub hl [0, 1, 2, 3, 4, 5] rfl)
              · skip
                refine lv_goto (tgt := 131) hx hb dX6_spread_103 (by decide) ?_
                have hskip : isEn gw gh je = true → usE ed z wo je = true → r2 (je / 2) = r2 (oth gw je) := fun _ _ => c_100
                refine lv_iinc (v := nI (je + 1)) (lv' := [(5, .int (nI (je + 1))), (4, .int (b2i mo1)), (0, .ref q), (1, .int (nI fr)), (2, .int (b2i z)), (3, .int wo)]) hx hb dX6_spread_131 hl (k := 0) rfl (nI_1 _) (by decide) rfl (fun ls hl => ?_)
                refine lv_goto (tgt := 25) hx hb dX6_spread_134 (by decide) ?_
                exact ih_25 (je + 1, mo1, r2) H locs ls ⟨by dsimp only; omega, by dsimp only; omega, hi2, ht2, fun q => ⟨(hf2 q).1, spP_s (hf2 q).2 hskip⟩, hP, hD, hS⟩ (lv_sub hl [0, 1, 2, 3, 4, 5] rfl)
          · skip
            refine lv_aload_n hx hb dX6_spread_55 rfl (lv_at hl 2 rfl) ?_
            refine va_get (D := E.1) (ci := 7) (v := .ref y1) (C := RX6) (T := TX6) (N := 25) hx hb hts hi_RX6 hown hE.1 hP 0 rfl rfl 3 (by decide) hf_7 (fun _ h9 => h9) rfl dX6_spread_56 ?_
            refine lv_iload hx hb dX6_spread_59 (lv_at hl 0 rfl) ?_
            refine va_iald hx hb hE.1 hP 1 0 rfl rfl (show vp_in (nI je) 128 from vp_in_nI (by omega) (by decide)) dX6_spread_61 ?_
            refine lv_eqi (congrArg ed (show (nI je : Int32).toNatClampNeg = je from nI_clamp (by omega))) ?_
            refine lv_iconst (v := 1) hx hb dX6_spread_62 (by decide) ?_
            refine lv_icmp_eq (tgt := 80) hx hb dX6_spread_63 (by decide) (fun c_63 => ?_) (fun c_63 => ?_)
            · skip
              have he : isEn gw gh je = true := by rw [b2i_eq0] at c_42; simpa using c_42
              have hot := oth_lt he hg1 hg8 hh8
              have hus : usE ed z wo je = true := by rw [b2i_eq0] at c_52; simp [usE, c_48, c_52, c_63]
              refine lv_aload_n hx hb dX6_spread_80 rfl (lv_at hl 2 rfl) ?_
              refine va_get (D := E.1) (ci := 7) (v := .ref y18) (C := RX6) (T := TX6) (N := 25) hx hb hts hi_RX6 hown hE.1 hP 0 rfl rfl 24 (by decide) hf_66 (fun _ h9 => h9) rfl dX6_spread_81 ?_
              refine lv_iload hx hb dX6_spread_84 (lv_at hl 0 rfl) ?_
              refine lv_iconst (v := 2) hx hb dX6_spread_86 (by decide) ?_
              refine lv_idiv hx hb dX6_spread_87 (by decide) ?_
              refine lv_eqi (show ((nI je) / 2 : Int32) = nI (je / 2) from pk_div (a := je) (d := 2) (by omega) (by omega) (by omega)) ?_
              refine va_zald hx hb hE.1 hP 2 1 rfl rfl (show vp_in (nI (je / 2)) 64 from vp_in_nI (by omega) (by decide)) dX6_spread_88 ?_
              refine lv_eqi (congrArg r2 (show (nI (je / 2) : Int32).toNatClampNeg = (je / 2) from nI_clamp (by omega))) ?_
              refine lv_aload_n hx hb dX6_spread_89 rfl (lv_at hl 2 rfl) ?_
              refine va_get (D := E.1) (ci := 7) (v := .ref y18) (C := RX6) (T := TX6) (N := 25) hx hb hts hi_RX6 hown hE.1 hP 0 rfl rfl 24 (by decide) hf_66 (fun _ h9 => h9) rfl dX6_spread_90 ?_
              refine lv_aload_n hx hb dX6_spread_93 rfl (lv_at hl 2 rfl) ?_
              refine lv_iload hx hb dX6_spread_94 (lv_at hl 0 rfl) ?_
              refine crVi (As := [.int (nI je)]) (rest := [.ref y18, .int (r2 (je / 2))]) ⟨hx, hb, hml, hown, hts⟩ hE (cX6_other_ct l E q y1 y2 y3 y4 y5 y6 y7 y8 y9 y10 y11 y12 y13 y14 y15 y16 y17 y18 gw gh th to wr k mk je (by first | assumption | omega | (subst_vars; assumption)) (by first | assumption | omega | (subst_vars; assumption)) (by first | assumption | omega | (subst_vars; assumption)) (by first | assumption | omega | (subst_vars; assumption)) (by first | assumption | omega | (subst_vars; assumption))) (cwV 1 hts gX6_spread_X6_other rfl rfl rfl (by decide +kernel) ⟨Nat.le_of_ble_eq_true rfl, Nat.le_of_ble_eq_true rfl⟩) (hP.sub (ws' := [(q, .inr (7, [.int th, .int (nI gw), .int (nI gh), .ref y1, .ref y2, .ref y3, .int to, .int (b2i wr), .ref y4, .ref y5, .int (nI k), .ref y6, .ref y7, .ref y8, .ref y9, .int (nI mk), .ref y10, .ref y11, .ref y12, .ref y13, .ref y14, .ref y15, .ref y16, .ref y17, .ref y18]))]) [0] rfl) (va_recv hE.1 hP (ci := 7) (q0 := 0) rfl rfl) rfl hl.1 rfl (Nat.le_of_ble_eq_true rfl) dX6_spread_96 ⟨Nat.zero_le _, Nat.zero_le _⟩ ?_
              refine va_zald hx hb hE.1 hP 2 1 rfl rfl (show vp_in (nI (oth gw je)) 64 from vp_in_nI (by omega) (by decide)) dX6_spread_99 ?_
              refine lv_eqi (congrArg r2 (show (nI (oth gw je) : Int32).toNatClampNeg = (oth gw je) from nI_clamp (by omega))) ?_
              refine lv_icmp_ne (tgt := 106) hx hb dX6_spread_100 (by decide) (fun c_100 => ?_) (fun c_100 => ?_)
              · skip
                refine lv_aload_n hx hb dX6_spread_106 rfl (lv_at hl 2 rfl) ?_
                refine va_get (D := E.1) (ci := 7) (v := .ref y18) (C := RX6) (T := TX6) (N := 25) hx hb hts hi_RX6 hown hE.1 hP 0 rfl rfl 24 (by decide) hf_66 (fun _ h9 => h9) rfl dX6_spread_107 ?_
                refine lv_iload hx hb dX6_spread_110 (lv_at hl 0 rfl) ?_
                refine lv_iconst (v := 2) hx hb dX6_spread_112 (by decide) ?_
                refine lv_idiv hx hb dX6_spread_113 (by decide) ?_
                refine lv_eqi (show ((nI je) / 2 : Int32) = nI (je / 2) from pk_div (a := je) (d := 2) (by omega) (by omega) (by omega)) ?_
                refine lv_iconst (v := 1) hx hb dX6_spread_114 (by decide) ?_
                refine va_zast hx hb hE.1 hP hD hS 2 1 rfl rfl (show vp_in (nI (je / 2)) 64 from vp_in_nI (by omega) (by decide)) dX6_spread_115 (fun H locs hP hD hS => ?_)
                rw [show (nI (je / 2) : Int32).toNatClampNeg = (je / 2) from nI_clamp (by omega)] at hP hD
                rw [show vp_nar .boolean 1 = 1 from rfl] at hP hD
                have hP : va_P E.1 vwCl [(q, .inr (7, [.int th, .int (nI gw), .int (nI gh), .ref y1, .ref y2, .ref y3, .int to, .int (b2i wr), .ref y4, .ref y5, .int (nI k), .ref y6, .ref y7, .ref y8, .ref y9, .int (nI mk), .ref y10, .ref y11, .ref y12, .ref y13, .ref y14, .ref y15, .ref y16, .ref y17, .ref y18])), (y1, .inl (E.2 0, 128, .inl ed)), (y18, .inl (E.2 1, 64, .inl (upd r2 (je / 2) 1)))] H := hP
                have hD : va_D A [(q, .inr (7, [.int th, .int (nI gw), .int (nI gh), .ref y1, .ref y2, .ref y3, .int to, .int (b2i wr), .ref y4, .ref y5, .int (nI k), .ref y6, .ref y7, .ref y8, .ref y9, .int (nI mk), .ref y10, .ref y11, .ref y12, .ref y13, .ref y14, .ref y15, .ref y16, .ref y17, .ref y18])), (y1, .inl (E.2 0, 128, .inl ed)), (y18, .inl (E.2 1, 64, .inl (upd r2 (je / 2) 1)))] := hD
                refine lv_aload_n hx hb dX6_spread_116 rfl (lv_at hl 2 rfl) ?_
                refine va_get (D := E.1) (ci := 7) (v := .ref y18) (C := RX6) (T := TX6) (N := 25) hx hb hts hi_RX6 hown hE.1 hP 0 rfl rfl 24 (by decide) hf_66 (fun _ h9 => h9) rfl dX6_spread_117 ?_
                refine lv_aload_n hx hb dX6_spread_120 rfl (lv_at hl 2 rfl) ?_
                refine lv_iload hx hb dX6_spread_121 (lv_at hl 0 rfl) ?_
                refine crVi (As := [.int (nI je)]) (rest := [.ref y18]) ⟨hx, hb, hml, hown, hts⟩ hE (cX6_other_ct l E q y1 y2 y3 y4 y5 y6 y7 y8 y9 y10 y11 y12 y13 y14 y15 y16 y17 y18 gw gh th to wr k mk je (by first | assumption | omega | (subst_vars; assumption)) (by first | assumption | omega | (subst_vars; assumption)) (by first | assumption | omega | (subst_vars; assumption)) (by first | assumption | omega | (subst_vars; assumption)) (by first | assumption | omega | (subst_vars; assumption))) (cwV 1 hts gX6_spread_X6_other rfl rfl rfl (by decide +kernel) ⟨Nat.le_of_ble_eq_true rfl, Nat.le_of_ble_eq_true rfl⟩) (hP.sub (ws' := [(q, .inr (7, [.int th, .int (nI gw), .int (nI gh), .ref y1, .ref y2, .ref y3, .int to, .int (b2i wr), .ref y4, .ref y5, .int (nI k), .ref y6, .ref y7, .ref y8, .ref y9, .int (nI mk), .ref y10, .ref y11, .ref y12, .ref y13, .ref y14, .ref y15, .ref y16, .ref y17, .ref y18]))]) [0] rfl) (va_recv hE.1 hP (ci := 7) (q0 := 0) rfl rfl) rfl hl.1 rfl (Nat.le_of_ble_eq_true rfl) dX6_spread_123 ⟨Nat.zero_le _, Nat.zero_le _⟩ ?_
                refine lv_iconst (v := 1) hx hb dX6_spread_126 (by decide) ?_
                refine va_zast hx hb hE.1 hP hD hS 2 1 rfl rfl (show vp_in (nI (oth gw je)) 64 from vp_in_nI (by omega) (by decide)) dX6_spread_127 (fun H locs hP hD hS => ?_)
                rw [show (nI (oth gw je) : Int32).toNatClampNeg = (oth gw je) from nI_clamp (by omega)] at hP hD
                rw [show vp_nar .boolean 1 = 1 from rfl] at hP hD
                have hP : va_P E.1 vwCl [(q, .inr (7, [.int th, .int (nI gw), .int (nI gh), .ref y1, .ref y2, .ref y3, .int to, .int (b2i wr), .ref y4, .ref y5, .int (nI k), .ref y6, .ref y7, .ref y8, .ref y9, .int (nI mk), .ref y10, .ref y11, .ref y12, .ref y13, .ref y14, .ref y15, .ref y16, .ref y17, .ref y18])), (y1, .inl (E.2 0, 128, .inl ed)), (y18, .inl (E.2 1, 64, .inl (upd (upd r2 (je / 2) 1) (oth gw je) 1)))] H := hP
                have hD : va_D A [(q, .inr (7, [.int th, .int (nI gw), .int (nI gh), .ref y1, .ref y2, .ref y3, .int to, .int (b2i wr), .ref y4, .ref y5, .int (nI k), .ref y6, .ref y7, .ref y8, .ref y9, .int (nI mk), .ref y10, .ref y11, .ref y12, .ref y13, .ref y14, .ref y15, .ref y16, .ref y17, .ref y18])), (y1, .inl (E.2 0, 128, .inl ed)), (y18, .inl (E.2 1, 64, .inl (upd (upd r2 (je / 2) 1) (oth gw je) 1)))] := hD
                refine lv_iconst (v := 1) hx hb dX6_spread_128 (by decide) ?_
                refine lv_istore (lv' := [(4, .int 1), (5, .int (nI je)), (0, .ref q), (1, .int (nI fr)), (2, .int (b2i z)), (3, .int wo)]) hx hb dX6_spread_129 hl (by decide) rfl (fun ls hl => ?_)
                refine lv_iinc (v := nI (je + 1)) (lv' := [(5, .int (nI (je + 1))), (4, .int 1), (0, .ref q), (1, .int (nI fr)), (2, .int (b2i z)), (3, .int wo)]) hx hb dX6_spread_131 hl (k := 1) rfl (nI_1 _) (by decide) rfl (fun ls hl => ?_)
                refine lv_goto (tgt := 25) hx hb dX6_spread_134 (by decide) ?_
                exact ih_25 (je + 1, true, upd (upd r2 (je / 2) 1) (oth gw je) 1) H locs ls ⟨by dsimp only; omega, by dsimp only; omega, spI_step hi2 he hus hot (by omega) c_100, fun _ => Nat.lt_of_lt_of_le (zc_step hi2 hot (by omega) c_100) (by cases mo1 with | false => (rw [(hf2 rfl).1]; exact Nat.le_refl _) | true => exact Nat.le_of_lt (ht2 rfl)), fun q => Bool.noConfusion q, hP, hD, hS⟩ (lv_sub hl [0, 1, 2, 3, 4, 5] rfl)
              · skip
                refine lv_goto (tgt := 131) hx hb dX6_spread_103 (by decide) ?_
                have hskip : isEn gw gh je = true → usE ed z wo je = true → r2 (je / 2) = r2 (oth gw je) := fun _ _ => c_100
                refine lv_iinc (v := nI (je + 1)) (lv' := [(5, .int (nI (je + 1))), (4, .int (b2i mo1)), (0, .ref q), (1, .int (nI fr)), (2, .int (b2i z)), (3, .int wo)]) hx hb dX6_spread_131 hl (k := 0) rfl (nI_1 _) (by decide) rfl (fun ls hl => ?_)
                refine lv_goto (tgt := 25) hx hb dX6_spread_134 (by decide) ?_
                exact ih_25 (je + 1, mo1, r2) H locs ls ⟨by dsimp only; omega, by dsimp only; omega, hi2, ht2, fun q => ⟨(hf2 q).1, spP_s (hf2 q).2 hskip⟩, hP, hD, hS⟩ (lv_sub hl [0, 1, 2, 3, 4, 5] rfl)
            · skip
              refine lv_goto (tgt := 131) hx hb dX6_spread_66 (by decide) ?_
              have hskip : isEn gw gh je = true → usE ed z wo je = true → r2 (je / 2) = r2 (oth gw je) := fun _ h => by rw [b2i_eq0] at c_52; simp [usE, c_52, c_63] at h
              refine lv_iinc (v := nI (je + 1)) (lv' := [(5, .int (nI (je + 1))), (4, .int (b2i mo1)), (0, .ref q), (1, .int (nI fr)), (2, .int (b2i z)), (3, .int wo)]) hx hb dX6_spread_131 hl (k := 0) rfl (nI_1 _) (by decide) rfl (fun ls hl => ?_)
              refine lv_goto (tgt := 25) hx hb dX6_spread_134 (by decide) ?_
              exact ih_25 (je + 1, mo1, r2) H locs ls ⟨by dsimp only; omega, by dsimp only; omega, hi2, ht2, fun q => ⟨(hf2 q).1, spP_s (hf2 q).2 hskip⟩, hP, hD, hS⟩ (lv_sub hl [0, 1, 2, 3, 4, 5] rfl)
