/-! A RUN, AND THE START. -/
section INVR
variable {gw gh mm calls : Nat} {C : CSt} {L : CLg} {k : Nat} {R : RSt} {M : RLg} {mk : Nat} {sf : Nat → Int32} {rc : Nat → CSt} {V : RMk} {B ks : Nat → Nat}
abbrev sC (C : CSt) (L : CLg) (k t : Nat) : RS := (C.onr, C.onb, C.ofr, C.ofb, C.bl, C.wh, C.wr, L.nu, L.pl, L.en, L.ch, k, t)
abbrev sR (wr : Bool) (R : RSt) (M : RLg) (k t : Nat) : RR := (R.ed, R.sh, R.eb, R.sb, wr, M.nu, M.pl, M.bg, M.ch, k, t)
theorem IV.run (G : GG gw gh) (hm : mm ≤ 176) (hc : calls + 1 ≤ 512) (I : IV gw gh mm calls C L k R M mk sf rc V B ks) : ∃ (C' : CSt) (L' : CLg) (k' t' : Nat) (R' : RSt) (M' : RLg) (B' : Nat → Nat), runF gw gh (gCe gw gh) (gAr gw gh) (gAb gw gh) C.mu C.ba C.to (mm + 256 - k) (sC C L k (B k)) = sC C' L' k' t' ∧ runR gw gh C.to R.du (mm + 256 - k + 1) (sR C.wr R M k (B k)) = sR C'.wr R' M' k' t' ∧ C'.mu = C.mu ∧ C'.ba = C.ba ∧ C'.to = C.to ∧ R'.du = R.du ∧ rOK gw gh (gCe gw gh) (gAr gw gh) (gAb gw gh) C.mu C.ba C.to mm (mm + 256 - k) (sC C L k (B k)) ∧ rROK gw gh C.to R.du (mm + 256 - k + 1) (sR C.wr R M k (B k)) ∧ IV gw gh mm (calls + 1) C' L' k' R' M' mk sf rc V B' ks := by
  have hS : Sim gw gh mm calls C.mu C.ba C.to R.du B (sC C L k (B k)) (sR C.wr R M k (B k)) := Sim.mk rfl rfl rfl rfl I.log I.now
  obtain ⟨W, w1, w2, w3⟩ := I.now.bud
  obtain ⟨B', s1, s2, s3, s4, s5, s6, s7⟩ := run_sim G hm (by omega) (mm + 256 - k) B _ _ hS (fun hw => by
    have hw' : C.wr = false := hw
    rw [hw'] at w2
    have w2' : 2 * W ≤ calls := w2
    show opE gw gh R.ed + opS gw gh R.sh + 1 ≤ _
    omega)
  rcases eF : runF gw gh (gCe gw gh) (gAr gw gh) (gAb gw gh) C.mu C.ba C.to (mm + 256 - k) (sC C L k (B k)) with ⟨onr, onb, ofr, ofb, bl, wh, wr, nuc, plc, en, chc, k', t'⟩
  rcases eR : runR gw gh C.to R.du (mm + 256 - k + 1) (sR C.wr R M k (B k)) with ⟨ed, sh, eb, sb, wr', nur, plr, bg, chr, k2, t2⟩
  rw [eF, eR] at s1
  rw [eF] at s2 s4 s5
  obtain ⟨rfl, rfl, rfl, h4, LL, SS⟩ := s1
  dsimp only at s2 s3 s4 s5
  refine ⟨⟨onr, onb, ofr, ofb, C.mu, C.ba, bl, wh, C.to, wr'⟩, ⟨nuc, plc, en, chc⟩, k2, B' k2, ⟨ed, R.du, sh, eb, sb⟩, ⟨nur, plr, bg, chr⟩, B', rfl, ?_, rfl, rfl, rfl, rfl, s6, s7, LL, SS, fun i hi => Nat.le_trans (I.le i hi) s2, I.sf, I.v6, I.v7, I.v8, I.mono, fun i hi => ?_⟩
  · rw [h4]
  · have hk := I.le i hi
    have hb := I.log.le (i := ks i) k hk (Nat.le_refl _)
    exact ((I.old i hi).mono (by omega)).pre (fun a ha => s4 a (by omega)) (fun a ha => s3 a (by omega)) (fun a ha => s5 a (by omega)) (fun a ha => I.log.le (ks i) (by omega) hk)
end INVR
theorem open_all : ∀ gw, gw < 9 → ∀ gh, gh < 9 → sm (fun e => b01 (isEn gw gh e)) 128 ≤ (gw - 1) * gh + gw * (gh - 1) := by decide +kernel
theorem sm_lim : ∀ n N : Nat, N ≤ n → sm (fun c => b01 (decide (c < N))) n = N := by
  intro n
  induction n with
  | zero => intro N h; show 0 = N; omega
  | succ n ih =>
    intro N h
    show sm (fun c => b01 (decide (c < N))) n + b01 (decide (n < N)) = N
    by_cases q : N ≤ n
    · rw [ih N q, decide_eq_false (by omega)]; rfl
    · have hN : N = n + 1 := by omega
      rw [decide_eq_true (by omega), sm_congr (g := fun c => b01 (decide (c < n))) (fun i hi => by rw [decide_eq_true (by omega : i < N), decide_eq_true hi]), ih n (Nat.le_refl _), hN]; rfl
/-- both sides at their start -/
theorem IV.init {gw gh : Nat} (G : GG gw gh) : IV gw gh ((gw - 1) * gh + gw * (gh - 1) + gw * gh) 0 ⟨0, 0, 0, 0, 0, 0, 0, 0, -1, false⟩ ⟨fun _ => 0, fun _ => 0, fun _ => 0, fun _ => 0⟩ 0 ⟨fun _ => 0, fun _ => 0, fun _ => 0, cq (fun _ => 0) (fun _ => -1) 0 128, cq (fun _ => 0) (fun _ => -1) 0 64⟩ ⟨fun _ => 0, fun _ => 0, fun _ => 0, fun _ => 0⟩ 0 (fun _ => 0) (fun _ => ⟨0, 0, 0, 0, 0, 0, 0, 0, -1, false⟩) ⟨fun _ => 0, fun _ => 0, fun _ => 0, fun _ => 0, fun _ => 0, fun _ => 0, fun _ => 0, fun _ => 0⟩ (fun _ => 0) (fun _ => 0) := by
  have hN := G.N
  have h8 := G.w8
  have h9 := G.h8
  refine ⟨⟨rfl, fun i hi => by omega, fun i hi => by omega, fun i hi => by omega, fun i hi => by omega, fun i hi => by rfl, fun j hj => by rfl⟩, ⟨⟨?_, ?_, fun e _ => Or.inl rfl, ?_, ?_, fun c _ => Or.inl rfl, ?_, ?_, fun c _ => Or.inl rfl⟩, Or.inl rfl, fun e he => ?_, fun c hc => ?_, 0, by omega, by show 0 ≤ 0 + 0; omega, ?_⟩, fun i hi => by omega, fun i hi => by omega, fun i hi => by omega, fun i hi => by omega, fun i hi => by omega, fun i j h1 h2 => by omega, fun i hi => by omega⟩
  · intro c hc; rw [bt_0]; exact ⟨(Bool.and_false _).symm, (Bool.and_false _).symm⟩
  · intro c hc; rw [bt_0]; exact ⟨(Bool.and_false _).symm, (Bool.and_false _).symm⟩
  · intro c hc; rw [bt_0]; exact (Bool.and_false _).symm
  · intro c hc; rw [bt_0]; exact (Bool.and_false _).symm
  · intro c hc; rw [bt_0]; exact (Bool.and_false _).symm
  · intro c hc; rw [bt_0]; exact (Bool.and_false _).symm
  · refine ⟨Or.inl ⟨?_, fun i hi => by omega⟩, fun _ i hi => by omega⟩
    show cq (fun _ => 0) (fun _ => -1) 0 128 e = -1
    rw [cq, if_pos (isEn_128 G he)]
  · refine ⟨Or.inl ⟨?_, fun i hi => by omega⟩, fun _ i hi => by omega⟩
    show cq (fun _ => 0) (fun _ => -1) 0 64 c = -1
    rw [cq, if_pos (by omega)]
  · have e1 : opE gw gh (fun _ => 0) = sm (fun e => b01 (isEn gw gh e)) 128 := sm_congr (fun i _ => by rw [decide_eq_true rfl, Bool.and_true])
    have e2 : opS gw gh (fun _ => 0) = gw * gh := by
      rw [← sm_lim 64 (gw * gh) hN]
      exact sm_congr (fun i _ => by rw [decide_eq_true rfl, Bool.and_true])
    have e3 := open_all gw (by omega) gh (by omega)
    show 0 + (opE gw gh (fun _ => 0) + opS gw gh (fun _ => 0)) ≤ _
    rw [e1, e2]; omega
