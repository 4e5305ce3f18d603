/-! A STEP AND A RUN OF BOTH SIDES. -/
theorem ch_lessT : ∀ x, x < 128 → fLess (2 * nI x + b2i true) = nI x := by decide +kernel
theorem ch_lessF : ∀ x, x < 128 → fLess (2 * nI x + b2i false) = nI x := by decide +kernel
theorem ch_less (z : Bool) {x : Nat} (h : x < 128) : fLess (2 * nI x + b2i z) = nI x := by
  cases z
  · exact ch_lessF x h
  · exact ch_lessT x h
theorem Hc_new {nu : Nat → Int32} {B : Nat → Nat} {ch : Nat → Int32} {k : Nat} {no : Int32} {z sh : Bool} {L : List Nat} (hL : ∀ i ∈ L, i < 128) {e : Nat} (he : e < 128) : Hc (upd nu k no) (bX B k (B k + (L.map nI).length)) (chW z ch (B k) (L.map nI)) sh e k ↔ decide (¬ no < 10) = sh ∧ e ∈ L := by
  unfold Hc
  rw [upd_eq, if_pos rfl, bX_in (Nat.le_refl _), bX_out (Nat.lt_succ_self _)]
  refine and_congr Iff.rfl ⟨?_, ?_⟩
  · rintro ⟨m, h1, h2, h3⟩
    obtain ⟨j, rfl⟩ : ∃ j, m = B k + j := ⟨m - B k, by omega⟩
    have hj : j < (L.map nI).length := by omega
    have hj' : j < L.length := by rw [List.length_map] at hj; exact hj
    have hm : L[j] ∈ L := List.getElem_mem hj'
    rw [chW_at _ _ _ _ hj, List.getElem_map, ch_less z (hL _ hm), nI_eq (by have := hL _ hm; omega) (by omega)] at h3
    rw [← h3]; exact hm
  · intro hm
    obtain ⟨j, hj, rfl⟩ := List.getElem_of_mem hm
    have hj' : j < (L.map nI).length := by rw [List.length_map]; exact hj
    exact ⟨B k + j, by omega, by omega, by rw [chW_at _ _ _ _ hj', List.getElem_map, ch_less z (hL _ hm)]⟩
def Sim (gw gh mm calls : Nat) (mu ba : Int64) (to : Int32) (du : Nat → Int32) (B : Nat → Nat) (S : RS) (T : RR) : Prop :=
  match S, T with
  | (onr, onb, ofr, ofb, bl, wh, wr, nuc, plc, en, chc, k, t), (ed, sh, eb, sb, wr', nur, plr, bg, chr, k', t') =>
    wr' = wr ∧ k' = k ∧ t = B k ∧ t' = B k ∧ LogR nuc plc en chc nur plr bg chr B k ∧ Snap gw gh mm calls nuc B chc k onr onb ofr ofb mu ba bl wh to wr ed du sh eb sb
section SIM
variable {gw gh mm calls : Nat} {mu ba : Int64} {to : Int32} {du : Nat → Int32} {B : Nat → Nat}
theorem Sim.mk {onr onb ofr ofb bl wh : Int64} {wr wr' : Bool} {nuc plc en chc : Nat → Int32} {k t : Nat} {ed sh eb sb nur plr bg chr : Nat → Int32} {k' t' : Nat} (h1 : wr' = wr) (h2 : k' = k) (h3 : t = B k) (h4 : t' = B k) (h5 : LogR nuc plc en chc nur plr bg chr B k) (h6 : Snap gw gh mm calls nuc B chc k onr onb ofr ofb mu ba bl wh to wr ed du sh eb sb) : Sim gw gh mm calls mu ba to du B (onr, onb, ofr, ofb, bl, wh, wr, nuc, plc, en, chc, k, t) (ed, sh, eb, sb, wr', nur, plr, bg, chr, k', t') := ⟨h1, h2, h3, h4, h5, h6⟩
theorem Sim.step (G : GG gw gh) {onr onb ofr ofb bl wh : Int64} {nuc plc en chc : Nat → Int32} {k : Nat} {ed sh eb sb nur plr bg chr : Nat → Int32} (L : LogR nuc plc en chc nur plr bg chr B k) (S : Snap gw gh mm calls nuc B chc k onr onb ofr ofb mu ba bl wh to false ed du sh eb sb) (no pc : Int32) (mo : Nat) (z : Bool) (is : List Int32) (hd : dOK gw gh ed sh (no, pc, mo, z, is)) : B k + is.length ≤ mm ∧ Sim gw gh mm (calls + (if mo = 0 then 1 else 0)) mu ba to du (bX B k (B k + is.length)) (apD (onr, onb, ofr, ofb, bl, wh, false, nuc, plc, en, chc, k, B k) (no, pc, mo, z, is)) (apR (ed, sh, eb, sb, false, nur, plr, bg, chr, k, B k) (no, pc, mo, z, is)) := by
  have hN := G.N
  obtain ⟨W, w1, w2, w3⟩ := S.bud
  have w2' : 2 * W ≤ calls := w2
  have LS := L.step no pc z is
  have hB : bX B k (B k + is.length) (k + 1) = B k + is.length := bX_out (Nat.lt_succ_self _)
  have pre : ∀ (s : Bool) (e : Nat) (i : Nat), i < k → (Hc (upd nuc k no) (bX B k (B k + is.length)) (chW z chc (B k) is) s e i ↔ Hc nuc B chc s e i) := fun s e => Hc_pre (fun i hi => pk_un (by omega)) (fun i hi => bX_in hi) (fun j hj => chW_lt hj) (fun i hi => L.le k (by omega) (Nat.le_refl _))
  match mo, hd with
  | 0, hd =>
    obtain rfl : is = [] := hd
    have hno : ∀ (s : Bool) (e : Nat), ¬ Hc (upd nuc k no) (bX B k (B k + ([] : List Int32).length)) (chW z chc (B k) []) s e k := by
      rintro s e ⟨_, m, h1, h2, _⟩
      rw [bX_in (Nat.le_refl _)] at h1
      rw [hB] at h2
      simp only [List.length_nil] at h2
      omega
    refine ⟨by simp only [List.length_nil]; omega, Sim.mk rfl rfl hB.symm hB.symm LS ⟨S.rel, S.told, fun e he => (S.be e he).keep (pre _ e) (hno _ e) id, fun e he => (S.bs e he).keep (pre _ e) (hno _ e) id, W + 1, ?_, ?_, ?_⟩⟩
    · rw [hB]; simp only [List.length_nil]; omega
    · show 2 * (W + 1) ≤ calls + 1 + 1; omega
    · rw [hB]; simp only [List.length_nil]; omega
  | 1, hd =>
    obtain ⟨hn, Lx, rfl, hnd, hq, hne⟩ := hd
    have hL : ∀ i ∈ Lx, i < 128 := fun i hi => isEn_128 G (hq i hi).1
    have hlen : 1 ≤ Lx.length := List.length_pos_iff.mpr hne
    have ho := opE_list G z Lx ed hnd hq
    have hml : (Lx.map nI).length = Lx.length := List.length_map ..
    have hdec : decide (¬ no < 10) = false := decide_eq_false (fun x => x hn)
    refine ⟨by omega, Sim.mk rfl rfl hB.symm hB.symm LS ⟨S.rel.edges G z Lx _ _ _ _ _ hnd hq, S.told, fun e he => ?_, fun e he => ?_, W, by show k + 1 ≤ W + bX B k (B k + (Lx.map nI).length) (k + 1); rw [hB]; omega, by show 2 * W ≤ calls + 0 + 0; omega, by show bX B k (B k + (Lx.map nI).length) (k + 1) + (opE gw gh (edS z ed (Lx.map nI)) + opS gw gh sh) ≤ mm; rw [hB]; omega⟩⟩
    · rw [byS_in (fun i hi => by have := hL i hi; omega), edS_in (fun i hi => by have := hL i hi; omega)]
      by_cases q : e ∈ Lx
      · rw [if_pos q, if_pos q]
        exact (S.be e he).new (pre _ e) ((Hc_new hL (hL e q)).mpr ⟨hdec, q⟩) (hq e q).2 (sv_ne z)
      · rw [if_neg q, if_neg q]
        exact (S.be e he).keep (pre _ e) (fun w => q ((Hc_new hL (isEn_128 G he)).mp w).2) id
    · refine (S.bs e he).keep (pre _ e) (fun w => ?_) id
      have := ((Hc_new hL (by omega)).mp w).1
      rw [hdec] at this; cases this
  | mo + 2, hd =>
    obtain ⟨hn, Lx, rfl, hnd, hq, hne⟩ := hd
    have hL : ∀ i ∈ Lx, i < 128 := fun i hi => by have := (hq i hi).1; omega
    have hlen : 1 ≤ Lx.length := List.length_pos_iff.mpr hne
    have ho := opS_list G z Lx sh hnd hq
    have hml : (Lx.map nI).length = Lx.length := List.length_map ..
    have hdec : decide (¬ no < 10) = true := decide_eq_true hn
    refine ⟨by omega, Sim.mk rfl rfl hB.symm hB.symm LS ⟨S.rel.shades G z Lx _ _ _ hnd hq, S.told, fun e he => ?_, fun e he => ?_, W, by show k + 1 ≤ W + bX B k (B k + (Lx.map nI).length) (k + 1); rw [hB]; omega, by show 2 * W ≤ calls + 0 + 0; omega, by show bX B k (B k + (Lx.map nI).length) (k + 1) + (opE gw gh ed + opS gw gh (edS z sh (Lx.map nI))) ≤ mm; rw [hB]; omega⟩⟩
    · refine (S.be e he).keep (pre _ e) (fun w => ?_) id
      have := ((Hc_new hL (isEn_128 G he)).mp w).1
      rw [hdec] at this; cases this
    · rw [byS_in (fun i hi => by have := hL i hi; omega), edS_in (fun i hi => by have := hL i hi; omega)]
      by_cases q : e ∈ Lx
      · rw [if_pos q, if_pos q]
        exact (S.bs e he).new (pre _ e) ((Hc_new hL (hL e q)).mpr ⟨hdec, q⟩) (hq e q).2 (sv_ne z)
      · rw [if_neg q, if_neg q]
        exact (S.bs e he).keep (pre _ e) (fun w => q ((Hc_new hL (by omega)).mp w).2) id
/-- a step takes something that was free, or is a wrong one -/
theorem step_open (G : GG gw gh) {ed sh : Nat → Int32} {S : RR} (h1 : S.1 = ed) (h2 : S.2.1 = sh) {d : DE} (hd : dOK gw gh ed sh d) : (apR S d).2.2.2.2.1 = true ∨ opE gw gh (apR S d).1 + opS gw gh (apR S d).2.1 + 1 ≤ opE gw gh ed + opS gw gh sh := by
  subst h1; subst h2
  obtain ⟨no, pc, mo, z, is⟩ := d
  match mo, hd with
  | 0, _ => exact Or.inl rfl
  | 1, hd =>
    obtain ⟨hn, Lx, rfl, hnd, hq, hne⟩ := hd
    have hlen : 1 ≤ Lx.length := List.length_pos_iff.mpr hne
    have ho := opE_list G z Lx S.1 hnd hq
    refine Or.inr ?_
    show opE gw gh (edS z S.1 (Lx.map nI)) + opS gw gh S.2.1 + 1 ≤ _
    omega
  | mo + 2, hd =>
    obtain ⟨hn, Lx, rfl, hnd, hq, hne⟩ := hd
    have hlen : 1 ≤ Lx.length := List.length_pos_iff.mpr hne
    have ho := opS_list G z Lx S.2.1 hnd hq
    refine Or.inr ?_
    show opE gw gh S.1 + opS gw gh (edS z S.2.1 (Lx.map nI)) + 1 ≤ _
    omega
theorem apD_k2 {S : RS} (d : DE) : (apD S d).2.2.2.2.2.2.2.2.2.2.2.1 = S.2.2.2.2.2.2.2.2.2.2.2.1 + 1 := by
  obtain ⟨no, pc, mo, z, is⟩ := d
  match mo with
  | 0 => rfl
  | 1 => rfl
  | _ + 2 => rfl
theorem apD_nu {S : RS} (d : DE) {i : Nat} (h : i < S.2.2.2.2.2.2.2.2.2.2.2.1) : (apD S d).2.2.2.2.2.2.2.1 i = S.2.2.2.2.2.2.2.1 i := by
  obtain ⟨no, pc, mo, z, is⟩ := d
  match mo with
  | 0 => exact pk_un (by omega)
  | 1 => exact pk_un (by omega)
  | _ + 2 => exact pk_un (by omega)
theorem apD_ch {S : RS} (d : DE) {i : Nat} (h : i < S.2.2.2.2.2.2.2.2.2.2.2.2) : (apD S d).2.2.2.2.2.2.2.2.2.2.1 i = S.2.2.2.2.2.2.2.2.2.2.1 i := by
  obtain ⟨no, pc, mo, z, is⟩ := d
  match mo with
  | 0 => rfl
  | 1 => exact chW_lt h
  | _ + 2 => exact chW_lt h
theorem apD_wr {S : RS} (no pc : Int32) (z : Bool) (is : List Int32) : (apD S (no, pc, 0, z, is)).2.2.2.2.2.2.1 = true := rfl
theorem runF_w2 {ce ar ab : Int64} {f : Nat} {S : RS} (h : S.2.2.2.2.2.2.1 = true) : runF gw gh ce ar ab mu ba to f S = S := by
  cases f with
  | zero => rfl
  | succ f => rw [runF, if_pos h]
theorem runR_w2 {f : Nat} {S : RR} (h : S.2.2.2.2.1 = true) : runR gw gh to du f S = S := by
  cases f with
  | zero => rfl
  | succ f => rw [runR, if_pos h]
theorem rOK_w {ce ar ab : Int64} {f : Nat} {S : RS} (h : S.2.2.2.2.2.2.1 = true) : rOK gw gh ce ar ab mu ba to mm f S := by
  cases f with
  | zero => trivial
  | succ f => rw [rOK]; intro w; rw [h] at w; cases w
theorem rROK_w {f : Nat} {S : RR} (h : S.2.2.2.2.1 = true) : rROK gw gh to du (f + 1) S := by
  rw [rROK]; intro w; rw [h] at w; cases w
theorem Sim.up {S : RS} {T : RR} {c' : Nat} (h : Sim gw gh mm calls mu ba to du B S T) (hc : calls ≤ c') : Sim gw gh mm c' mu ba to du B S T := ⟨h.1, h.2.1, h.2.2.1, h.2.2.2.1, h.2.2.2.2.1, h.2.2.2.2.2.mono hc⟩
/-- BOTH RUNS END ALIKE -/
theorem run_sim (G : GG gw gh) (hmm : mm ≤ 176) (hc : calls ≤ 512) : ∀ (f : Nat) (B : Nat → Nat) (S : RS) (T : RR), Sim gw gh mm calls mu ba to du B S T → (T.2.2.2.2.1 = false → opE gw gh T.1 + opS gw gh T.2.1 + 1 ≤ f) → ∃ B', Sim gw gh mm (calls + 1) mu ba to du B' (runF gw gh (gCe gw gh) (gAr gw gh) (gAb gw gh) mu ba to f S) (runR gw gh to du (f + 1) T) ∧ S.2.2.2.2.2.2.2.2.2.2.2.1 ≤ (runF gw gh (gCe gw gh) (gAr gw gh) (gAb gw gh) mu ba to f S).2.2.2.2.2.2.2.2.2.2.2.1 ∧ (∀ i, i ≤ S.2.2.2.2.2.2.2.2.2.2.2.1 → B' i = B i) ∧ (∀ i, i < S.2.2.2.2.2.2.2.2.2.2.2.1 → (runF gw gh (gCe gw gh) (gAr gw gh) (gAb gw gh) mu ba to f S).2.2.2.2.2.2.2.1 i = S.2.2.2.2.2.2.2.1 i) ∧ (∀ j, j < S.2.2.2.2.2.2.2.2.2.2.2.2 → (runF gw gh (gCe gw gh) (gAr gw gh) (gAb gw gh) mu ba to f S).2.2.2.2.2.2.2.2.2.2.1 j = S.2.2.2.2.2.2.2.2.2.2.1 j) ∧ rOK gw gh (gCe gw gh) (gAr gw gh) (gAb gw gh) mu ba to mm f S ∧ rROK gw gh to du (f + 1) T := by
  intro f
  induction f with
  | zero =>
    intro B S T h hf
    obtain ⟨onr, onb, ofr, ofb, bl, wh, wr, nuc, plc, en, chc, k, t⟩ := S
    obtain ⟨ed, sh, eb, sb, wr', nur, plr, bg, chr, k', t'⟩ := T
    obtain ⟨rfl, rfl, rfl, rfl, L, Sn⟩ := h
    cases wr' with
    | false => have := hf rfl; omega
    | true =>
      rw [runF_w2 rfl, runR_w2 rfl]
      exact ⟨B, Sim.mk rfl rfl rfl rfl L (Sn.mono (by omega)), Nat.le_refl _, fun _ _ => rfl, fun _ _ => rfl, fun _ _ => rfl, rOK_w rfl, rROK_w rfl⟩
  | succ f ih =>
    intro B S T h hf
    obtain ⟨onr, onb, ofr, ofb, bl, wh, wr, nuc, plc, en, chc, k, t⟩ := S
    obtain ⟨ed, sh, eb, sb, wr', nur, plr, bg, chr, k', t'⟩ := T
    obtain ⟨rfl, rfl, rfl, rfl, L, Sn⟩ := h
    cases wr' with
    | true =>
      rw [runF_w2 rfl, runR_w2 rfl]
      exact ⟨B, Sim.mk rfl rfl rfl rfl L (Sn.mono (by omega)), Nat.le_refl _, fun _ _ => rfl, fun _ _ => rfl, fun _ _ => rfl, rOK_w rfl, rROK_w rfl⟩
    | false =>
      have hf := hf rfl
      dsimp only at hf
      obtain ⟨W, w1, w2, w3⟩ := Sn.bud
      have w2' : 2 * W ≤ calls := w2
      have e1 : dFs gw gh (gCe gw gh) (gAr gw gh) (gAb gw gh) mu ba to (onr, onb, ofr, ofb, bl, wh, false, nuc, plc, en, chc, k', B k') = dNext gw gh to ed du sh := first_next G Sn.rel Sn.told
      have e2 : dNs gw gh to du (ed, sh, eb, sb, false, nur, plr, bg, chr, k', B k') = dNext gw gh to ed du sh := rfl
      rw [runF, runR, rOK, rROK, e1, e2, if_neg (by simp), if_neg (by simp)]
      rcases hd : dNext gw gh to ed du sh with _ | d
      · exact ⟨B, Sim.mk rfl rfl rfl rfl L (Sn.mono (by omega)), Nat.le_refl _, fun _ _ => rfl, fun _ _ => rfl, fun _ _ => rfl, fun _ => ⟨by show B k' + 0 ≤ mm; omega, fun d h => by cases h⟩, fun _ => ⟨by show k' < 900; omega, by show B k' + 0 ≤ 4000; omega, fun d h => by cases h⟩⟩
      · have ok := next_ok G Sn.rel.e3 hd
        obtain ⟨no, pc, mo, z, is⟩ := d
        obtain ⟨s1, s2⟩ := Sim.step G L Sn no pc mo z is ok
        have so := step_open G (S := (ed, sh, eb, sb, false, nur, plr, bg, chr, k', B k')) (ed := ed) (sh := sh) rfl rfl ok
        have fin : ∃ B', Sim gw gh mm (calls + 1) mu ba to du B' (runF gw gh (gCe gw gh) (gAr gw gh) (gAb gw gh) mu ba to f (apD (onr, onb, ofr, ofb, bl, wh, false, nuc, plc, en, chc, k', B k') (no, pc, mo, z, is))) (runR gw gh to du (f + 1) (apR (ed, sh, eb, sb, false, nur, plr, bg, chr, k', B k') (no, pc, mo, z, is))) ∧ k' + 1 ≤ (runF gw gh (gCe gw gh) (gAr gw gh) (gAb gw gh) mu ba to f (apD (onr, onb, ofr, ofb, bl, wh, false, nuc, plc, en, chc, k', B k') (no, pc, mo, z, is))).2.2.2.2.2.2.2.2.2.2.2.1 ∧ (∀ i, i ≤ k' → B' i = B i) ∧ (∀ i, i < k' → (runF gw gh (gCe gw gh) (gAr gw gh) (gAb gw gh) mu ba to f (apD (onr, onb, ofr, ofb, bl, wh, false, nuc, plc, en, chc, k', B k') (no, pc, mo, z, is))).2.2.2.2.2.2.2.1 i = nuc i) ∧ (∀ j, j < B k' → (runF gw gh (gCe gw gh) (gAr gw gh) (gAb gw gh) mu ba to f (apD (onr, onb, ofr, ofb, bl, wh, false, nuc, plc, en, chc, k', B k') (no, pc, mo, z, is))).2.2.2.2.2.2.2.2.2.2.1 j = chc j) ∧ rOK gw gh (gCe gw gh) (gAr gw gh) (gAb gw gh) mu ba to mm f (apD (onr, onb, ofr, ofb, bl, wh, false, nuc, plc, en, chc, k', B k') (no, pc, mo, z, is)) ∧ rROK gw gh to du (f + 1) (apR (ed, sh, eb, sb, false, nur, plr, bg, chr, k', B k') (no, pc, mo, z, is)) := by
          have hk1 := apD_k2 (S := (onr, onb, ofr, ofb, bl, wh, false, nuc, plc, en, chc, k', B k')) (no, pc, mo, z, is)
          have hn1 := fun i hi => apD_nu (S := (onr, onb, ofr, ofb, bl, wh, false, nuc, plc, en, chc, k', B k')) (no, pc, mo, z, is) (i := i) hi
          have hc1 := fun i hi => apD_ch (S := (onr, onb, ofr, ofb, bl, wh, false, nuc, plc, en, chc, k', B k')) (no, pc, mo, z, is) (i := i) hi
          dsimp only at hk1 hn1 hc1
          by_cases q : mo = 0
          · subst q
            rw [runF_w2 (apD_wr ..), runR_w2 rfl]
            exact ⟨_, s2, by omega, fun i hi => bX_in hi, hn1, hc1, rOK_w (apD_wr ..), rROK_w rfl⟩
          · rw [if_neg q] at s2
            have hso : (apR (ed, sh, eb, sb, false, nur, plr, bg, chr, k', B k') (no, pc, mo, z, is)).2.2.2.2.1 = false → opE gw gh (apR (ed, sh, eb, sb, false, nur, plr, bg, chr, k', B k') (no, pc, mo, z, is)).1 + opS gw gh (apR (ed, sh, eb, sb, false, nur, plr, bg, chr, k', B k') (no, pc, mo, z, is)).2.1 + 1 ≤ f := by
              intro w
              rcases so with x | x
              · rw [x] at w; cases w
              · omega
            obtain ⟨B', r1, r2, r3, r4, r5, r6, r7⟩ := ih _ _ _ s2 hso
            rw [hk1] at r2 r3 r4
            have ht : (apD (onr, onb, ofr, ofb, bl, wh, false, nuc, plc, en, chc, k', B k') (no, pc, mo, z, is)).2.2.2.2.2.2.2.2.2.2.2.2 = B k' + is.length := by
              match mo, q with
              | 0, q => exact absurd rfl q
              | 1, _ => rfl
              | _ + 2, _ => rfl
            rw [ht] at r5
            exact ⟨B', r1, r2, fun i hi => by rw [r3 i (by omega), bX_in hi], fun i hi => by rw [r4 i (by omega)]; exact hn1 i hi, fun j hj => by rw [r5 j (by omega)]; exact hc1 j hj, r6, r7⟩
        obtain ⟨B', r1, r2, r3, r4, r5, r6, r7⟩ := fin
        exact ⟨B', r1, Nat.le_trans (Nat.le_succ k') r2, r3, r4, r5, fun _ => ⟨by show B k' + is.length ≤ mm; omega, fun d h => by cases h; exact r6⟩, fun _ => ⟨by show k' < 900; omega, by show B k' + is.length ≤ 4000; omega, fun d h => by cases h; exact r7⟩⟩
end SIM
