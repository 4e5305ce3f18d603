/-! THE LAW'S CASES WHOSE CALLS THROW NOTHING. -/
set_option maxHeartbeats 8000000 in
set_option maxRecDepth 100000 in
theorem law_size {p : Program} {l : Launch} {e : Env} {s : State} {m : MethodId} {below : List Frame} {meth : Method} {c : Code} {b Lx : Nat} {xs : Nat → Int32} {E : GE} {a y : Nat → Nat} {o gw gh j : Nat} {H : Heap} {locs : List Loc} {cells slots : Nat} {Q : State → Prop} {ls : Array Slot} (G : GG gw gh) (hLE : LE p l s m meth c b Lx xs E) (hj : 2 + 3 * j + 3 ≤ Lx) (hI : LI E a y o gw gh j s H locs) (hl : lv_has ls 7 (lvL b a y o (2 + 3 * j))) (hf : cells + 3 ≤ room_1.cells ∧ slots + 14 ≤ room_1.slots) (kk : ∀ (H1 : Heap) (locs1 : List Loc) (ls1 : Array Slot), LI E a y o gw gh (j + 1) s H1 locs1 → lv_has ls1 7 (lvL b a y o (2 + 3 * j)) → W p l e room_1 s m #[.ref b] below meth c H1 locs1 (cells + 3) (slots + 14) Q (F0 m 847 ls1 [])) : W p l e room_1 s m #[.ref b] below meth c H locs cells slots Q (F0 m 132 ls []) := by
  obtain ⟨hx, hb, hml, hown, hts, hE, hX, hbl, hT, hl0, hLx⟩ := hLE
  obtain ⟨C, L, k, mk, mf, sf, x, f, th, R, M, V, rcm, mx, d, rc, B, ks, I, hmx, hmx12, hmf, hmn, hP, hD, hS⟩ := hI
  have hA : ∀ q : Nat, s.heap.size ≤ q → (fun q => s.heap.size ≤ q) q := fun q h => h
  have hmm : mmOf gw gh ≤ 176 := mm_le G.w8 G.h8
  have hj5 : j ≤ 511 := by omega
  have hkn := I.kn (by omega)
  have S : CallFix p m c cL_law 7 s #[.ref b] (wsL_law ++ tW) RL := ⟨hx, hb, hml, hown, hts⟩
  refine lv_aload_n hx hb dL_law_132 rfl (lv_at hl 3 rfl) ?_
  have hP0 : va_P E.1 vwCl ([] ++ (wCO E a o gw gh (mmOf gw gh) C L k mk mf sf x f ++ (wRf E y gw gh th C.to C.wr k mk R M V rcm ++ wPool d gw rc mx))) H := hP
  have hD0 : va_D (fun q => s.heap.size ≤ q) ([] ++ (wCO E a o gw gh (mmOf gw gh) C L k mk mf sf x f ++ (wRf E y gw gh th C.to C.wr k mk R M V rcm ++ wPool d gw rc mx))) := hD
  refine lwVX (As := []) (rest := []) (F := []) S hE (rd_wr (cX5_size_ct l E (a 1) (a 2) (a 3) (a 4) (a 10) gw gh (nI ((gw - 1) * gh + gw * (gh - 1))) (gCe gw gh) (gAr gw gh) (gAb gw gh) (a 0) (a 15) (a 16) (nI mk))) (cwV 0 hts (goodL gL_law_X5_size) rfl rfl rfl (by decide +kernel) ⟨by decide, by decide⟩) hP0 hD0 hS hA [1, 3, 4] [0, 2, 5, 6, 7, 8, 9, 10, 11, 12, 13, 14, 15, 16, 17] rfl (by show List.Perm _ (List.range 18); decide) 6 rfl rfl rfl rfl hl.1 rfl (Nat.le_of_ble_eq_true rfl) dL_law_133 ⟨by omega, by omega⟩ (fun cs1 H1 locs1 hX1 hB1 hS1 => ?_)
  subst hX1
  have hPD1 : va_P E.1 vwCl ([] ++ (wCO E a o gw gh (mmOf gw gh) C L k mk mf sf x f ++ (wRf E y gw gh th C.to C.wr k mk R M V rcm ++ wPool d gw rc mx))) H1 ∧ va_D (fun q => s.heap.size ≤ q) ([] ++ (wCO E a o gw gh (mmOf gw gh) C L k mk mf sf x f ++ (wRf E y gw gh th C.to C.wr k mk R M V rcm ++ wPool d gw rc mx))) := hB1 (wCO E a o gw gh (mmOf gw gh) C L k mk mf sf x f) rfl rfl rfl
  have hP1 : va_P E.1 vwCl (wCO E a o gw gh (mmOf gw gh) C L k mk mf sf x f ++ (wRf E y gw gh th C.to C.wr k mk R M V rcm ++ wPool d gw rc mx)) H1 := hPD1.1
  have hD1 : va_D (fun q => s.heap.size ≤ q) (wCO E a o gw gh (mmOf gw gh) C L k mk mf sf x f ++ (wRf E y gw gh th C.to C.wr k mk R M V rcm ++ wPool d gw rc mx)) := hPD1.2
  refine lv_aload_n hx hb dL_law_136 rfl (lv_at hl 2 rfl) ?_
  refine lwVX (As := []) (rest := [.int (nI (gw * gh))]) S hE (cX6_size_ct l E H1.size (y 0) (y 1) (y 2) (y 3) (y 4) (y 5) (y 6) (y 7) (y 8) (y 9) (y 10) (y 11) (y 12) (y 13) (y 14) (y 15) (y 16) (y 17) (y 18) gw gh th C.to C.wr k mk) (cwV 0 hts (goodL gL_law_X6_size) rfl rfl rfl (by decide +kernel) ⟨by decide, by decide⟩) hP1 hD1 hS1 hA [0] [1, 2, 3, 4, 5, 6, 7, 8, 9, 10, 11, 12, 13, 14, 15, 16, 17, 18] rfl (by show List.Perm _ (List.range 19); decide) 7 rfl rfl rfl rfl hl.1 rfl (Nat.le_of_ble_eq_true rfl) dL_law_137 ⟨by omega, by omega⟩ (fun cs2 H2 locs2 hX2 hB2 hS2 => ?_)
  subst hX2
  have hPD2 : va_P E.1 vwCl (wCO E a o gw gh (mmOf gw gh) C L k mk mf sf x f ++ (wRf E y gw gh 0 C.to C.wr k mk R M V rcm ++ wPool d gw rc mx)) H2 ∧ va_D (fun q => s.heap.size ≤ q) (wCO E a o gw gh (mmOf gw gh) C L k mk mf sf x f ++ (wRf E y gw gh 0 C.to C.wr k mk R M V rcm ++ wPool d gw rc mx)) := hB2 (wRf E y gw gh 0 C.to C.wr k mk R M V rcm) rfl rfl rfl
  have hP2 := hPD2.1
  have hD2 := hPD2.2
  refine lv_icmp_eq (tgt := 847) hx hb dL_law_140 (by decide) (fun c_9 => ?_) (fun c_9 => absurd (rfl) c_9)
  refine W.widen (k := cells + 3) (n := slots + 14) (by omega) (by omega) ?_
  exact kk _ _ _ ⟨C, L, k, mk, mf, sf, x, f, 0, R, M, V, rcm, mx, d, rc, B, ks, I.more, hmx, hmx12, hmf, hmn, hP2, hD2, hS2⟩ (lv_sub hl [0, 1, 2, 3, 4] rfl)
set_option maxHeartbeats 8000000 in
set_option maxRecDepth 100000 in
theorem law_wrong {p : Program} {l : Launch} {e : Env} {s : State} {m : MethodId} {below : List Frame} {meth : Method} {c : Code} {b Lx : Nat} {xs : Nat → Int32} {E : GE} {a y : Nat → Nat} {o gw gh j : Nat} {H : Heap} {locs : List Loc} {cells slots : Nat} {Q : State → Prop} {ls : Array Slot} (G : GG gw gh) (hLE : LE p l s m meth c b Lx xs E) (hj : 2 + 3 * j + 3 ≤ Lx) (hI : LI E a y o gw gh j s H locs) (hl : lv_has ls 7 (lvL b a y o (2 + 3 * j))) (hf : cells + 3 ≤ room_1.cells ∧ slots + 14 ≤ room_1.slots) (kk : ∀ (H1 : Heap) (locs1 : List Loc) (ls1 : Array Slot), LI E a y o gw gh (j + 1) s H1 locs1 → lv_has ls1 7 (lvL b a y o (2 + 3 * j)) → W p l e room_1 s m #[.ref b] below meth c H1 locs1 (cells + 3) (slots + 14) Q (F0 m 847 ls1 [])) : W p l e room_1 s m #[.ref b] below meth c H locs cells slots Q (F0 m 535 ls []) := by
  obtain ⟨hx, hb, hml, hown, hts, hE, hX, hbl, hT, hl0, hLx⟩ := hLE
  obtain ⟨C, L, k, mk, mf, sf, x, f, th, R, M, V, rcm, mx, d, rc, B, ks, I, hmx, hmx12, hmf, hmn, hP, hD, hS⟩ := hI
  have hA : ∀ q : Nat, s.heap.size ≤ q → (fun q => s.heap.size ≤ q) q := fun q h => h
  have hmm : mmOf gw gh ≤ 176 := mm_le G.w8 G.h8
  have hj5 : j ≤ 511 := by omega
  have hkn := I.kn (by omega)
  have S : CallFix p m c cL_law 7 s #[.ref b] (wsL_law ++ tW) RL := ⟨hx, hb, hml, hown, hts⟩
  refine lv_aload_n hx hb dL_law_535 rfl (lv_at hl 3 rfl) ?_
  have hP0 : va_P E.1 vwCl ([] ++ (wCO E a o gw gh (mmOf gw gh) C L k mk mf sf x f ++ (wRf E y gw gh th C.to C.wr k mk R M V rcm ++ wPool d gw rc mx))) H := hP
  have hD0 : va_D (fun q => s.heap.size ≤ q) ([] ++ (wCO E a o gw gh (mmOf gw gh) C L k mk mf sf x f ++ (wRf E y gw gh th C.to C.wr k mk R M V rcm ++ wPool d gw rc mx))) := hD
  refine lwVX (As := []) (rest := []) (F := []) S hE (rd_wr (cX5_wrong_ct l E (a 1) (a 2) (a 4) (a 5) (a 6) (a 10) C.mu C.ba C.bl C.wh C.to C.wr (a 0) (a 15) (a 16) (nI mk))) (cwV 0 hts (goodL gL_law_X5_wrong) rfl rfl rfl (by decide +kernel) ⟨by decide, by decide⟩) hP0 hD0 hS hA [1, 5] [0, 2, 3, 4, 6, 7, 8, 9, 10, 11, 12, 13, 14, 15, 16, 17] rfl (by show List.Perm _ (List.range 18); decide) 6 rfl rfl rfl rfl hl.1 rfl (Nat.le_of_ble_eq_true rfl) dL_law_536 ⟨by omega, by omega⟩ (fun cs1 H1 locs1 hX1 hB1 hS1 => ?_)
  subst hX1
  have hPD1 : va_P E.1 vwCl ([] ++ (wCO E a o gw gh (mmOf gw gh) C L k mk mf sf x f ++ (wRf E y gw gh th C.to C.wr k mk R M V rcm ++ wPool d gw rc mx))) H1 ∧ va_D (fun q => s.heap.size ≤ q) ([] ++ (wCO E a o gw gh (mmOf gw gh) C L k mk mf sf x f ++ (wRf E y gw gh th C.to C.wr k mk R M V rcm ++ wPool d gw rc mx))) := hB1 (wCO E a o gw gh (mmOf gw gh) C L k mk mf sf x f) rfl rfl rfl
  have hP1 : va_P E.1 vwCl (wCO E a o gw gh (mmOf gw gh) C L k mk mf sf x f ++ (wRf E y gw gh th C.to C.wr k mk R M V rcm ++ wPool d gw rc mx)) H1 := hPD1.1
  have hD1 : va_D (fun q => s.heap.size ≤ q) (wCO E a o gw gh (mmOf gw gh) C L k mk mf sf x f ++ (wRf E y gw gh th C.to C.wr k mk R M V rcm ++ wPool d gw rc mx)) := hPD1.2
  refine lv_aload_n hx hb dL_law_539 rfl (lv_at hl 2 rfl) ?_
  refine lwVX (As := []) (rest := [.int (b2i C.wr)]) S hE (cX6_wrong_ct l E H1.size (y 0) (y 1) (y 2) (y 3) (y 4) (y 5) (y 6) (y 7) (y 8) (y 9) (y 10) (y 11) (y 12) (y 13) (y 14) (y 15) (y 16) (y 17) (y 18) gw gh th C.to C.wr k mk) (cwV 0 hts (goodL gL_law_X6_wrong) rfl rfl rfl (by decide +kernel) ⟨by decide, by decide⟩) hP1 hD1 hS1 hA [0] [1, 2, 3, 4, 5, 6, 7, 8, 9, 10, 11, 12, 13, 14, 15, 16, 17, 18] rfl (by show List.Perm _ (List.range 19); decide) 7 rfl rfl rfl rfl hl.1 rfl (Nat.le_of_ble_eq_true rfl) dL_law_540 ⟨by omega, by omega⟩ (fun cs2 H2 locs2 hX2 hB2 hS2 => ?_)
  subst hX2
  have hPD2 : va_P E.1 vwCl (wCO E a o gw gh (mmOf gw gh) C L k mk mf sf x f ++ (wRf E y gw gh 0 C.to C.wr k mk R M V rcm ++ wPool d gw rc mx)) H2 ∧ va_D (fun q => s.heap.size ≤ q) (wCO E a o gw gh (mmOf gw gh) C L k mk mf sf x f ++ (wRf E y gw gh 0 C.to C.wr k mk R M V rcm ++ wPool d gw rc mx)) := hB2 (wRf E y gw gh 0 C.to C.wr k mk R M V rcm) rfl rfl rfl
  have hP2 := hPD2.1
  have hD2 := hPD2.2
  refine lv_icmp_eq (tgt := 847) hx hb dL_law_543 (by decide) (fun c_9 => ?_) (fun c_9 => absurd (rfl) c_9)
  refine W.widen (k := cells + 3) (n := slots + 14) (by omega) (by omega) ?_
  exact kk _ _ _ ⟨C, L, k, mk, mf, sf, x, f, 0, R, M, V, rcm, mx, d, rc, B, ks, I.more, hmx, hmx12, hmf, hmn, hP2, hD2, hS2⟩ (lv_sub hl [0, 1, 2, 3, 4] rfl)
set_option maxHeartbeats 8000000 in
set_option maxRecDepth 100000 in
theorem law_steps {p : Program} {l : Launch} {e : Env} {s : State} {m : MethodId} {below : List Frame} {meth : Method} {c : Code} {b Lx : Nat} {xs : Nat → Int32} {E : GE} {a y : Nat → Nat} {o gw gh j : Nat} {H : Heap} {locs : List Loc} {cells slots : Nat} {Q : State → Prop} {ls : Array Slot} (G : GG gw gh) (hLE : LE p l s m meth c b Lx xs E) (hj : 2 + 3 * j + 3 ≤ Lx) (hI : LI E a y o gw gh j s H locs) (hl : lv_has ls 7 (lvL b a y o (2 + 3 * j))) (hf : cells + 3 ≤ room_1.cells ∧ slots + 14 ≤ room_1.slots) (kk : ∀ (H1 : Heap) (locs1 : List Loc) (ls1 : Array Slot), LI E a y o gw gh (j + 1) s H1 locs1 → lv_has ls1 7 (lvL b a y o (2 + 3 * j)) → W p l e room_1 s m #[.ref b] below meth c H1 locs1 (cells + 3) (slots + 14) Q (F0 m 847 ls1 [])) : W p l e room_1 s m #[.ref b] below meth c H locs cells slots Q (F0 m 616 ls []) := by
  obtain ⟨hx, hb, hml, hown, hts, hE, hX, hbl, hT, hl0, hLx⟩ := hLE
  obtain ⟨C, L, k, mk, mf, sf, x, f, th, R, M, V, rcm, mx, d, rc, B, ks, I, hmx, hmx12, hmf, hmn, hP, hD, hS⟩ := hI
  have hA : ∀ q : Nat, s.heap.size ≤ q → (fun q => s.heap.size ≤ q) q := fun q h => h
  have hmm : mmOf gw gh ≤ 176 := mm_le G.w8 G.h8
  have hj5 : j ≤ 511 := by omega
  have hkn := I.kn (by omega)
  have S : CallFix p m c cL_law 7 s #[.ref b] (wsL_law ++ tW) RL := ⟨hx, hb, hml, hown, hts⟩
  refine lv_aload_n hx hb dL_law_616 rfl (lv_at hl 3 rfl) ?_
  have hP0 : va_P E.1 vwCl ([] ++ (wCO E a o gw gh (mmOf gw gh) C L k mk mf sf x f ++ (wRf E y gw gh th C.to C.wr k mk R M V rcm ++ wPool d gw rc mx))) H := hP
  have hD0 : va_D (fun q => s.heap.size ≤ q) ([] ++ (wCO E a o gw gh (mmOf gw gh) C L k mk mf sf x f ++ (wRf E y gw gh th C.to C.wr k mk R M V rcm ++ wPool d gw rc mx))) := hD
  refine lwVX (As := []) (rest := []) (F := []) S hE (rd_wr (cX5_steps_ct l E (a 1) (a 2) (a 4) (a 10) (a 11) (a 12) (a 13) (a 14) (mmOf gw gh + 256) (mmOf gw gh) L.nu L.pl L.en L.ch k (a 0) (a 15) (a 16) (nI mk))) (cwV 0 hts (goodL gL_law_X5_steps) rfl rfl rfl (by decide +kernel) ⟨by decide, by decide⟩) hP0 hD0 hS hA [1, 11, 12, 13, 14, 15] [0, 2, 3, 4, 5, 6, 7, 8, 9, 10, 16, 17] rfl (by show List.Perm _ (List.range 18); decide) 6 rfl rfl rfl rfl hl.1 rfl (Nat.le_of_ble_eq_true rfl) dL_law_617 ⟨by omega, by omega⟩ (fun cs1 H1 locs1 hX1 hB1 hS1 => ?_)
  subst hX1
  have hPD1 : va_P E.1 vwCl ([] ++ (wCO E a o gw gh (mmOf gw gh) C L k mk mf sf x f ++ (wRf E y gw gh th C.to C.wr k mk R M V rcm ++ wPool d gw rc mx))) H1 ∧ va_D (fun q => s.heap.size ≤ q) ([] ++ (wCO E a o gw gh (mmOf gw gh) C L k mk mf sf x f ++ (wRf E y gw gh th C.to C.wr k mk R M V rcm ++ wPool d gw rc mx))) := hB1 (wCO E a o gw gh (mmOf gw gh) C L k mk mf sf x f) rfl rfl rfl
  have hP1 : va_P E.1 vwCl (wCO E a o gw gh (mmOf gw gh) C L k mk mf sf x f ++ (wRf E y gw gh th C.to C.wr k mk R M V rcm ++ wPool d gw rc mx)) H1 := hPD1.1
  have hD1 : va_D (fun q => s.heap.size ≤ q) (wCO E a o gw gh (mmOf gw gh) C L k mk mf sf x f ++ (wRf E y gw gh th C.to C.wr k mk R M V rcm ++ wPool d gw rc mx)) := hPD1.2
  refine lv_aload_n hx hb dL_law_620 rfl (lv_at hl 2 rfl) ?_
  refine lwVX (As := []) (rest := [.int (nI k)]) S hE (cX6_steps_ct l E H1.size (y 0) (y 1) (y 2) (y 3) (y 4) (y 5) (y 6) (y 7) (y 8) (y 9) (y 10) (y 11) (y 12) (y 13) (y 14) (y 15) (y 16) (y 17) (y 18) gw gh th C.to C.wr k mk) (cwV 0 hts (goodL gL_law_X6_steps) rfl rfl rfl (by decide +kernel) ⟨by decide, by decide⟩) hP1 hD1 hS1 hA [0] [1, 2, 3, 4, 5, 6, 7, 8, 9, 10, 11, 12, 13, 14, 15, 16, 17, 18] rfl (by show List.Perm _ (List.range 19); decide) 7 rfl rfl rfl rfl hl.1 rfl (Nat.le_of_ble_eq_true rfl) dL_law_621 ⟨by omega, by omega⟩ (fun cs2 H2 locs2 hX2 hB2 hS2 => ?_)
  subst hX2
  have hPD2 : va_P E.1 vwCl (wCO E a o gw gh (mmOf gw gh) C L k mk mf sf x f ++ (wRf E y gw gh 0 C.to C.wr k mk R M V rcm ++ wPool d gw rc mx)) H2 ∧ va_D (fun q => s.heap.size ≤ q) (wCO E a o gw gh (mmOf gw gh) C L k mk mf sf x f ++ (wRf E y gw gh 0 C.to C.wr k mk R M V rcm ++ wPool d gw rc mx)) := hB2 (wRf E y gw gh 0 C.to C.wr k mk R M V rcm) rfl rfl rfl
  have hP2 := hPD2.1
  have hD2 := hPD2.2
  refine lv_icmp_eq (tgt := 847) hx hb dL_law_624 (by decide) (fun c_9 => ?_) (fun c_9 => absurd (rfl) c_9)
  refine W.widen (k := cells + 3) (n := slots + 14) (by omega) (by omega) ?_
  exact kk _ _ _ ⟨C, L, k, mk, mf, sf, x, f, 0, R, M, V, rcm, mx, d, rc, B, ks, I.more, hmx, hmx12, hmf, hmn, hP2, hD2, hS2⟩ (lv_sub hl [0, 1, 2, 3, 4] rfl)
set_option maxHeartbeats 8000000 in
set_option maxRecDepth 100000 in
theorem law_run {p : Program} {l : Launch} {e : Env} {s : State} {m : MethodId} {below : List Frame} {meth : Method} {c : Code} {b Lx : Nat} {xs : Nat → Int32} {E : GE} {a y : Nat → Nat} {o gw gh j : Nat} {H : Heap} {locs : List Loc} {cells slots : Nat} {Q : State → Prop} {ls : Array Slot} (G : GG gw gh) (hLE : LE p l s m meth c b Lx xs E) (hj : 2 + 3 * j + 3 ≤ Lx) (hI : LI E a y o gw gh j s H locs) (hl : lv_has ls 7 (lvL b a y o (2 + 3 * j))) (hf : cells + 3 ≤ room_1.cells ∧ slots + 14 ≤ room_1.slots) (kk : ∀ (H1 : Heap) (locs1 : List Loc) (ls1 : Array Slot), LI E a y o gw gh (j + 1) s H1 locs1 → lv_has ls1 7 (lvL b a y o (2 + 3 * j)) → W p l e room_1 s m #[.ref b] below meth c H1 locs1 (cells + 3) (slots + 14) Q (F0 m 847 ls1 [])) : W p l e room_1 s m #[.ref b] below meth c H locs cells slots Q (F0 m 522 ls []) := by
  obtain ⟨hx, hb, hml, hown, hts, hE, hX, hbl, hT, hl0, hLx⟩ := hLE
  obtain ⟨C, L, k, mk, mf, sf, x, f, th, R, M, V, rcm, mx, d, rc, B, ks, I, hmx, hmx12, hmf, hmn, hP, hD, hS⟩ := hI
  have hA : ∀ q : Nat, s.heap.size ≤ q → (fun q => s.heap.size ≤ q) q := fun q h => h
  have hmm : mmOf gw gh ≤ 176 := mm_le G.w8 G.h8
  have hj5 : j ≤ 511 := by omega
  have hkn := I.kn (by omega)
  have S : CallFix p m c cL_law 7 s #[.ref b] (wsL_law ++ tW) RL := ⟨hx, hb, hml, hown, hts⟩
  refine lv_aload_n hx hb dL_law_522 rfl (lv_at hl 3 rfl) ?_
  obtain ⟨C', L', k', t', R', M', B', e1, e2, m1, m2, m3, m4, ok1, ok2, I1⟩ := I.run G hmm (by omega)
  have hP0 : va_P E.1 vwCl ([] ++ (wCO E a o gw gh (mmOf gw gh) C L k mk mf sf x f ++ (wRf E y gw gh th C.to C.wr k mk R M V rcm ++ wPool d gw rc mx))) H := hP
  have hD0 : va_D (fun q => s.heap.size ≤ q) ([] ++ (wCO E a o gw gh (mmOf gw gh) C L k mk mf sf x f ++ (wRf E y gw gh th C.to C.wr k mk R M V rcm ++ wPool d gw rc mx))) := hD
  refine lwVX (As := []) (rest := []) (F := []) S hE (cX5_run_ct l E H.size (a 1) (a 2) (a 3) (a 4) (a 5) (a 6) (a 7) (a 8) (a 9) (a 10) (a 11) (a 12) (a 13) (a 14) gw gh (nI ((gw - 1) * gh + gw * (gh - 1))) (gCe gw gh) (gAr gw gh) (gAb gw gh) C.onr C.onb C.ofr C.ofb C.mu C.ba C.bl C.wh C.to C.wr (x 4) (x 5) (x 6) (x 7) (x 0) (x 1) (x 2) (x 3) (x 8) (x 9) (mmOf gw gh + 256) (mmOf gw gh) L.nu L.pl L.en L.ch k (B k) (a 0) (a 15) (a 16) (nI mk) (by omega) (by omega) (by have := G.N; omega) G.w8 G.h8 G.w1 G.h1 (I.log.start (Nat.le_refl _)) hkn.1 ok1) (cwV 0 hts (goodL gL_law_X5_run) rfl rfl rfl (by decide +kernel) ⟨by decide, by decide⟩) hP0 hD0 hS hA [1, 2, 3, 4, 5, 6, 7, 8, 9, 10, 11, 12, 13, 14, 15] [0, 16, 17] rfl (by show List.Perm _ (List.range 18); decide) 6 rfl rfl rfl rfl hl.1 rfl (Nat.le_of_ble_eq_true rfl) dL_law_523 ⟨by omega, by omega⟩ (fun cs1 H1 locs1 hX1 hB1 hS1 => ?_)
  obtain ⟨opr, opb, nfr, nfb, so, tw, one, ne, spr, spb, hX1⟩ := hX1
  rw [e1] at hX1
  obtain ⟨onr1, onb1, ofr1, ofb1, mu1, ba1, bl1, wh1, to1, wr1⟩ := C'
  dsimp only [CSt.mu, CSt.ba, CSt.to] at m1 m2 m3
  subst m1; subst m2; subst m3
  subst hX1
  have hPD1 : va_P E.1 vwCl ([] ++ (wCO E a o gw gh (mmOf gw gh) (onr1, onb1, ofr1, ofb1, C.mu, C.ba, bl1, wh1, C.to, wr1) L' k' mk mf sf (fun i => if i = 0 then so else if i = 1 then tw else if i = 2 then one else if i = 3 then ne else if i = 4 then opr else if i = 5 then opb else if i = 6 then nfr else if i = 7 then nfb else if i = 8 then spr else spb) f ++ (wRf E y gw gh th C.to C.wr k mk R M V rcm ++ wPool d gw rc mx))) H1 ∧ va_D (fun q => s.heap.size ≤ q) ([] ++ (wCO E a o gw gh (mmOf gw gh) (onr1, onb1, ofr1, ofb1, C.mu, C.ba, bl1, wh1, C.to, wr1) L' k' mk mf sf (fun i => if i = 0 then so else if i = 1 then tw else if i = 2 then one else if i = 3 then ne else if i = 4 then opr else if i = 5 then opb else if i = 6 then nfr else if i = 7 then nfb else if i = 8 then spr else spb) f ++ (wRf E y gw gh th C.to C.wr k mk R M V rcm ++ wPool d gw rc mx))) := hB1 (wCO E a o gw gh (mmOf gw gh) (onr1, onb1, ofr1, ofb1, C.mu, C.ba, bl1, wh1, C.to, wr1) L' k' mk mf sf (fun i => if i = 0 then so else if i = 1 then tw else if i = 2 then one else if i = 3 then ne else if i = 4 then opr else if i = 5 then opb else if i = 6 then nfr else if i = 7 then nfb else if i = 8 then spr else spb) f) rfl rfl rfl
  have hP1 : va_P E.1 vwCl (wCO E a o gw gh (mmOf gw gh) (onr1, onb1, ofr1, ofb1, C.mu, C.ba, bl1, wh1, C.to, wr1) L' k' mk mf sf (fun i => if i = 0 then so else if i = 1 then tw else if i = 2 then one else if i = 3 then ne else if i = 4 then opr else if i = 5 then opb else if i = 6 then nfr else if i = 7 then nfb else if i = 8 then spr else spb) f ++ (wRf E y gw gh th C.to C.wr k mk R M V rcm ++ wPool d gw rc mx)) H1 := hPD1.1
  have hD1 : va_D (fun q => s.heap.size ≤ q) (wCO E a o gw gh (mmOf gw gh) (onr1, onb1, ofr1, ofb1, C.mu, C.ba, bl1, wh1, C.to, wr1) L' k' mk mf sf (fun i => if i = 0 then so else if i = 1 then tw else if i = 2 then one else if i = 3 then ne else if i = 4 then opr else if i = 5 then opb else if i = 6 then nfr else if i = 7 then nfb else if i = 8 then spr else spb) f ++ (wRf E y gw gh th C.to C.wr k mk R M V rcm ++ wPool d gw rc mx)) := hPD1.2
  refine lv_aload_n hx hb dL_law_526 rfl (lv_at hl 2 rfl) ?_
  rw [e1]
  refine lwVX (As := []) (rest := [.int (nI k' - nI k)]) S hE (cX6_run_ct l E H1.size (y 0) (y 1) (y 2) (y 3) (y 4) (y 5) (y 6) (y 7) (y 8) (y 9) (y 10) (y 11) (y 12) (y 13) (y 14) (y 15) (y 16) (y 17) (y 18) gw gh th C.to C.wr k mk R.ed R.du R.sh R.eb R.sb M.nu M.pl M.bg M.ch rcm (B k) (mmOf gw gh + 256 - k + 1) G.w1 G.h1 G.w8 G.h8 (I.log.bg k (Nat.le_refl _)) ok2) (cwV 0 hts (goodL gL_law_X6_run) rfl rfl rfl (by decide +kernel) ⟨by decide, by decide⟩) hP1 hD1 hS1 hA [0, 1, 2, 3, 4, 5, 6, 7, 8, 9, 18] [10, 11, 12, 13, 14, 15, 16, 17] rfl (by show List.Perm _ (List.range 19); decide) 7 rfl rfl rfl rfl hl.1 rfl (Nat.le_of_ble_eq_true rfl) dL_law_527 ⟨by omega, by omega⟩ (fun cs2 H2 locs2 hX2 hB2 hS2 => ?_)
  obtain ⟨rcm2, hX2⟩ := hX2
  rw [e2] at hX2
  subst hX2
  have hPD2 : va_P E.1 vwCl (wCO E a o gw gh (mmOf gw gh) (onr1, onb1, ofr1, ofb1, C.mu, C.ba, bl1, wh1, C.to, wr1) L' k' mk mf sf (fun i => if i = 0 then so else if i = 1 then tw else if i = 2 then one else if i = 3 then ne else if i = 4 then opr else if i = 5 then opb else if i = 6 then nfr else if i = 7 then nfb else if i = 8 then spr else spb) f ++ (wRf E y gw gh 0 C.to wr1 k' mk (R'.ed, R.du, R'.sh, R'.eb, R'.sb) M' V rcm2 ++ wPool d gw rc mx)) H2 ∧ va_D (fun q => s.heap.size ≤ q) (wCO E a o gw gh (mmOf gw gh) (onr1, onb1, ofr1, ofb1, C.mu, C.ba, bl1, wh1, C.to, wr1) L' k' mk mf sf (fun i => if i = 0 then so else if i = 1 then tw else if i = 2 then one else if i = 3 then ne else if i = 4 then opr else if i = 5 then opb else if i = 6 then nfr else if i = 7 then nfb else if i = 8 then spr else spb) f ++ (wRf E y gw gh 0 C.to wr1 k' mk (R'.ed, R.du, R'.sh, R'.eb, R'.sb) M' V rcm2 ++ wPool d gw rc mx)) := hB2 (wRf E y gw gh 0 C.to wr1 k' mk (R'.ed, R.du, R'.sh, R'.eb, R'.sb) M' V rcm2) rfl rfl rfl
  have hP2 := hPD2.1
  have hD2 := hPD2.2
  rw [e2]
  refine lv_icmp_eq (tgt := 847) hx hb dL_law_530 (by decide) (fun c_9 => ?_) (fun c_9 => absurd (rfl) c_9)
  rw [show (R'.ed, R.du, R'.sh, R'.eb, R'.sb) = R' by rw [← m4]] at hP2 hD2
  refine W.widen (k := cells + 3) (n := slots + 14) (by omega) (by omega) ?_
  exact kk _ _ _ ⟨(onr1, onb1, ofr1, ofb1, C.mu, C.ba, bl1, wh1, C.to, wr1), L', k', mk, mf, sf, _, f, 0, R', M', V, rcm2, mx, d, rc, B', ks, I1, hmx, hmx12, hmf, hmn, hP2, hD2, hS2⟩ (lv_sub hl [0, 1, 2, 3, 4] rfl)
