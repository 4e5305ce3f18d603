/-! THE LAW'S CASES OF MARKS. -/
set_option maxHeartbeats 8000000 in
set_option maxRecDepth 100000 in
theorem law_mark {p : Program} {l : Launch} {e : Env} {s : State} {m : MethodId} {below : List Frame} {meth : Method} {c : Code} {b Lx : Nat} {xs : Nat → Int32} {E : GE} {a y : Nat → Nat} {o gw gh j : Nat} {H : Heap} {locs : List Loc} {cells slots : Nat} {Q : State → Prop} {ls : Array Slot} (G : GG gw gh) (hLE : LE p l s m meth c b Lx xs E) (hj : 2 + 3 * j + 3 ≤ Lx) (hI : LI E a y o gw gh j s H locs) (hl : lv_has ls 7 (lvL b a y o (2 + 3 * j))) (hf : cells + 3 ≤ room_1.cells ∧ slots + 14 ≤ room_1.slots) (kk : ∀ (H1 : Heap) (locs1 : List Loc) (ls1 : Array Slot), LI E a y o gw gh (j + 1) s H1 locs1 → lv_has ls1 7 (lvL b a y o (2 + 3 * j)) → W p l e room_1 s m #[.ref b] below meth c H1 locs1 (cells + 3) (slots + 14) Q (F0 m 847 ls1 [])) : W p l e room_1 s m #[.ref b] below meth c H locs cells slots Q (F0 m 809 ls []) := by
  obtain ⟨hx, hb, hml, hown, hts, hE, hX, hbl, hT, hl0, hLx⟩ := hLE
  obtain ⟨C, L, k, mk, mf, sf, x, f, th, R, M, V, rcm, mx, d, rc, B, ks, I, hmx, hmx12, hmf, hmn, hP, hD, hS⟩ := hI
  have hA : ∀ q : Nat, s.heap.size ≤ q → (fun q => s.heap.size ≤ q) q := fun q h => h
  have hmm : mmOf gw gh ≤ 176 := mm_le G.w8 G.h8
  have hj5 : j ≤ 511 := by omega
  have hkn := I.kn (by omega)
  have S : CallFix p m c cL_law 7 s #[.ref b] (wsL_law ++ tW) RL := ⟨hx, hb, hml, hown, hts⟩
  refine lv_aload_n hx hb dL_law_809 rfl (lv_at hl 3 rfl) ?_
  by_cases h12 : mk = 12
  · skip
    have hP0 : va_P E.1 vwCl ([] ++ (wCO E a o gw gh (mmOf gw gh) C L k mk mf sf x f ++ (wRf E y gw gh th C.to C.wr k mk R M V rcm ++ wPool d gw rc mx))) H := hP
    have hD0 : va_D (fun q => s.heap.size ≤ q) ([] ++ (wCO E a o gw gh (mmOf gw gh) C L k mk mf sf x f ++ (wRf E y gw gh th C.to C.wr k mk R M V rcm ++ wPool d gw rc mx))) := hD
    refine lwVX (As := []) (rest := []) (F := []) S hE (cX5_mark12_ct l E H.size (a 1) (a 2) (a 4) (a 10) (a 0) (a 15) (a 16) mk h12) (cwV 0 hts (goodL gL_law_X5_mark) rfl rfl rfl (by decide +kernel) ⟨by decide, by decide⟩) hP0 hD0 hS hA [1] [0, 2, 3, 4, 5, 6, 7, 8, 9, 10, 11, 12, 13, 14, 15, 16, 17] rfl (by show List.Perm _ (List.range 18); decide) 6 rfl rfl rfl rfl hl.1 rfl (Nat.le_of_ble_eq_true rfl) dL_law_810 ⟨by omega, by omega⟩ (fun cs1 H1 locs1 hX1 hB1 hS1 => ?_)
    subst hX1
    have hPD1 : va_P E.1 vwCl ([] ++ (wCO E a o gw gh (mmOf gw gh) C L k mk mf sf x f ++ (wRf E y gw gh th C.to C.wr k mk R M V rcm ++ wPool d gw rc mx))) H1 ∧ va_D (fun q => s.heap.size ≤ q) ([] ++ (wCO E a o gw gh (mmOf gw gh) C L k mk mf sf x f ++ (wRf E y gw gh th C.to C.wr k mk R M V rcm ++ wPool d gw rc mx))) := hB1 (wCO E a o gw gh (mmOf gw gh) C L k mk mf sf x f) rfl rfl rfl
    have hP1 : va_P E.1 vwCl (wCO E a o gw gh (mmOf gw gh) C L k mk mf sf x f ++ (wRf E y gw gh th C.to C.wr k mk R M V rcm ++ wPool d gw rc mx)) H1 := hPD1.1
    have hD1 : va_D (fun q => s.heap.size ≤ q) (wCO E a o gw gh (mmOf gw gh) C L k mk mf sf x f ++ (wRf E y gw gh th C.to C.wr k mk R M V rcm ++ wPool d gw rc mx)) := hPD1.2
    refine lv_aload_n hx hb dL_law_813 rfl (lv_at hl 2 rfl) ?_
    refine lwVX (As := []) (rest := [.int (-1)]) S hE (cX6_mark12_ct l E H1.size (y 0) (y 1) (y 2) (y 3) (y 4) (y 5) (y 6) (y 7) (y 8) (y 9) (y 10) (y 11) (y 12) (y 13) (y 14) (y 15) (y 16) (y 17) (y 18) gw gh th C.to C.wr k mk h12) (cwV 0 hts (goodL gL_law_X6_mark) rfl rfl rfl (by decide +kernel) ⟨by decide, by decide⟩) hP1 hD1 hS1 hA [0] [1, 2, 3, 4, 5, 6, 7, 8, 9, 10, 11, 12, 13, 14, 15, 16, 17, 18] rfl (by show List.Perm _ (List.range 19); decide) 7 rfl rfl rfl rfl hl.1 rfl (Nat.le_of_ble_eq_true rfl) dL_law_814 ⟨by omega, by omega⟩ (fun cs2 H2 locs2 hX2 hB2 hS2 => ?_)
    subst hX2
    have hPD2 : va_P E.1 vwCl (wCO E a o gw gh (mmOf gw gh) C L k mk mf sf x f ++ (wRf E y gw gh 0 C.to C.wr k mk R M V rcm ++ wPool d gw rc mx)) H2 ∧ va_D (fun q => s.heap.size ≤ q) (wCO E a o gw gh (mmOf gw gh) C L k mk mf sf x f ++ (wRf E y gw gh 0 C.to C.wr k mk R M V rcm ++ wPool d gw rc mx)) := hB2 (wRf E y gw gh 0 C.to C.wr k mk R M V rcm) rfl rfl rfl
    have hP2 := hPD2.1
    have hD2 := hPD2.2
    refine lv_icmp_eq (tgt := 847) hx hb dL_law_817 (by decide) (fun c_9 => ?_) (fun c_9 => absurd (rfl) c_9)
    refine W.widen (k := cells + 3) (n := slots + 14) (by omega) (by omega) ?_
    exact kk _ _ _ ⟨C, L, k, mk, mf, sf, x, f, 0, R, M, V, rcm, mx, d, rc, B, ks, I.more, hmx, hmx12, hmf, hmn, hP2, hD2, hS2⟩ (lv_sub hl [0, 1, 2, 3, 4] rfl)
  · have hmk : mk < 12 := by omega
    by_cases hm : mk = mx
    · skip
      subst hm
      have hnone : mf mk = none := hmn mk (Nat.le_refl _)
      refine lwVN (As := []) (rest := []) S hE (cX5_markN_ct l E H.size (a 1) (a 2) (a 3) (a 4) (a 5) (a 6) (a 10) (a 11) (a 12) (a 13) (a 14) gw gh (nI ((gw - 1) * gh + gw * (gh - 1))) (gCe gw gh) C.onr C.onb C.ofr C.ofb C.mu C.ba C.bl C.wh C.to C.wr k (a 0) (a 15) (a 16) mk mf sf hmk hnone) (cwV 0 hts (goodL gL_law_X5_mark) rfl rfl rfl (by decide +kernel) ⟨by decide, by decide⟩) hP hD hS hA [1, 3, 5, 6, 7, 11, 16, 17] [0, 2, 4, 8, 9, 10, 12, 13, 14, 15] rfl (by show List.Perm _ (List.range 18); decide) 6 rfl rfl rfl rfl hl.1 rfl (Nat.le_of_ble_eq_true rfl) dL_law_810 ⟨by omega, by omega⟩ (fun cs1 H1 locs1 hX1 hB1 hS1 => ?_)
      obtain ⟨u, u1, u2, rfl⟩ := hX1
      have ep : (wRf E y gw gh th C.to C.wr k mk R M V rcm ++ wPool d gw rc mk) ++ wRec (u, u1, u2) gw C = wRf E y gw gh th C.to C.wr k mk R M V rcm ++ wPool (fun i => if i = mk then (u, u1, u2) else d i) gw (fun i => if i = mk then C else rc i) (mk + 1) := by rw [List.append_assoc, pool_succ, if_pos rfl, if_pos rfl, pool_congr (d := d) (rc := rc) (fun i hi => ⟨if_neg (by omega), if_neg (by omega)⟩)]
      have hPD1 := hB1 (wCO E a o gw gh (mmOf gw gh) C L k (mk + 1) (va_up mf mk (some u)) (upd sf mk (nI k)) x f) ([1, 3, 5, 6, 7, 11, 16, 17].filterMap (fun i => (wCO E a o gw gh (mmOf gw gh) C L k (mk + 1) (va_up mf mk (some u)) (upd sf mk (nI k)) x f)[i]?)) (wRec (u, u1, u2) gw C) rfl rfl rfl rfl
      rw [ep] at hPD1
      have hP1 : va_P E.1 vwCl (wCO E a o gw gh (mmOf gw gh) C L k (mk + 1) (va_up mf mk (some u)) (upd sf mk (nI k)) x f ++ (wRf E y gw gh th C.to C.wr k mk R M V rcm ++ wPool (fun i => if i = mk then (u, u1, u2) else d i) gw (fun i => if i = mk then C else rc i) (mk + 1))) H1 := hPD1.1
      have hD1 : va_D (fun q => s.heap.size ≤ q) (wCO E a o gw gh (mmOf gw gh) C L k (mk + 1) (va_up mf mk (some u)) (upd sf mk (nI k)) x f ++ (wRf E y gw gh th C.to C.wr k mk R M V rcm ++ wPool (fun i => if i = mk then (u, u1, u2) else d i) gw (fun i => if i = mk then C else rc i) (mk + 1))) := hPD1.2
      refine lv_aload_n hx hb dL_law_813 rfl (lv_at hl 2 rfl) ?_
      refine lwVX (As := []) (rest := [.int (nI mk)]) S hE (cX6_mark_ct l E H1.size (y 0) (y 1) (y 2) (y 3) (y 4) (y 5) (y 6) (y 7) (y 8) (y 9) (y 10) (y 11) (y 12) (y 13) (y 14) (y 15) (y 16) (y 17) (y 18) gw gh th C.to C.wr k mk R.ed R.du R.sh R.eb R.sb M.nu M.pl M.bg M.ch V.v1 V.v2 V.v3 V.v4 V.v5 V.v6 V.v7 V.v8 hmk) (cwV 0 hts (goodL gL_law_X6_mark) rfl rfl rfl (by decide +kernel) ⟨by decide, by decide⟩) hP1 hD1 hS1 hA [0, 1, 2, 3, 4, 5, 6, 7, 8, 9, 10, 11, 12, 13, 14, 15, 16, 17] [18] rfl (by show List.Perm _ (List.range 19); decide) 7 rfl rfl rfl rfl hl.1 rfl (Nat.le_of_ble_eq_true rfl) dL_law_814 ⟨by omega, by omega⟩ (fun cs2 H2 locs2 hX2 hB2 hS2 => ?_)
      subst hX2
      have hPD2 : va_P E.1 vwCl (wCO E a o gw gh (mmOf gw gh) C L k (mk + 1) (va_up mf mk (some u)) (upd sf mk (nI k)) x f ++ (wRf E y gw gh 0 C.to C.wr k (mk + 1) R M (cp V.v1 R.ed (128 * mk) 128, cp V.v2 R.du (64 * mk) 64, cp V.v3 R.sh (64 * mk) 64, cp V.v4 R.eb (128 * mk) 128, cp V.v5 R.sb (64 * mk) 64, upd V.v6 mk C.to, upd V.v7 mk (nI k), upd V.v8 mk (b2i C.wr)) rcm ++ wPool (fun i => if i = mk then (u, u1, u2) else d i) gw (fun i => if i = mk then C else rc i) (mk + 1))) H2 ∧ va_D (fun q => s.heap.size ≤ q) (wCO E a o gw gh (mmOf gw gh) C L k (mk + 1) (va_up mf mk (some u)) (upd sf mk (nI k)) x f ++ (wRf E y gw gh 0 C.to C.wr k (mk + 1) R M (cp V.v1 R.ed (128 * mk) 128, cp V.v2 R.du (64 * mk) 64, cp V.v3 R.sh (64 * mk) 64, cp V.v4 R.eb (128 * mk) 128, cp V.v5 R.sb (64 * mk) 64, upd V.v6 mk C.to, upd V.v7 mk (nI k), upd V.v8 mk (b2i C.wr)) rcm ++ wPool (fun i => if i = mk then (u, u1, u2) else d i) gw (fun i => if i = mk then C else rc i) (mk + 1))) := hB2 (wRf E y gw gh 0 C.to C.wr k (mk + 1) R M (cp V.v1 R.ed (128 * mk) 128, cp V.v2 R.du (64 * mk) 64, cp V.v3 R.sh (64 * mk) 64, cp V.v4 R.eb (128 * mk) 128, cp V.v5 R.sb (64 * mk) 64, upd V.v6 mk C.to, upd V.v7 mk (nI k), upd V.v8 mk (b2i C.wr)) rcm) rfl rfl rfl
      have hP2 := hPD2.1
      have hD2 := hPD2.2
      refine lv_icmp_eq (tgt := 847) hx hb dL_law_817 (by decide) (fun c_9 => ?_) (fun c_9 => absurd (rfl) c_9)
      have hup : ∀ i, va_up mf mk (some u) i = if i = mk then some u else mf i := fun i => by unfold va_up; rfl
      refine W.widen (k := cells + 3) (n := slots + 14) (by omega) (by omega) ?_
      exact kk _ _ _ ⟨C, L, k, mk + 1, va_up mf mk (some u), upd sf mk (nI k), x, f, 0, R, M, _, rcm, mk + 1, _, _, B, _, I.mark G, Nat.le_refl _, by omega, fun i hi => by rw [hup]; by_cases q : i = mk; rw [if_pos q, if_pos q]; rw [if_neg q, if_neg q]; exact hmf i (by omega), fun i hi => by rw [hup, if_neg (by omega)]; exact hmn i (by omega), hP2, hD2, hS2⟩ (lv_sub hl [0, 1, 2, 3, 4] rfl)
    · skip
      have hlt : mk < mx := by omega
      have hsome : mf mk = some (d mk).1 := hmf mk hlt
      have hP : va_P E.1 vwCl (wCO E a o gw gh (mmOf gw gh) C L k mk mf sf x f ++ (wRf E y gw gh th C.to C.wr k mk R M V rcm ++ (wPool d gw rc mk ++ (wRec (d mk) gw (rc mk) ++ wHi d gw rc mk mx)))) H := by rw [← pool_split d gw rc hlt]; exact hP
      have hD : va_D (fun q => s.heap.size ≤ q) (wCO E a o gw gh (mmOf gw gh) C L k mk mf sf x f ++ (wRf E y gw gh th C.to C.wr k mk R M V rcm ++ (wPool d gw rc mk ++ (wRec (d mk) gw (rc mk) ++ wHi d gw rc mk mx)))) := by rw [← pool_split d gw rc hlt]; exact hD
      refine lwVR (mc := 0) (ms := 0) (cC := ([1, 5, 6, 7, 11, 16, 17].filterMap (fun i => (wCO E a o gw gh (mmOf gw gh) C L k mk mf sf x f)[i]?))) (rec := wRec (d mk) gw (rc mk)) (As := []) (rest := []) S hE (cX5_markO_ct l E H.size (a 1) (a 2) (a 4) (a 5) (a 6) (a 10) (a 11) (a 12) (a 13) (a 14) gw C.onr C.onb C.ofr C.ofb C.mu C.ba C.bl C.wh C.to C.wr k (a 0) (a 15) (a 16) mk mf sf (d mk).1 (d mk).2.1 (d mk).2.2 (rc mk).mu (rc mk).ba (rc mk).bl (rc mk).wh (rc mk).to (rc mk).wr (rc mk).onr (rc mk).onb (rc mk).ofr (rc mk).ofb hmk hsome) (cwV 0 hts (goodL gL_law_X5_mark) rfl rfl rfl (by decide +kernel) ⟨by decide, by decide⟩) hP hD hS hA [1, 5, 6, 7, 11, 16, 17] [0, 2, 3, 4, 8, 9, 10, 12, 13, 14, 15] rfl (by show List.Perm _ (List.range 18); decide) 6 rfl rfl rfl rfl hl.1 rfl (Nat.le_of_ble_eq_true rfl) dL_law_810 ⟨by omega, by omega⟩ (fun cs1 H1 locs1 hX1 hB1 hS1 => ?_)
      subst hX1
      have ep : wPool d gw rc mk ++ (wRec (d mk) gw C ++ wHi d gw rc mk mx) = wPool d gw (fun i => if i = mk then C else rc i) mx := by rw [pool_split d gw (fun i => if i = mk then C else rc i) hlt, if_pos rfl, pool_congr (d := d) (rc := rc) (fun i hi => ⟨rfl, if_neg (by omega)⟩), hi_congr (rc := rc) (fun j hj => if_neg (by omega))]
      have hPD1 := hB1 (wCO E a o gw gh (mmOf gw gh) C L k (mk + 1) mf (upd sf mk (nI k)) x f) ([1, 5, 6, 7, 11, 16, 17].filterMap (fun i => (wCO E a o gw gh (mmOf gw gh) C L k (mk + 1) mf (upd sf mk (nI k)) x f)[i]?)) (wRec (d mk) gw C) rfl rfl rfl rfl
      rw [ep] at hPD1
      have hP1 : va_P E.1 vwCl (wCO E a o gw gh (mmOf gw gh) C L k (mk + 1) mf (upd sf mk (nI k)) x f ++ (wRf E y gw gh th C.to C.wr k mk R M V rcm ++ wPool d gw (fun i => if i = mk then C else rc i) mx)) H1 := hPD1.1
      have hD1 : va_D (fun q => s.heap.size ≤ q) (wCO E a o gw gh (mmOf gw gh) C L k (mk + 1) mf (upd sf mk (nI k)) x f ++ (wRf E y gw gh th C.to C.wr k mk R M V rcm ++ wPool d gw (fun i => if i = mk then C else rc i) mx)) := hPD1.2
      refine lv_aload_n hx hb dL_law_813 rfl (lv_at hl 2 rfl) ?_
      refine lwVX (As := []) (rest := [.int (nI mk)]) S hE (cX6_mark_ct l E H1.size (y 0) (y 1) (y 2) (y 3) (y 4) (y 5) (y 6) (y 7) (y 8) (y 9) (y 10) (y 11) (y 12) (y 13) (y 14) (y 15) (y 16) (y 17) (y 18) gw gh th C.to C.wr k mk R.ed R.du R.sh R.eb R.sb M.nu M.pl M.bg M.ch V.v1 V.v2 V.v3 V.v4 V.v5 V.v6 V.v7 V.v8 hmk) (cwV 0 hts (goodL gL_law_X6_mark) rfl rfl rfl (by decide +kernel) ⟨by decide, by decide⟩) hP1 hD1 hS1 hA [0, 1, 2, 3, 4, 5, 6, 7, 8, 9, 10, 11, 12, 13, 14, 15, 16, 17] [18] rfl (by show List.Perm _ (List.range 19); decide) 7 rfl rfl rfl rfl hl.1 rfl (Nat.le_of_ble_eq_true rfl) dL_law_814 ⟨by omega, by omega⟩ (fun cs2 H2 locs2 hX2 hB2 hS2 => ?_)
      subst hX2
      have hPD2 : va_P E.1 vwCl (wCO E a o gw gh (mmOf gw gh) C L k (mk + 1) mf (upd sf mk (nI k)) x f ++ (wRf E y gw gh 0 C.to C.wr k (mk + 1) R M (cp V.v1 R.ed (128 * mk) 128, cp V.v2 R.du (64 * mk) 64, cp V.v3 R.sh (64 * mk) 64, cp V.v4 R.eb (128 * mk) 128, cp V.v5 R.sb (64 * mk) 64, upd V.v6 mk C.to, upd V.v7 mk (nI k), upd V.v8 mk (b2i C.wr)) rcm ++ wPool d gw (fun i => if i = mk then C else rc i) mx)) H2 ∧ va_D (fun q => s.heap.size ≤ q) (wCO E a o gw gh (mmOf gw gh) C L k (mk + 1) mf (upd sf mk (nI k)) x f ++ (wRf E y gw gh 0 C.to C.wr k (mk + 1) R M (cp V.v1 R.ed (128 * mk) 128, cp V.v2 R.du (64 * mk) 64, cp V.v3 R.sh (64 * mk) 64, cp V.v4 R.eb (128 * mk) 128, cp V.v5 R.sb (64 * mk) 64, upd V.v6 mk C.to, upd V.v7 mk (nI k), upd V.v8 mk (b2i C.wr)) rcm ++ wPool d gw (fun i => if i = mk then C else rc i) mx)) := hB2 (wRf E y gw gh 0 C.to C.wr k (mk + 1) R M (cp V.v1 R.ed (128 * mk) 128, cp V.v2 R.du (64 * mk) 64, cp V.v3 R.sh (64 * mk) 64, cp V.v4 R.eb (128 * mk) 128, cp V.v5 R.sb (64 * mk) 64, upd V.v6 mk C.to, upd V.v7 mk (nI k), upd V.v8 mk (b2i C.wr)) rcm) rfl rfl rfl
      have hP2 := hPD2.1
      have hD2 := hPD2.2
      refine lv_icmp_eq (tgt := 847) hx hb dL_law_817 (by decide) (fun c_9 => ?_) (fun c_9 => absurd (rfl) c_9)
      refine W.widen (k := cells + 3) (n := slots + 14) (by omega) (by omega) ?_
      exact kk _ _ _ ⟨C, L, k, mk + 1, mf, upd sf mk (nI k), x, f, 0, R, M, _, rcm, mx, _, _, B, _, I.mark G, by omega, hmx12, hmf, hmn, hP2, hD2, hS2⟩ (lv_sub hl [0, 1, 2, 3, 4] rfl)
set_option maxHeartbeats 8000000 in
set_option maxRecDepth 100000 in
theorem law_back {p : Program} {l : Launch} {e : Env} {s : State} {m : MethodId} {below : List Frame} {meth : Method} {c : Code} {b Lx : Nat} {xs : Nat → Int32} {E : GE} {a y : Nat → Nat} {o gw gh j : Nat} {H : Heap} {locs : List Loc} {cells slots : Nat} {Q : State → Prop} {ls : Array Slot} (G : GG gw gh) (hLE : LE p l s m meth c b Lx xs E) (hj : 2 + 3 * j + 3 ≤ Lx) (hI : LI E a y o gw gh j s H locs) (hl : lv_has ls 7 (lvL b a y o (2 + 3 * j))) (hf : cells + 3 ≤ room_1.cells ∧ slots + 14 ≤ room_1.slots) (kk : ∀ (H1 : Heap) (locs1 : List Loc) (ls1 : Array Slot), LI E a y o gw gh (j + 1) s H1 locs1 → lv_has ls1 7 (lvL b a y o (2 + 3 * j)) → W p l e room_1 s m #[.ref b] below meth c H1 locs1 (cells + 3) (slots + 14) Q (F0 m 847 ls1 [])) : W p l e room_1 s m #[.ref b] below meth c H locs cells slots Q (F0 m 822 ls []) := by
  obtain ⟨hx, hb, hml, hown, hts, hE, hX, hbl, hT, hl0, hLx⟩ := hLE
  obtain ⟨C, L, k, mk, mf, sf, x, f, th, R, M, V, rcm, mx, d, rc, B, ks, I, hmx, hmx12, hmf, hmn, hP, hD, hS⟩ := hI
  have hA : ∀ q : Nat, s.heap.size ≤ q → (fun q => s.heap.size ≤ q) q := fun q h => h
  have hmm : mmOf gw gh ≤ 176 := mm_le G.w8 G.h8
  have hj5 : j ≤ 511 := by omega
  have hkn := I.kn (by omega)
  have S : CallFix p m c cL_law 7 s #[.ref b] (wsL_law ++ tW) RL := ⟨hx, hb, hml, hown, hts⟩
  refine lv_aload_n hx hb dL_law_822 rfl (lv_at hl 3 rfl) ?_
  refine sc_arg (n := 1) (i := 2 + 3 * j) hx hb hX hbl hS hl (by simp) (by simp) (by omega) (by omega) rfl dL_law_823 dL_law_824 dL_law_826 dL_law_827 dL_law_828 ?_
  rcases (by rcases pk_ix (xs (2 + 3 * j + 1)) (n := mk) (by omega) with h | h | h; exact Or.inl (Or.inl h); exact Or.inl (Or.inr h); exact Or.inr h : ((xs (2 + 3 * j + 1)) < 0 ∨ nI mk ≤ (xs (2 + 3 * j + 1))) ∨ ∃ jj : Nat, jj < mk ∧ (xs (2 + 3 * j + 1)) = nI jj) with ha | ⟨jj, hjj, hav⟩
  · skip
    have hP0 : va_P E.1 vwCl ([] ++ (wCO E a o gw gh (mmOf gw gh) C L k mk mf sf x f ++ (wRf E y gw gh th C.to C.wr k mk R M V rcm ++ wPool d gw rc mx))) H := hP
    have hD0 : va_D (fun q => s.heap.size ≤ q) ([] ++ (wCO E a o gw gh (mmOf gw gh) C L k mk mf sf x f ++ (wRf E y gw gh th C.to C.wr k mk R M V rcm ++ wPool d gw rc mx))) := hD
    refine lwVX (As := [.int (xs (2 + 3 * j + 1))]) (rest := []) (F := []) S hE (cX5_back0_ct l E H.size (a 1) (a 2) (a 4) (a 10) (a 0) (a 15) (a 16) mk (xs (2 + 3 * j + 1)) ha) (cwV 1 hts (goodL gL_law_X5_back) rfl rfl rfl (by decide +kernel) ⟨by decide, by decide⟩) hP0 hD0 hS hA [1] [0, 2, 3, 4, 5, 6, 7, 8, 9, 10, 11, 12, 13, 14, 15, 16, 17] rfl (by show List.Perm _ (List.range 18); decide) 6 rfl rfl rfl rfl hl.1 rfl (Nat.le_of_ble_eq_true rfl) dL_law_829 ⟨by omega, by omega⟩ (fun cs1 H1 locs1 hX1 hB1 hS1 => ?_)
    subst hX1
    have hPD1 : va_P E.1 vwCl ([] ++ (wCO E a o gw gh (mmOf gw gh) C L k mk mf sf x f ++ (wRf E y gw gh th C.to C.wr k mk R M V rcm ++ wPool d gw rc mx))) H1 ∧ va_D (fun q => s.heap.size ≤ q) ([] ++ (wCO E a o gw gh (mmOf gw gh) C L k mk mf sf x f ++ (wRf E y gw gh th C.to C.wr k mk R M V rcm ++ wPool d gw rc mx))) := hB1 (wCO E a o gw gh (mmOf gw gh) C L k mk mf sf x f) rfl rfl rfl
    have hP1 : va_P E.1 vwCl (wCO E a o gw gh (mmOf gw gh) C L k mk mf sf x f ++ (wRf E y gw gh th C.to C.wr k mk R M V rcm ++ wPool d gw rc mx)) H1 := hPD1.1
    have hD1 : va_D (fun q => s.heap.size ≤ q) (wCO E a o gw gh (mmOf gw gh) C L k mk mf sf x f ++ (wRf E y gw gh th C.to C.wr k mk R M V rcm ++ wPool d gw rc mx)) := hPD1.2
    refine lv_aload_n hx hb dL_law_832 rfl (lv_at hl 2 rfl) ?_
    refine sc_arg (n := 1) (i := 2 + 3 * j) hx hb hX hbl hS1 hl (by simp) (by simp) (by omega) (by omega) rfl dL_law_833 dL_law_834 dL_law_836 dL_law_837 dL_law_838 ?_
    refine lwVX (As := [.int (xs (2 + 3 * j + 1))]) (rest := [.int (b2i false)]) S hE (cX6_back0_ct l E H1.size (y 0) (y 1) (y 2) (y 3) (y 4) (y 5) (y 6) (y 7) (y 8) (y 9) (y 10) (y 11) (y 12) (y 13) (y 14) (y 15) (y 16) (y 17) (y 18) gw gh th C.to C.wr k mk (xs (2 + 3 * j + 1)) ha) (cwV 1 hts (goodL gL_law_X6_back) rfl rfl rfl (by decide +kernel) ⟨by decide, by decide⟩) hP1 hD1 hS1 hA [0] [1, 2, 3, 4, 5, 6, 7, 8, 9, 10, 11, 12, 13, 14, 15, 16, 17, 18] rfl (by show List.Perm _ (List.range 19); decide) 7 rfl rfl rfl rfl hl.1 rfl (Nat.le_of_ble_eq_true rfl) dL_law_839 ⟨by omega, by omega⟩ (fun cs2 H2 locs2 hX2 hB2 hS2 => ?_)
    subst hX2
    have hPD2 : va_P E.1 vwCl (wCO E a o gw gh (mmOf gw gh) C L k mk mf sf x f ++ (wRf E y gw gh 0 C.to C.wr k mk R M V rcm ++ wPool d gw rc mx)) H2 ∧ va_D (fun q => s.heap.size ≤ q) (wCO E a o gw gh (mmOf gw gh) C L k mk mf sf x f ++ (wRf E y gw gh 0 C.to C.wr k mk R M V rcm ++ wPool d gw rc mx)) := hB2 (wRf E y gw gh 0 C.to C.wr k mk R M V rcm) rfl rfl rfl
    have hP2 := hPD2.1
    have hD2 := hPD2.2
    refine lv_icmp_eq (tgt := 847) hx hb dL_law_842 (by decide) (fun c_9 => ?_) (fun c_9 => absurd (rfl) c_9)
    refine W.widen (k := cells + 3) (n := slots + 14) (by omega) (by omega) ?_
    exact kk _ _ _ ⟨C, L, k, mk, mf, sf, x, f, 0, R, M, V, rcm, mx, d, rc, B, ks, I.more, hmx, hmx12, hmf, hmn, hP2, hD2, hS2⟩ (lv_sub hl [0, 1, 2, 3, 4] rfl)
  · skip
    have hlt : jj < mx := by omega
    have hsome : mf jj = some (d jj).1 := hmf jj hlt
    rw [hav]
    have hP : va_P E.1 vwCl (wCO E a o gw gh (mmOf gw gh) C L k mk mf sf x f ++ (wRf E y gw gh th C.to C.wr k mk R M V rcm ++ (wPool d gw rc jj ++ (wRec (d jj) gw (rc jj) ++ wHi d gw rc jj mx)))) H := by rw [← pool_split d gw rc hlt]; exact hP
    have hD : va_D (fun q => s.heap.size ≤ q) (wCO E a o gw gh (mmOf gw gh) C L k mk mf sf x f ++ (wRf E y gw gh th C.to C.wr k mk R M V rcm ++ (wPool d gw rc jj ++ (wRec (d jj) gw (rc jj) ++ wHi d gw rc jj mx)))) := by rw [← pool_split d gw rc hlt]; exact hD
    refine lwVR (mc := 0) (ms := 0) (cC := ([1, 5, 6, 7, 11, 16, 17].filterMap (fun i => (wCO E a o gw gh (mmOf gw gh) C L k mk mf sf x f)[i]?))) (rec := wRec (d jj) gw (rc jj)) (As := [.int (nI jj)]) (rest := []) S hE (cX5_back_ct l E H.size (a 1) (a 2) (a 4) (a 5) (a 6) (a 10) (a 11) (a 12) (a 13) (a 14) gw C.onr C.onb C.ofr C.ofb C.mu C.ba C.bl C.wh C.to C.wr k (a 0) (a 15) (a 16) mk mf sf (d jj).1 (d jj).2.1 (d jj).2.2 (rc jj).mu (rc jj).ba (rc jj).bl (rc jj).wh (rc jj).to (rc jj).wr (rc jj).onr (rc jj).onb (rc jj).ofr (rc jj).ofb jj (ks jj) (by omega) hjj hsome (I.sf jj hjj)) (cwV 1 hts (goodL gL_law_X5_back) rfl rfl rfl (by decide +kernel) ⟨by decide, by decide⟩) hP hD hS hA [1, 5, 6, 7, 11, 16, 17] [0, 2, 3, 4, 8, 9, 10, 12, 13, 14, 15] rfl (by show List.Perm _ (List.range 18); decide) 6 rfl rfl rfl rfl hl.1 rfl (Nat.le_of_ble_eq_true rfl) dL_law_829 ⟨by omega, by omega⟩ (fun cs1 H1 locs1 hX1 hB1 hS1 => ?_)
    subst hX1
    have hPD1 := hB1 (wCO E a o gw gh (mmOf gw gh) (rc jj) L (ks jj) jj mf sf x f) ([1, 5, 6, 7, 11, 16, 17].filterMap (fun i => (wCO E a o gw gh (mmOf gw gh) (rc jj) L (ks jj) jj mf sf x f)[i]?)) (wRec (d jj) gw (rc jj)) rfl rfl rfl rfl
    rw [← pool_split d gw rc hlt] at hPD1
    have hP1 : va_P E.1 vwCl (wCO E a o gw gh (mmOf gw gh) (rc jj) L (ks jj) jj mf sf x f ++ (wRf E y gw gh th C.to C.wr k mk R M V rcm ++ wPool d gw rc mx)) H1 := hPD1.1
    have hD1 : va_D (fun q => s.heap.size ≤ q) (wCO E a o gw gh (mmOf gw gh) (rc jj) L (ks jj) jj mf sf x f ++ (wRf E y gw gh th C.to C.wr k mk R M V rcm ++ wPool d gw rc mx)) := hPD1.2
    refine lv_aload_n hx hb dL_law_832 rfl (lv_at hl 2 rfl) ?_
    refine sc_arg (n := 1) (i := 2 + 3 * j) hx hb hX hbl hS1 hl (by simp) (by simp) (by omega) (by omega) rfl dL_law_833 dL_law_834 dL_law_836 dL_law_837 dL_law_838 ?_
    rw [hav]
    refine lwVX (As := [.int (nI jj)]) (rest := [.int (b2i true)]) S hE (cX6_back_ct l E H1.size (y 0) (y 1) (y 2) (y 3) (y 4) (y 5) (y 6) (y 7) (y 8) (y 9) (y 10) (y 11) (y 12) (y 13) (y 14) (y 15) (y 16) (y 17) (y 18) gw gh th C.to C.wr k mk R.ed R.du R.sh R.eb R.sb M.nu M.pl M.bg M.ch V.v1 V.v2 V.v3 V.v4 V.v5 V.v6 V.v7 V.v8 jj (ks jj) (rc jj).wr (by omega) hjj (I.v7 jj hjj) (I.v8 jj hjj)) (cwV 1 hts (goodL gL_law_X6_back) rfl rfl rfl (by decide +kernel) ⟨by decide, by decide⟩) hP1 hD1 hS1 hA [0, 1, 2, 3, 4, 5, 6, 7, 8, 9, 10, 11, 12, 13, 14, 15, 16, 17] [18] rfl (by show List.Perm _ (List.range 19); decide) 7 rfl rfl rfl rfl hl.1 rfl (Nat.le_of_ble_eq_true rfl) dL_law_839 ⟨by omega, by omega⟩ (fun cs2 H2 locs2 hX2 hB2 hS2 => ?_)
    subst hX2
    have hPD2 : va_P E.1 vwCl (wCO E a o gw gh (mmOf gw gh) (rc jj) L (ks jj) jj mf sf x f ++ (wRf E y gw gh 0 (V.v6 jj) (rc jj).wr (ks jj) jj (cq R.ed V.v1 (128 * jj) 128, cq R.du V.v2 (64 * jj) 64, cq R.sh V.v3 (64 * jj) 64, cq R.eb V.v4 (128 * jj) 128, cq R.sb V.v5 (64 * jj) 64) M V rcm ++ wPool d gw rc mx)) H2 ∧ va_D (fun q => s.heap.size ≤ q) (wCO E a o gw gh (mmOf gw gh) (rc jj) L (ks jj) jj mf sf x f ++ (wRf E y gw gh 0 (V.v6 jj) (rc jj).wr (ks jj) jj (cq R.ed V.v1 (128 * jj) 128, cq R.du V.v2 (64 * jj) 64, cq R.sh V.v3 (64 * jj) 64, cq R.eb V.v4 (128 * jj) 128, cq R.sb V.v5 (64 * jj) 64) M V rcm ++ wPool d gw rc mx)) := hB2 (wRf E y gw gh 0 (V.v6 jj) (rc jj).wr (ks jj) jj (cq R.ed V.v1 (128 * jj) 128, cq R.du V.v2 (64 * jj) 64, cq R.sh V.v3 (64 * jj) 64, cq R.eb V.v4 (128 * jj) 128, cq R.sb V.v5 (64 * jj) 64) M V rcm) rfl rfl rfl
    rw [I.v6 jj hjj] at hPD2
    have hP2 := hPD2.1
    have hD2 := hPD2.2
    refine lv_icmp_eq (tgt := 847) hx hb dL_law_842 (by decide) (fun c_9 => ?_) (fun c_9 => absurd (rfl) c_9)
    refine W.widen (k := cells + 3) (n := slots + 14) (by omega) (by omega) ?_
    exact kk _ _ _ ⟨rc jj, L, ks jj, jj, mf, sf, x, f, 0, _, M, V, rcm, mx, d, rc, B, ks, I.back G hjj, by omega, hmx12, hmf, hmn, hP2, hD2, hS2⟩ (lv_sub hl [0, 1, 2, 3, 4] rfl)
