/-! THE LAW'S LOOP. -/
set_option maxRecDepth 100000 in
theorem tW_in : ∀ w ∈ tW, w ∈ lw_tbl := inP [75, 603, 612, 616, 619, 621, 604, 605, 88, 89, 606, 611, 617, 640, 593, 641, 595, 642, 597, 607, 609, 599, 636, 637, 639, 599, 624, 625, 626, 627, 627, 628, 629, 630, 630, 631, 632, 633, 633, 634, 635, 636, 623, 580, 590, 591, 592, 594, 596, 598, 602, 601, 600, 75, 603, 612, 616, 619, 621, 604, 605, 88, 89, 606, 611, 617, 640, 593, 641, 595, 642, 597, 607, 609, 599, 636, 637, 639, 599, 695, 696, 697, 630, 630, 631, 632, 633, 633, 634, 635, 636, 694, 685, 687, 614, 688, 689, 690, 691, 602, 601, 692, 75, 603, 612, 616, 619, 621, 604, 605, 88, 89, 606, 611, 617, 640, 593, 641, 595, 642, 597, 607, 609, 599, 636, 637, 639, 599, 627, 628, 629, 630, 630, 631, 632, 633, 633, 634, 635, 636, 748, 739, 741, 615, 742, 743, 744, 745, 602, 601, 746, 579, 79, 684, 80, 738, 78, 569, 670, 733] rfl
set_option maxRecDepth 100000 in
theorem tV_in : ∀ w ∈ tV, w ∈ lw_tbl := inP [583, 585, 587, 589, 581, 585, 587, 589, 686, 585, 587, 589, 740, 581, 686, 740] rfl
set_option maxRecDepth 100000 in
theorem NW_in : ∀ w ∈ NWs, w ∈ lw_tbl := inP [496, 392, 125, 345, 426, 454, 704, 521, 272] rfl
theorem sub3 {L : Nat} (hL : L ≤ 1538) (i : Nat) (hi : i < 2 ^ 30) : (¬ nI L - 3 < nI i ↔ i + 3 ≤ L) := by
  rw [Int32.lt_iff_toInt_lt, show (3 : Int32) = nI 3 from rfl, pk_sub_toInt (by omega) (by omega), nI_toInt (by omega)]
  omega
set_option maxHeartbeats 8000000 in
set_option maxRecDepth 100000 in
theorem law_loop {p : Program} {l : Launch} {e : Env} {s : State} {m : MethodId} {below : List Frame} {meth : Method} {c : Code} {b Lx : Nat} {xs : Nat → Int32} {E : GE} {a y : Nat → Nat} {o gw gh : Nat} (G : GG gw gh) (hLE : LE p l s m meth c b Lx xs E) (hr : meth.sig.returnType = ret) (hlocks : meth.locks = false) : ∀ (n j : Nat) (H : Heap) (locs : List Loc) (ls : Array Slot), j + n = 513 → LI E a y o gw gh j s H locs → lv_has ls 7 (lvL b a y o (2 + 3 * j)) → W p l e room_1 s m #[Value.ref b] below meth c H locs (100 + 3 * j) (20000 + 14 * j) (lw_Z below #[Value.ref b] s) (F0 m 43 ls []) := by
  intro n
  induction n with
  | zero =>
    intro j H locs ls hjn hI hl
    obtain ⟨hx, hb, hml, hown, hts, hE, hX, hbl, hT, hl0, hLx⟩ := id hLE
    obtain ⟨C, L, k, mk, mf, sf, x, f, th, R, M, V, rcm, mx, d, rc, B, ks, I, hmx, hmx12, hmf, hmn, hP, hD, hS⟩ := hI
    refine lv_iload hx hb dL_law_43 (lv_at hl 0 rfl) ?_
    refine lv_aload_n hx hb dL_law_45 rfl (lv_at hl 4 rfl) ?_
    refine va_slen hx hb hX hbl (fun q => by omega) hS dL_law_46 ?_
    refine lv_iconst (v := 3) hx hb dL_law_47 (by decide) ?_
    refine lv_isub hx hb dL_law_48 ?_
    refine lv_icmp_gt (tgt := 853) hx hb dL_law_49 (by decide) (fun c_9 => ?_) (fun c_9 => ?_)
    · refine lv_iconst (v := 1) hx hb dL_law_853 (by decide) ?_
      refine va_forget hS.2.2 ?_
      refine W.widen (k := 601024) (n := 7293000) (by omega) (by omega) ?_
      exact lw_ret hx hb hr hlocks dL_law_854
    · have := (sub3 hLx (2 + 3 * j) (by omega)).mp c_9
      omega
  | succ n ih =>
    intro j H locs ls hjn hI hl
    obtain ⟨hx, hb, hml, hown, hts, hE, hX, hbl, hT, hl0, hLx⟩ := id hLE
    have hS : va_S (fun q => s.heap.size ≤ q) s.heap H locs := by
      obtain ⟨C, L, k, mk, mf, sf, x, f, th, R, M, V, rcm, mx, d, rc, B, ks, I, hmx, hmx12, hmf, hmn, hP, hD, hS⟩ := hI
      exact hS
    refine lv_iload hx hb dL_law_43 (lv_at hl 0 rfl) ?_
    refine lv_aload_n hx hb dL_law_45 rfl (lv_at hl 4 rfl) ?_
    refine va_slen hx hb hX hbl (fun q => by omega) hS dL_law_46 ?_
    refine lv_iconst (v := 3) hx hb dL_law_47 (by decide) ?_
    refine lv_isub hx hb dL_law_48 ?_
    refine lv_icmp_gt (tgt := 853) hx hb dL_law_49 (by decide) (fun c_9 => ?_) (fun c_9 => ?_)
    · refine lv_iconst (v := 1) hx hb dL_law_853 (by decide) ?_
      refine va_forget hS.2.2 ?_
      refine W.widen (k := 601024) (n := 7293000) (by omega) (by omega) ?_
      exact lw_ret hx hb hr hlocks dL_law_854
    · have hj : 2 + 3 * j + 3 ≤ Lx := (sub3 hLx (2 + 3 * j) (by omega)).mp c_9
      have hf : 100 + 3 * j + 3 ≤ room_1.cells ∧ 20000 + 14 * j + 14 ≤ room_1.slots := ⟨by show _ ≤ 601024; omega, by show _ ≤ 7293000; omega⟩
      have kk : ∀ (H1 : Heap) (locs1 : List Loc) (ls1 : Array Slot), LI E a y o gw gh (j + 1) s H1 locs1 → lv_has ls1 7 (lvL b a y o (2 + 3 * j)) → W p l e room_1 s m #[.ref b] below meth c H1 locs1 (100 + 3 * j + 3) (20000 + 14 * j + 14) (lw_Z below #[Value.ref b] s) (F0 m 847 ls1 []) := by
        intro H1 locs1 ls1 hI1 hl1
        refine lv_iinc (v := nI (2 + 3 * (j + 1))) (lv' := lvL b a y o (2 + 3 * (j + 1))) hx hb dL_law_847 hl1 (k := 0) rfl (by show nI (2 + 3 * j) + nI 3 = _; rw [nI_add]; congr 1) (by decide) rfl (fun ls hl => ?_)
        refine lv_goto (tgt := 43) hx hb dL_law_850 (by decide) ?_
        exact ih (j + 1) H1 locs1 ls (by omega) hI1 hl
      refine lv_aload_n hx hb dL_law_52 rfl (lv_at hl 4 rfl) ?_
      refine lv_iload hx hb dL_law_53 (lv_at hl 0 rfl) ?_
      refine va_sld hx hb hX hbl (fun q => by omega) hS (vp_in_nI (by omega) (by omega)) dL_law_55 ?_
      refine lv_bipush (v := 15) hx hb dL_law_56 (by decide) ?_
      refine lv_iand hx hb dL_law_58 ?_
      obtain ⟨t, ht, et⟩ := pk_andE (xs (nI (2 + 3 * j)).toNatClampNeg) (m := 15) 4 rfl
      rw [et]
      rcases (by omega : t = 0 ∨ t = 1 ∨ t = 2 ∨ t = 3 ∨ t = 4 ∨ t = 5 ∨ t = 6 ∨ t = 7 ∨ t = 8 ∨ t = 9 ∨ t = 10 ∨ t = 11 ∨ t = 12 ∨ t = 13 ∨ t = 14 ∨ t = 15) with rfl | rfl | rfl | rfl | rfl | rfl | rfl | rfl | rfl | rfl | rfl | rfl | rfl | rfl | rfl | rfl
      · refine lv_tableIn (tgt := 132) hx hb dL_law_59 (by decide) (by decide) rfl (by decide) ?_
        exact law_size G hLE hj hI hl hf kk
      · refine lv_tableIn (tgt := 145) hx hb dL_law_59 (by decide) (by decide) rfl (by decide) ?_
        exact law_end G hLE hj hI hl hf kk
      · refine lv_tableIn (tgt := 229) hx hb dL_law_59 (by decide) (by decide) rfl (by decide) ?_
        exact law_edge G hLE hj hI hl hf kk
      · refine lv_tableIn (tgt := 320) hx hb dL_law_59 (by decide) (by decide) rfl (by decide) ?_
        exact law_duty G hLE hj hI hl hf kk
      · refine lv_tableIn (tgt := 395) hx hb dL_law_59 (by decide) (by decide) rfl (by decide) ?_
        exact law_shade G hLE hj hI hl hf kk
      · refine lv_tableIn (tgt := 486) hx hb dL_law_59 (by decide) (by decide) rfl (by decide) ?_
        exact law_told G hLE hj hI hl hf kk
      · refine lv_tableIn (tgt := 522) hx hb dL_law_59 (by decide) (by decide) rfl (by decide) ?_
        exact law_run G hLE hj hI hl hf kk
      · refine lv_tableIn (tgt := 535) hx hb dL_law_59 (by decide) (by decide) rfl (by decide) ?_
        exact law_wrong G hLE hj hI hl hf kk
      · refine lv_tableIn (tgt := 548) hx hb dL_law_59 (by decide) (by decide) rfl (by decide) ?_
        exact law_step G hLE hj hI hl hf kk
      · refine lv_tableIn (tgt := 616) hx hb dL_law_59 (by decide) (by decide) rfl (by decide) ?_
        exact law_steps G hLE hj hI hl hf kk
      · refine lv_tableIn (tgt := 629) hx hb dL_law_59 (by decide) (by decide) rfl (by decide) ?_
        exact law_is G hLE hj hI hl hf kk
      · refine lv_tableIn (tgt := 685) hx hb dL_law_59 (by decide) (by decide) rfl (by decide) ?_
        exact law_cell G hLE hj hI hl hf kk
      · refine lv_tableIn (tgt := 753) hx hb dL_law_59 (by decide) (by decide) rfl (by decide) ?_
        exact law_reason G hLE hj hI hl hf kk
      · refine lv_tableIn (tgt := 809) hx hb dL_law_59 (by decide) (by decide) rfl (by decide) ?_
        exact law_mark G hLE hj hI hl hf kk
      · refine lv_tableIn (tgt := 822) hx hb dL_law_59 (by decide) (by decide) rfl (by decide) ?_
        exact law_back G hLE hj hI hl hf kk
      · refine lv_tableOut (tgt := 847) hx hb dL_law_59 (by decide) (by decide) ?_
        obtain ⟨C, L, k, mk, mf, sf, x, f, th, R, M, V, rcm, mx, d, rc, B, ks, I, hI2⟩ := hI
        refine W.widen (k := 100 + 3 * j + 3) (n := 20000 + 14 * j + 14) (by omega) (by omega) ?_
        exact kk H locs ls ⟨C, L, k, mk, mf, sf, x, f, th, R, M, V, rcm, mx, d, rc, B, ks, I.more, hI2⟩ hl
