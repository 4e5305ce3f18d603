set_option maxHeartbeats 16000000 in
set_option maxRecDepth 100000 in
/-- THE LAW, from its entry -/
theorem whole_start {p : Program} {e : Env} {s : State} {m : MethodId} {below : List Frame} {meth : Method} {c : Code} (l : Launch) (hl0 : l.stackTraces = false) {b L : Nat} {xs : Nat → Int32} (hL : L ≤ 1538) (C0 : lw_At p s m meth c b L xs) : W p l e room_1 s m #[Value.ref b] below meth c s.heap [] 0 0 (lw_Z below #[Value.ref b] s) (entryFrame m ([Value.ref b] : List Value).toArray 7) := by
  obtain ⟨hx, hb, hr, hml, hown, htsL, hX, hbl, hlocks, hgv⟩ := id C0
  have hown : s.vm.findClass RL = some m.cls := hown
  have hts : ∀ w ∈ wsL_law ++ tW, w.before #[Value.ref b] s = true := fun w hw => (List.mem_append.mp hw).elim (fun h => htsL w (wsL_law_in w h)) (fun h => htsL w (tW_in w h))
  obtain ⟨E, hE⟩ := law_env htsL
  have hT := law_tx htsL hgv
  have hLE : LE p l s m meth c b L xs E := ⟨hx, hb, hml, hown, hts, hE, hX, hbl, hT, hl0, hL⟩
  have S : CallFix p m c cL_law 7 s #[.ref b] (wsL_law ++ tW) RL := ⟨hx, hb, hml, hown, hts⟩
  have hA : ∀ q : Nat, s.heap.size ≤ q → (fun q : Nat => s.heap.size ≤ q) q := fun _ h => h
  have hbA : ¬ (fun q : Nat => s.heap.size ≤ q) b := Nat.not_le.mpr hbl
  have hS : va_S (fun q : Nat => s.heap.size ≤ q) s.heap s.heap [] := va_S.rf
  have hP : va_P E.1 vwCl [] s.heap := fun k q h => by simp at h
  have hD : va_D (fun q : Nat => s.heap.size ≤ q) [] := ⟨fun i j p q h => by simp at h, fun k q h => by simp at h⟩
  have hl := lv_entry ([.ref b]) (n := 7) (Nat.le_of_ble_eq_true rfl)
  rw [lg_entry_eq]
  generalize (lg_sl ([.ref b]) ++ List.replicate (7 - (lg_sl ([.ref b])).length) Slot.unset).toArray = ls at hl ⊢
  have hl : lv_has ls 7 [(0, .ref b)] := hl
  obtain ⟨gw, g1, g8, eg⟩ := fSide_n (fCell L xs 0)
  obtain ⟨gh, h1, h8, eh⟩ := fSide_n (fCell L xs 1)
  have G : GG gw gh := ⟨g1, h1, g8, h8⟩
  have bl : FrameBlind (va_Pc [.ref b, .int 0] (fun U => b < U.heap.size ∧ va_X b L xs U U.heap)) := fun a U g mk q => ⟨q.1, q.2.1, va_X.moved (u := U) (U := U.calling g mk a) (Vm.Alike.refl U.vm) q.2.2⟩
  have bl1 : FrameBlind (va_Pc [.ref b, .int 1] (fun U => b < U.heap.size ∧ va_X b L xs U U.heap)) := fun a U g mk q => ⟨q.1, q.2.1, va_X.moved (u := U) (U := U.calling g mk a) (Vm.Alike.refl U.vm) q.2.2⟩
  have pre : ∀ (H : Heap) (locs : List Loc), va_S (fun q : Nat => s.heap.size ≤ q) s.heap H locs → ∀ U : State, U.heap = H → s.WarmedH U.vm → b < U.heap.size ∧ va_X b L xs U U.heap := fun H locs hS U hU hW => by
    rw [hU]
    exact ⟨Nat.lt_of_lt_of_le hbl hS.1, va_X.moved hW.alike (hX.kept (hS.2.1 b hbl hbA))⟩
  refine va_new (ci := 6) (fs := [.null, .null, .null, .null, .null, .null, .int 0]) (C := RX5) (T := TX5) (N := 7) hx hb htsL inX5 tyX5 tyX5_ok hown (htsL (.classLink RL 8 RX5) (List.mem_of_getElem? (i := 82) rfl)) (htsL (.instantiable RX5 7) (List.mem_of_getElem? (i := 83) rfl)) (htsL (.initialized RX5) (List.mem_of_getElem? (i := 67) rfl)) hE.1 hP hD hS hA rfl (fun j hj => by rcases (show j = 0 ∨ j = 1 ∨ j = 2 ∨ j = 3 ∨ j = 4 ∨ j = 5 ∨ j = 6 by omega) with rfl | rfl | rfl | rfl | rfl | rfl | rfl <;> rfl) (Nat.le_of_ble_eq_true rfl) (Nat.le_of_ble_eq_true rfl) dL_law_0 (fun lr H hP hD hS => ?_)
  have hP : va_P E.1 vwCl [(lr, .inr (6, [.null, .null, .null, .null, .null, .null, .int 0]))] H := hP
  have hD : va_D (fun q : Nat => s.heap.size ≤ q) [(lr, .inr (6, [.null, .null, .null, .null, .null, .null, .int 0]))] := hD
  refine lv_dup hx hb dL_law_3 rfl ?_
  refine lv_aload_n hx hb dL_law_4 rfl (lv_at hl 0 rfl) ?_
  refine lv_iconst (v := 0) hx hb dL_law_5 (by decide) ?_
  refine vp_callSi (va_Run.run (va_runS (As := [.ref b, .int 0]) (rest := [.ref lr, .ref lr]) (g := F0 m 6 ls [.int 0, .ref b, .ref lr, .ref lr]) S (cL_cell_ct l b L xs 0 (by decide) (by omega)) (va_cwS 2 hts (goodL gL_law_L_cell) rfl rfl rfl (by decide +kernel) ⟨by decide, by decide⟩) ⟨bl, fun U hU hW => ⟨rfl, pre _ _ hS U hU hW⟩⟩ rfl rfl hl.1 rfl (lv_room (Nat.le_of_ble_eq_true rfl)) dL_law_6 ⟨by decide, by decide⟩)) (fun r hr => ?_)
  subst hr
  refine lv_aload_n hx hb dL_law_9 rfl (lv_at hl 0 rfl) ?_
  refine lv_iconst (v := 1) hx hb dL_law_10 (by decide) ?_
  refine vp_callSi (va_Run.run (va_runS (As := [.ref b, .int 1]) (rest := [.int (fCell L xs 0), .ref lr, .ref lr]) (g := F0 m 11 ls [.int 1, .ref b, .int (fCell L xs 0), .ref lr, .ref lr]) S (cL_cell_ct l b L xs 1 (by decide) (by omega)) (va_cwS 2 hts (goodL gL_law_L_cell) rfl rfl rfl (by decide +kernel) ⟨by decide, by decide⟩) ⟨bl1, fun U hU hW => ⟨rfl, pre _ _ hS U hU hW⟩⟩ rfl rfl hl.1 rfl (lv_room (Nat.le_of_ble_eq_true rfl)) dL_law_11 ⟨by decide, by decide⟩)) (fun r hr => ?_)
  subst hr
  refine wr_callP (wr := []) (rest := [.ref lr]) (va_runI (As := [.int (fCell L xs 0), .int (fCell L xs 1)]) (rest := [.ref lr]) (g := F0 m 14 ls [.int (fCell L xs 1), .int (fCell L xs 0), .ref lr, .ref lr]) S (cX5_init_ct l E H.size lr gw gh (fCell L xs 0) (fCell L xs 1) eg eh g1 h1 g8 h8) (cwI 2 hts (goodL gL_law_X5_init) rfl rfl rfl (htsL (.initialized RX5) (List.mem_of_getElem? (i := 67) rfl)) (htsL (.methodLink RL 53 yX5_init) (List.mem_of_getElem? (i := 84) rfl)) (htsL (.instanceMethod yX5_init) (List.mem_of_getElem? (i := 85) rfl)) rfl (by decide +kernel) ⟨by decide, by decide⟩) ⟨wr_blind, wr_pre hE hP hD⟩ rfl rfl hl.1 rfl (lv_room (Nat.le_of_ble_eq_true rfl)) dL_law_14 ⟨by decide, by decide⟩) hP hD hS hA (fun cs1 H1 locs1 hX1 hP1 hD1 hS1 _ _ => ?_)
  obtain ⟨g, ga, st, on, off, lg, a1, a2, a3, a4, q, op, nf, sp, ma, sa, rfl⟩ := hX1
  refine lv_astore_n (lv' := [(1, .ref lr), (0, .ref b)]) hx hb dL_law_17 rfl hl (by decide) rfl (fun ls hl => ?_)
  refine va_new (ci := 7) (fs := [.int 0, .int 0, .int 0, .null, .null, .null, .int 0, .int (b2i false), .null, .null, .int 0, .null, .null, .null, .null, .int 0, .null, .null, .null, .null, .null, .null, .null, .null, .null]) (C := RX6) (T := TX6) (N := 25) hx hb htsL inX6 tyX6 tyX6_ok hown (htsL (.classLink RL 56 RX6) (List.mem_of_getElem? (i := 805) rfl)) (htsL (.instantiable RX6 25) (List.mem_of_getElem? (i := 806) rfl)) (htsL (.initialized RX6) (List.mem_of_getElem? (i := 74) rfl)) hE.1 hP1 hD1 hS1 hA rfl (fun j hj => by rcases (show j = 0 ∨ j = 1 ∨ j = 2 ∨ j = 3 ∨ j = 4 ∨ j = 5 ∨ j = 6 ∨ j = 7 ∨ j = 8 ∨ j = 9 ∨ j = 10 ∨ j = 11 ∨ j = 12 ∨ j = 13 ∨ j = 14 ∨ j = 15 ∨ j = 16 ∨ j = 17 ∨ j = 18 ∨ j = 19 ∨ j = 20 ∨ j = 21 ∨ j = 22 ∨ j = 23 ∨ j = 24 by omega) with rfl | rfl | rfl | rfl | rfl | rfl | rfl | rfl | rfl | rfl | rfl | rfl | rfl | rfl | rfl | rfl | rfl | rfl | rfl | rfl | rfl | rfl | rfl | rfl | rfl <;> rfl) (by decide) (by decide) dL_law_18 (fun mm H2 hP2 hD2 hS2 => ?_)
  refine lv_dup hx hb dL_law_21 rfl ?_
  refine lv_aload_n hx hb dL_law_22 rfl (lv_at hl 1 rfl) ?_
  refine lv_iconst (v := 0) hx hb dL_law_23 (by decide) ?_
  refine vp_callSi (va_Run.run (va_runS (As := [.ref b, .int 0]) (rest := [.ref mm, .ref mm]) (g := F0 m 24 ls [.int 0, .ref b, .ref mm, .ref mm]) S (cL_cell_ct l b L xs 0 (by decide) (by omega)) (va_cwS 2 hts (goodL gL_law_L_cell) rfl rfl rfl (by decide +kernel) ⟨by decide, by decide⟩) ⟨bl, fun U hU hW => ⟨rfl, pre _ _ hS2 U hU hW⟩⟩ rfl rfl hl.1 rfl (lv_room (Nat.le_of_ble_eq_true rfl)) dL_law_24 ⟨by decide, by decide⟩)) (fun r hr => ?_)
  subst hr
  refine lv_aload_n hx hb dL_law_27 rfl (lv_at hl 1 rfl) ?_
  refine lv_iconst (v := 1) hx hb dL_law_28 (by decide) ?_
  refine vp_callSi (va_Run.run (va_runS (As := [.ref b, .int 1]) (rest := [.int (fCell L xs 0), .ref mm, .ref mm]) (g := F0 m 29 ls [.int 1, .ref b, .int (fCell L xs 0), .ref mm, .ref mm]) S (cL_cell_ct l b L xs 1 (by decide) (by omega)) (va_cwS 2 hts (goodL gL_law_L_cell) rfl rfl rfl (by decide +kernel) ⟨by decide, by decide⟩) ⟨bl1, fun U hU hW => ⟨rfl, pre _ _ hS2 U hU hW⟩⟩ rfl rfl hl.1 rfl (lv_room (Nat.le_of_ble_eq_true rfl)) dL_law_29 ⟨by decide, by decide⟩)) (fun r hr => ?_)
  subst hr
  have hP3 := wP_perm hP2 (List.perm_append_comm)
  have hD3 := wD_perm hD2 (List.perm_append_comm)
  refine wr_callP (rest := [.ref mm]) (va_runI (As := [.int (fCell L xs 0), .int (fCell L xs 1)]) (rest := [.ref mm]) (g := F0 m 32 ls [.int (fCell L xs 1), .int (fCell L xs 0), .ref mm, .ref mm]) S (cX6_init_ct l E H2.size mm gw gh (fCell L xs 0) (fCell L xs 1) eg eh) (cwI 2 hts (goodL gL_law_X6_init) rfl rfl rfl (htsL (.initialized RX6) (List.mem_of_getElem? (i := 74) rfl)) (htsL (.methodLink RL 58 yX6_init) (List.mem_of_getElem? (i := 807) rfl)) (htsL (.instanceMethod yX6_init) (List.mem_of_getElem? (i := 808) rfl)) rfl (by decide +kernel) ⟨by decide, by decide⟩) ⟨wr_blind, wr_pre hE (wP_left hP3) (wD_left hD3)⟩ rfl rfl hl.1 rfl (lv_room (Nat.le_of_ble_eq_true rfl)) dL_law_32 ⟨by decide, by decide⟩) hP3 hD3 hS2 hA (fun cs4 H4 locs4 hX4 hP4 hD4 hS4 _ _ => ?_)
  obtain ⟨y1, y2, y3, y4, y5, y6, y7, y8, y9, y10, y11, y12, y13, y14, y15, y16, y17, y18, rfl⟩ := hX4
  refine lv_astore_n (lv' := [(2, .ref mm), (1, .ref lr), (0, .ref b)]) hx hb dL_law_35 rfl hl (by decide) rfl (fun ls hl => ?_)
  refine lv_iconst (v := 1) hx hb dL_law_36 (by decide) ?_
  refine al_newJ hx hb (htsL (.arrayClass .long) (List.mem_of_getElem? (i := 1076) rfl)) hE hP4 hD4 hS4 hA (by decide) (N' := 1) rfl (by decide) (by decide) (by decide) dL_law_37 (fun o H5 hP5 hD5 hS5 => ?_)
  refine lv_astore_n (lv' := [(3, .ref o), (2, .ref mm), (1, .ref lr), (0, .ref b)]) hx hb dL_law_39 rfl hl (by decide) rfl (fun ls hl => ?_)
  refine lv_iconst (v := 2) hx hb dL_law_40 (by decide) ?_
  refine lv_istore (lv' := [(4, .int 2), (3, .ref o), (2, .ref mm), (1, .ref lr), (0, .ref b)]) hx hb dL_law_41 hl (by decide) rfl (fun ls hl => ?_)
  refine W.widen (k := 100 + 3 * 0) (n := 20000 + 14 * 0) (by decide) (by decide) ?_
  have hq : ∀ (X Y : va_W) (is : List Nat), is.map (fun i => X[i]?) = Y.map some → is.Perm (List.range X.length) → X.Perm Y := fun X Y is h1 h2 => perm_idx is h1 h2
  refine law_loop (a := aOf [lr, q, g, ga, st, on, off, op, nf, sp, lg, a1, a2, a3, a4, ma, sa]) (y := aOf [mm, y1, y2, y3, y4, y5, y6, y7, y8, y9, y10, y11, y12, y13, y14, y15, y16, y17, y18]) (o := o) G hLE hr hlocks 513 0 H5 locs4 ls rfl ⟨_, _, 0, 0, fun _ => none, _, fun _ => 0, fun _ => 0, 0, _, _, _, fun _ => 0, 0, fun _ => (0, 0, 0), _, _, _, IV.init G, Nat.le_refl _, by omega, fun i hi => by omega, fun i _ => rfl, ?_, ?_, hS5⟩ hl
  · exact wP_perm hP5 (hq _ _ [36, 19, 30, 20, 21, 22, 23, 24, 31, 32, 33, 25, 26, 27, 28, 29, 34, 35, 0, 1, 2, 3, 4, 5, 6, 7, 8, 9, 10, 11, 12, 13, 14, 15, 16, 17, 18] rfl (by show List.Perm _ (List.range 37); decide))
  · exact wD_perm hD5 (hq _ _ [36, 19, 30, 20, 21, 22, 23, 24, 31, 32, 33, 25, 26, 27, 28, 29, 34, 35, 0, 1, 2, 3, 4, 5, 6, 7, 8, 9, 10, 11, 12, 13, 14, 15, 16, 17, 18] rfl (by show List.Perm _ (List.range 37); decide))
