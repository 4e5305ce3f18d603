section EQV
variable {p : Program} {l : Launch} {e : Env} {R : Room} {s : State} {m : MethodId} {args : Array Value} {below : List Frame} {meth : Method} {c : Code} {H : Heap} {locs : List Loc} {cells slots : Nat} {Q : State → Prop} {pc : Nat} {ls : Array Slot} {rest : List Value}
theorem lv_eqv {x y : Value} (h : x = y) (k : W p l e R s m args below meth c H locs cells slots Q (F0 m pc ls (y :: rest))) : W p l e R s m args below meth c H locs cells slots Q (F0 m pc ls (x :: rest)) := h ▸ k
end EQV
set_option maxHeartbeats 4000000 in
set_option maxRecDepth 100000 in
theorem cX5_mark12_ct (l : Launch) (E : GE) (sz : Nat) (q : Nat) (g : Nat) (st : Nat) (lg : Nat) (lr : Nat) (ma : Nat) (sa : Nat) (sn : Nat)  (hsn : sn = 12) : wrM l yX5_mark wsX5_mark ({ frames := 0, cells := 0, slots := 0, locals := 0 }) E sz [.ref lr] [(lr, .inr (6, [.ref g, .ref st, .ref lg, .ref q, .ref ma, .ref sa, .int (nI sn)]))] (some (.int (-1))) (fun cs' => cs' = [(lr, .inr (6, [.ref g, .ref st, .ref lg, .ref q, .ref ma, .ref sa, .int (nI sn)]))]) 0 0 := by
  refine Met.ofW (cc := cX5_mark) (maxL := 1) (ret := (some .int)) (by decide) rfl ?_
  intro p e s m args below meth c s₁ B hml hv
  obtain ⟨rfl, hsz, hE, hP, hD0⟩ := hv
  have hx := B.exec
  have hb := B.bytes
  have hr := B.returns
  have hts := atoms_spec (ws := wsX5_mark) B.pre
  have hown : s.vm.findClass RX5 = some m.cls := findClass_of_methodNamed B.named
  have hlocks := B.notSynchronized
  subst hsz
  have hD := hD0.self (sz := s.heap.size)
  generalize hAe : va_A [(lr, .inr (6, [.ref g, .ref st, .ref lg, .ref q, .ref ma, .ref sa, .int (nI sn)]))] s.heap.size = A at hD ⊢
  have hA : ∀ q : Nat, s.heap.size ≤ q → A q := fun q h => by rw [← hAe]; exact Or.inr h
  have hS : va_S A s.heap s.heap [] := va_S.rf
  have hP : va_P E.1 vwCl [(lr, .inr (6, [.ref g, .ref st, .ref lg, .ref q, .ref ma, .ref sa, .int (nI sn)]))] s.heap := hP
  have hl := lv_entry ([.ref lr]) (n := 1) (Nat.le_of_ble_eq_true rfl)
  rw [lg_entry_eq]
  generalize (lg_sl ([.ref lr]) ++ List.replicate (1 - (lg_sl ([.ref lr])).length) Slot.unset).toArray = ls at hl ⊢
  have hl : lv_has ls 1 [(0, .ref lr)] := hl
  have hf_64 := hts (.fieldLink RX5 64 "LoopRegions" "standing" "I") (by decide +kernel)
  have hi_RX5 : ∀ w ∈ wsX50, w ∈ wsX5_mark := by decide +kernel
  refine lv_aload_n hx hb dX5_mark_0 rfl (lv_at hl 0 rfl) ?_
  refine va_get (D := E.1) (ci := 6) (v := .int (nI sn)) (C := RX5) (T := TX5) (N := 7) hx hb hts hi_RX5 hown hE.1 hP 0 rfl rfl 6 (by decide) hf_64 (fun _ h9 => h9) rfl dX5_mark_1 ?_
  refine lv_if_lt (tgt := 16) hx hb dX5_mark_4 (by decide) (fun c_4 => ?_) (fun c_4 => ?_)
  · skip
    have m_4 : sn < 0 := (nI_ltI (a := sn) (b := 0) (by omega) (by omega)).mp c_4
    exact absurd c_4 (nI_pos (by omega))
  · skip
    have m_4 : ¬ sn < 0 := fun q => c_4 ((nI_ltI (a := sn) (b := 0) (by omega) (by omega)).mpr q)
    refine lv_aload_n hx hb dX5_mark_7 rfl (lv_at hl 0 rfl) ?_
    refine va_get (D := E.1) (ci := 6) (v := .int (nI sn)) (C := RX5) (T := TX5) (N := 7) hx hb hts hi_RX5 hown hE.1 hP 0 rfl rfl 6 (by decide) hf_64 (fun _ h9 => h9) rfl dX5_mark_8 ?_
    refine lv_bipush (v := 12) hx hb dX5_mark_11 (by decide) ?_
    refine lv_icmp_lt (tgt := 18) hx hb dX5_mark_13 (by decide) (fun c_13 => ?_) (fun c_13 => ?_)
    · skip
      have m_13 : sn < 12 := (nI_ltI (a := sn) (b := 12) (by omega) (by omega)).mp c_13
      exact absurd m_13 (by omega)
    · skip
      have m_13 : ¬ sn < 12 := fun q => c_13 ((nI_ltI (a := sn) (b := 12) (by omega) (by omega)).mpr q)
      refine lv_iconst (v := (-1)) hx hb dX5_mark_16 (by decide) ?_
      exact W.iret (v := (-1)) hx hb hr (fun t9 ht9 hW => ⟨⟨rfl, [(lr, .inr (6, [.ref g, .ref st, .ref lg, .ref q, .ref ma, .ref sa, .int (nI sn)]))], rfl, by rw [ht9]; exact hP, hD⟩, hS.F ht9⟩) hS.2.2 dX5_mark_17
set_option maxHeartbeats 4000000 in
set_option maxRecDepth 100000 in
theorem cX5_markN_ct (l : Launch) (E : GE) (sz : Nat) (q : Nat) (g : Nat) (ga : Nat) (st : Nat) (on : Nat) (off : Nat) (lg : Nat) (a1 : Nat) (a2 : Nat) (a3 : Nat) (a4 : Nat) (gw : Nat) (gh : Nat) (ec : Int32) (ce : Int64) (onr : Int64) (onb : Int64) (ofr : Int64) (ofb : Int64) (mu : Int64) (ba : Int64) (bl : Int64) (wh : Int64) (to : Int32) (wr : Bool) (k : Nat) (lr : Nat) (ma : Nat) (sa : Nat) (sn : Nat) (mf : Nat → Option Nat) (sf : Nat → Int32)  (hsn : sn < 12) (hmf : mf sn = none) : wrM l yX5_mark wsX5_mark ({ frames := 3, cells := 3, slots := 14, locals := 62 }) E sz [.ref lr] [(lr, .inr (6, [.ref g, .ref st, .ref lg, .ref q, .ref ma, .ref sa, .int (nI sn)])), (g, .inr (2, [.int (nI gw), .int (nI gh), .int (nI (gw * gh)), .int ec, .int (nI (2 * (gw * gh))), .long ce, .ref ga])), (st, .inr (4, [.ref on, .ref off, .long mu, .long ba, .long bl, .long wh, .int to, .int (b2i wr)])), (on, .inr (1, [.int (nI gw), .long onr, .long onb])), (off, .inr (1, [.int (nI gw), .long ofr, .long ofb])), (lg, .inr (5, [.ref a1, .ref a2, .ref a3, .ref a4, .int (nI k)])), (ma, .inl (E.2 2, 12, .inr (.inr (.inr (.inr mf))))), (sa, .inl (E.2 0, 12, .inl sf))] (some (.int (nI sn))) (fun cs' => ∃ x x1 x2, cs' = [(lr, .inr (6, [.ref g, .ref st, .ref lg, .ref q, .ref ma, .ref sa, .int (nI (sn + 1))])), (g, .inr (2, [.int (nI gw), .int (nI gh), .int (nI (gw * gh)), .int ec, .int (nI (2 * (gw * gh))), .long ce, .ref ga])), (st, .inr (4, [.ref on, .ref off, .long mu, .long ba, .long bl, .long wh, .int to, .int (b2i wr)])), (on, .inr (1, [.int (nI gw), .long onr, .long onb])), (off, .inr (1, [.int (nI gw), .long ofr, .long ofb])), (lg, .inr (5, [.ref a1, .ref a2, .ref a3, .ref a4, .int (nI k)])), (ma, .inl (E.2 2, 12, .inr (.inr (.inr (.inr (va_up mf sn (some x))))))), (sa, .inl (E.2 0, 12, .inl (upd sf sn (nI k)))), (x, .inr (4, [.ref x1, .ref x2, .long mu, .long ba, .long bl, .long wh, .int to, .int (b2i wr)])), (x1, .inr (1, [.int (nI gw), .long onr, .long onb])), (x2, .inr (1, [.int (nI gw), .long ofr, .long ofb]))]) 3 14 := by
  refine Met.ofW (cc := cX5_mark) (maxL := 1) (ret := (some .int)) (by decide) rfl ?_
  intro p e s m args below meth c s₁ B hml hv
  obtain ⟨rfl, hsz, hE, hP, hD0⟩ := hv
  have hx := B.exec
  have hb := B.bytes
  have hr := B.returns
  have hts := atoms_spec (ws := wsX5_mark) B.pre
  have hown : s.vm.findClass RX5 = some m.cls := findClass_of_methodNamed B.named
  have hlocks := B.notSynchronized
  subst hsz
  have hD := hD0.self (sz := s.heap.size)
  generalize hAe : va_A [(lr, .inr (6, [.ref g, .ref st, .ref lg, .ref q, .ref ma, .ref sa, .int (nI sn)])), (g, .inr (2, [.int (nI gw), .int (nI gh), .int (nI (gw * gh)), .int ec, .int (nI (2 * (gw * gh))), .long ce, .ref ga])), (st, .inr (4, [.ref on, .ref off, .long mu, .long ba, .long bl, .long wh, .int to, .int (b2i wr)])), (on, .inr (1, [.int (nI gw), .long onr, .long onb])), (off, .inr (1, [.int (nI gw), .long ofr, .long ofb])), (lg, .inr (5, [.ref a1, .ref a2, .ref a3, .ref a4, .int (nI k)])), (ma, .inl (E.2 2, 12, .inr (.inr (.inr (.inr mf))))), (sa, .inl (E.2 0, 12, .inl sf))] s.heap.size = A at hD ⊢
  have hA : ∀ q : Nat, s.heap.size ≤ q → A q := fun q h => by rw [← hAe]; exact Or.inr h
  have hS : va_S A s.heap s.heap [] := va_S.rf
  have hP : va_P E.1 vwCl [(lr, .inr (6, [.ref g, .ref st, .ref lg, .ref q, .ref ma, .ref sa, .int (nI sn)])), (g, .inr (2, [.int (nI gw), .int (nI gh), .int (nI (gw * gh)), .int ec, .int (nI (2 * (gw * gh))), .long ce, .ref ga])), (st, .inr (4, [.ref on, .ref off, .long mu, .long ba, .long bl, .long wh, .int to, .int (b2i wr)])), (on, .inr (1, [.int (nI gw), .long onr, .long onb])), (off, .inr (1, [.int (nI gw), .long ofr, .long ofb])), (lg, .inr (5, [.ref a1, .ref a2, .ref a3, .ref a4, .int (nI k)])), (ma, .inl (E.2 2, 12, .inr (.inr (.inr (.inr mf))))), (sa, .inl (E.2 0, 12, .inl sf))] s.heap := hP
  have hl := lv_entry ([.ref lr]) (n := 1) (Nat.le_of_ble_eq_true rfl)
  rw [lg_entry_eq]
  generalize (lg_sl ([.ref lr]) ++ List.replicate (1 - (lg_sl ([.ref lr])).length) Slot.unset).toArray = ls at hl ⊢
  have hl : lv_has ls 1 [(0, .ref lr)] := hl
  have hf_114 := hts (.fieldLink RX5 114 "LoopRegions$StepLog" "count" "I") (by decide +kernel)
  have hf_18 := hts (.fieldLink RX5 18 "LoopRegions" "grid" "LLoopRegions$Grid;") (by decide +kernel)
  have hf_27 := hts (.fieldLink RX5 27 "LoopRegions" "now" "LLoopRegions$State;") (by decide +kernel)
  have hf_43 := hts (.fieldLink RX5 43 "LoopRegions" "log" "LLoopRegions$StepLog;") (by decide +kernel)
  have hf_56 := hts (.fieldLink RX5 56 "LoopRegions" "marks" "[LLoopRegions$State;") (by decide +kernel)
  have hf_60 := hts (.fieldLink RX5 60 "LoopRegions" "stepsAtMark" "[I") (by decide +kernel)
  have hf_64 := hts (.fieldLink RX5 64 "LoopRegions" "standing" "I") (by decide +kernel)
  have hi_RX3 : ∀ w ∈ wsX30, w ∈ wsX5_mark := by decide +kernel
  have hi_RX4 : ∀ w ∈ wsX40, w ∈ wsX5_mark := by decide +kernel
  have hi_RX5 : ∀ w ∈ wsX50, w ∈ wsX5_mark := by decide +kernel
  refine lv_aload_n hx hb dX5_mark_0 rfl (lv_at hl 0 rfl) ?_
  refine va_get (D := E.1) (ci := 6) (v := .int (nI sn)) (C := RX5) (T := TX5) (N := 7) hx hb hts hi_RX5 hown hE.1 hP 0 rfl rfl 6 (by decide) hf_64 (fun _ h9 => h9) rfl dX5_mark_1 ?_
  refine lv_if_lt (tgt := 16) hx hb dX5_mark_4 (by decide) (fun c_4 => ?_) (fun c_4 => ?_)
  · skip
    have m_4 : sn < 0 := (nI_ltI (a := sn) (b := 0) (by omega) (by omega)).mp c_4
    exact absurd c_4 (nI_pos (by omega))
  · skip
    have m_4 : ¬ sn < 0 := fun q => c_4 ((nI_ltI (a := sn) (b := 0) (by omega) (by omega)).mpr q)
    refine lv_aload_n hx hb dX5_mark_7 rfl (lv_at hl 0 rfl) ?_
    refine va_get (D := E.1) (ci := 6) (v := .int (nI sn)) (C := RX5) (T := TX5) (N := 7) hx hb hts hi_RX5 hown hE.1 hP 0 rfl rfl 6 (by decide) hf_64 (fun _ h9 => h9) rfl dX5_mark_8 ?_
    refine lv_bipush (v := 12) hx hb dX5_mark_11 (by decide) ?_
    refine lv_icmp_lt (tgt := 18) hx hb dX5_mark_13 (by decide) (fun c_13 => ?_) (fun c_13 => ?_)
    · skip
      have m_13 : sn < 12 := (nI_ltI (a := sn) (b := 12) (by omega) (by omega)).mp c_13
      refine lv_aload_n hx hb dX5_mark_18 rfl (lv_at hl 0 rfl) ?_
      refine va_get (D := E.1) (ci := 6) (v := .ref ma) (C := RX5) (T := TX5) (N := 7) hx hb hts hi_RX5 hown hE.1 hP 0 rfl rfl 4 (by decide) hf_56 (fun _ h9 => h9) rfl dX5_mark_19 ?_
      refine lv_aload_n hx hb dX5_mark_22 rfl (lv_at hl 0 rfl) ?_
      refine va_get (D := E.1) (ci := 6) (v := .int (nI sn)) (C := RX5) (T := TX5) (N := 7) hx hb hts hi_RX5 hown hE.1 hP 0 rfl rfl 6 (by decide) hf_64 (fun _ h9 => h9) rfl dX5_mark_23 ?_
      refine va_aldq hx hb hE.1 hP 6 2 rfl rfl (show vp_in (nI sn) 12 from vp_in_nI (by omega) (by decide)) dX5_mark_26 ?_
      refine lv_eqv (show va_rf (mf (nI sn : Int32).toNatClampNeg) = .null from by rw [nI_clamp (by omega), hmf]; rfl) ?_
      refine lv_ifnonnullN hx hb dX5_mark_27 ?_
      refine lv_aload_n hx hb dX5_mark_30 rfl (lv_at hl 0 rfl) ?_
      refine va_get (D := E.1) (ci := 6) (v := .ref ma) (C := RX5) (T := TX5) (N := 7) hx hb hts hi_RX5 hown hE.1 hP 0 rfl rfl 4 (by decide) hf_56 (fun _ h9 => h9) rfl dX5_mark_31 ?_
      refine lv_aload_n hx hb dX5_mark_34 rfl (lv_at hl 0 rfl) ?_
      refine va_get (D := E.1) (ci := 6) (v := .int (nI sn)) (C := RX5) (T := TX5) (N := 7) hx hb hts hi_RX5 hown hE.1 hP 0 rfl rfl 6 (by decide) hf_64 (fun _ h9 => h9) rfl dX5_mark_35 ?_
      refine va_new (ci := 4) (fs := [.null, .null, .long 0, .long 0, .long 0, .long 0, .int 0, .int (b2i false)]) (C := RX3) (T := TX3) (N := 8) hx hb hts hi_RX3 tyX3 tyX3_ok hown (hts (.classLink RX5 22 RX3) (by decide +kernel)) (hts (.instantiable RX3 8) (by decide +kernel)) (hts (.initialized RX3) (by decide +kernel)) hE.1 hP hD hS hA rfl (fun j hj => by rcases (show j = 0 ∨ j = 1 ∨ j = 2 ∨ j = 3 ∨ j = 4 ∨ j = 5 ∨ j = 6 ∨ j = 7 by omega) with rfl | rfl | rfl | rfl | rfl | rfl | rfl | rfl <;> rfl) (Nat.le_of_ble_eq_true rfl) (Nat.le_of_ble_eq_true rfl) dX5_mark_38 (fun q_1 H hP hD hS => ?_)
      have hP : va_P E.1 vwCl [(lr, .inr (6, [.ref g, .ref st, .ref lg, .ref q, .ref ma, .ref sa, .int (nI sn)])), (g, .inr (2, [.int (nI gw), .int (nI gh), .int (nI (gw * gh)), .int ec, .int (nI (2 * (gw * gh))), .long ce, .ref ga])), (st, .inr (4, [.ref on, .ref off, .long mu, .long ba, .long bl, .long wh, .int to, .int (b2i wr)])), (on, .inr (1, [.int (nI gw), .long onr, .long onb])), (off, .inr (1, [.int (nI gw), .long ofr, .long ofb])), (lg, .inr (5, [.ref a1, .ref a2, .ref a3, .ref a4, .int (nI k)])), (ma, .inl (E.2 2, 12, .inr (.inr (.inr (.inr mf))))), (sa, .inl (E.2 0, 12, .inl sf)), (q_1, .inr (4, [.null, .null, .long 0, .long 0, .long 0, .long 0, .int 0, .int (b2i false)]))] H := hP
      have hD : va_D A [(lr, .inr (6, [.ref g, .ref st, .ref lg, .ref q, .ref ma, .ref sa, .int (nI sn)])), (g, .inr (2, [.int (nI gw), .int (nI gh), .int (nI (gw * gh)), .int ec, .int (nI (2 * (gw * gh))), .long ce, .ref ga])), (st, .inr (4, [.ref on, .ref off, .long mu, .long ba, .long bl, .long wh, .int to, .int (b2i wr)])), (on, .inr (1, [.int (nI gw), .long onr, .long onb])), (off, .inr (1, [.int (nI gw), .long ofr, .long ofb])), (lg, .inr (5, [.ref a1, .ref a2, .ref a3, .ref a4, .int (nI k)])), (ma, .inl (E.2 2, 12, .inr (.inr (.inr (.inr mf))))), (sa, .inl (E.2 0, 12, .inl sf)), (q_1, .inr (4, [.null, .null, .long 0, .long 0, .long 0, .long 0, .int 0, .int (b2i false)]))] := hD
      refine W.widen (k := 1) (n := 8) (by omega) (by omega) ?_
      refine lv_dup hx hb dX5_mark_41 rfl ?_
      refine lv_aload_n hx hb dX5_mark_42 rfl (lv_at hl 0 rfl) ?_
      refine va_get (D := E.1) (ci := 6) (v := .ref g) (C := RX5) (T := TX5) (N := 7) hx hb hts hi_RX5 hown hE.1 hP 0 rfl rfl 0 (by decide) hf_18 (fun _ h9 => h9) rfl dX5_mark_43 ?_
      refine wrI (As := [.ref g]) (rest := [.ref q_1, .int (nI sn), .ref ma]) (wr := [(lr, .inr (6, [.ref g, .ref st, .ref lg, .ref q, .ref ma, .ref sa, .int (nI sn)])), (st, .inr (4, [.ref on, .ref off, .long mu, .long ba, .long bl, .long wh, .int to, .int (b2i wr)])), (on, .inr (1, [.int (nI gw), .long onr, .long onb])), (off, .inr (1, [.int (nI gw), .long ofr, .long ofb])), (lg, .inr (5, [.ref a1, .ref a2, .ref a3, .ref a4, .int (nI k)])), (ma, .inl (E.2 2, 12, .inr (.inr (.inr (.inr mf))))), (sa, .inl (E.2 0, 12, .inl sf))]) ⟨hx, hb, hml, hown, hts⟩ hE (cX3_init_ct l E H.size q_1 g gw gh ec ce ga) (cwI 1 hts gX5_mark_X3_init rfl rfl rfl (hts (.initialized RX3) (by decide +kernel)) (hts (.methodLink RX5 24 yX3_init) (by decide +kernel)) (hts (.instanceMethod yX3_init) (by decide +kernel)) rfl (by decide +kernel) ⟨Nat.le_of_ble_eq_true rfl, Nat.le_of_ble_eq_true rfl⟩) hP hD hS hA [8, 1] [0, 2, 3, 4, 5, 6, 7] rfl rfl (by decide) (by decide) (hP.sub (ws' := [(q_1, .inr (4, [.null, .null, .long 0, .long 0, .long 0, .long 0, .int 0, .int (b2i false)])), (g, .inr (2, [.int (nI gw), .int (nI gh), .int (nI (gw * gh)), .int ec, .int (nI (2 * (gw * gh))), .long ce, .ref ga]))]) [8, 1] rfl) (hD.sub (ws' := [(q_1, .inr (4, [.null, .null, .long 0, .long 0, .long 0, .long 0, .int 0, .int (b2i false)])), (g, .inr (2, [.int (nI gw), .int (nI gh), .int (nI (gw * gh)), .int ec, .int (nI (2 * (gw * gh))), .long ce, .ref ga]))]) [8, 1] (by decide) rfl) rfl hl.1 rfl (Nat.le_of_ble_eq_true rfl) dX5_mark_46 ⟨(Nat.le_of_ble_eq_true rfl), (Nat.le_of_ble_eq_true rfl)⟩ (fun cs_ H locs h_2 hP hD hS => ?_)
      obtain ⟨q_3, q_4, rfl⟩ := h_2
      have hP : va_P E.1 vwCl [(lr, .inr (6, [.ref g, .ref st, .ref lg, .ref q, .ref ma, .ref sa, .int (nI sn)])), (g, .inr (2, [.int (nI gw), .int (nI gh), .int (nI (gw * gh)), .int ec, .int (nI (2 * (gw * gh))), .long ce, .ref ga])), (st, .inr (4, [.ref on, .ref off, .long mu, .long ba, .long bl, .long wh, .int to, .int (b2i wr)])), (on, .inr (1, [.int (nI gw), .long onr, .long onb])), (off, .inr (1, [.int (nI gw), .long ofr, .long ofb])), (lg, .inr (5, [.ref a1, .ref a2, .ref a3, .ref a4, .int (nI k)])), (ma, .inl (E.2 2, 12, .inr (.inr (.inr (.inr mf))))), (sa, .inl (E.2 0, 12, .inl sf)), (q_1, .inr (4, [.ref q_3, .ref q_4, .long 0, .long 0, .long 0, .long 0, .int (-1), .int (b2i false)])), (q_3, .inr (1, [.int (nI gw), .long 0, .long 0])), (q_4, .inr (1, [.int (nI gw), .long 0, .long 0]))] H := hP.sub [0, 8, 1, 2, 3, 4, 5, 6, 7, 9, 10] rfl
      have hD : va_D A [(lr, .inr (6, [.ref g, .ref st, .ref lg, .ref q, .ref ma, .ref sa, .int (nI sn)])), (g, .inr (2, [.int (nI gw), .int (nI gh), .int (nI (gw * gh)), .int ec, .int (nI (2 * (gw * gh))), .long ce, .ref ga])), (st, .inr (4, [.ref on, .ref off, .long mu, .long ba, .long bl, .long wh, .int to, .int (b2i wr)])), (on, .inr (1, [.int (nI gw), .long onr, .long onb])), (off, .inr (1, [.int (nI gw), .long ofr, .long ofb])), (lg, .inr (5, [.ref a1, .ref a2, .ref a3, .ref a4, .int (nI k)])), (ma, .inl (E.2 2, 12, .inr (.inr (.inr (.inr mf))))), (sa, .inl (E.2 0, 12, .inl sf)), (q_1, .inr (4, [.ref q_3, .ref q_4, .long 0, .long 0, .long 0, .long 0, .int (-1), .int (b2i false)])), (q_3, .inr (1, [.int (nI gw), .long 0, .long 0])), (q_4, .inr (1, [.int (nI gw), .long 0, .long 0]))] := hD.sub [0, 8, 1, 2, 3, 4, 5, 6, 7, 9, 10] (by decide) rfl
      refine W.widen (k := 3) (n := 14) (by omega) (by omega) ?_
      refine va_astq hx hb hE.1 hP hD hS 6 2 8 4 rfl rfl rfl rfl (show vp_in (nI sn) 12 from vp_in_nI (by omega) (by decide)) dX5_mark_49 (fun H locs hP hD hS => ?_)
      rw [show (nI sn : Int32).toNatClampNeg = sn from nI_clamp (by omega)] at hP hD
      have hP : va_P E.1 vwCl [(lr, .inr (6, [.ref g, .ref st, .ref lg, .ref q, .ref ma, .ref sa, .int (nI sn)])), (g, .inr (2, [.int (nI gw), .int (nI gh), .int (nI (gw * gh)), .int ec, .int (nI (2 * (gw * gh))), .long ce, .ref ga])), (st, .inr (4, [.ref on, .ref off, .long mu, .long ba, .long bl, .long wh, .int to, .int (b2i wr)])), (on, .inr (1, [.int (nI gw), .long onr, .long onb])), (off, .inr (1, [.int (nI gw), .long ofr, .long ofb])), (lg, .inr (5, [.ref a1, .ref a2, .ref a3, .ref a4, .int (nI k)])), (ma, .inl (E.2 2, 12, .inr (.inr (.inr (.inr (va_up mf sn (some q_1))))))), (sa, .inl (E.2 0, 12, .inl sf)), (q_1, .inr (4, [.ref q_3, .ref q_4, .long 0, .long 0, .long 0, .long 0, .int (-1), .int (b2i false)])), (q_3, .inr (1, [.int (nI gw), .long 0, .long 0])), (q_4, .inr (1, [.int (nI gw), .long 0, .long 0]))] H := hP
      have hD : va_D A [(lr, .inr (6, [.ref g, .ref st, .ref lg, .ref q, .ref ma, .ref sa, .int (nI sn)])), (g, .inr (2, [.int (nI gw), .int (nI gh), .int (nI (gw * gh)), .int ec, .int (nI (2 * (gw * gh))), .long ce, .ref ga])), (st, .inr (4, [.ref on, .ref off, .long mu, .long ba, .long bl, .long wh, .int to, .int (b2i wr)])), (on, .inr (1, [.int (nI gw), .long onr, .long onb])), (off, .inr (1, [.int (nI gw), .long ofr, .long ofb])), (lg, .inr (5, [.ref a1, .ref a2, .ref a3, .ref a4, .int (nI k)])), (ma, .inl (E.2 2, 12, .inr (.inr (.inr (.inr (va_up mf sn (some q_1))))))), (sa, .inl (E.2 0, 12, .inl sf)), (q_1, .inr (4, [.ref q_3, .ref q_4, .long 0, .long 0, .long 0, .long 0, .int (-1), .int (b2i false)])), (q_3, .inr (1, [.int (nI gw), .long 0, .long 0])), (q_4, .inr (1, [.int (nI gw), .long 0, .long 0]))] := hD
      refine lv_aload_n hx hb dX5_mark_50 rfl (lv_at hl 0 rfl) ?_
      refine va_get (D := E.1) (ci := 6) (v := .ref ma) (C := RX5) (T := TX5) (N := 7) hx hb hts hi_RX5 hown hE.1 hP 0 rfl rfl 4 (by decide) hf_56 (fun _ h9 => h9) rfl dX5_mark_51 ?_
      refine lv_aload_n hx hb dX5_mark_54 rfl (lv_at hl 0 rfl) ?_
      refine va_get (D := E.1) (ci := 6) (v := .int (nI sn)) (C := RX5) (T := TX5) (N := 7) hx hb hts hi_RX5 hown hE.1 hP 0 rfl rfl 6 (by decide) hf_64 (fun _ h9 => h9) rfl dX5_mark_55 ?_
      refine va_aldq hx hb hE.1 hP 6 2 rfl rfl (show vp_in (nI sn) 12 from vp_in_nI (by omega) (by decide)) dX5_mark_58 ?_
      refine lv_eqv (show va_rf ((va_up mf sn (some q_1)) (nI sn : Int32).toNatClampNeg) = .ref q_1 from by rw [nI_clamp (by omega), va_up_self]; rfl) ?_
      refine lv_aload_n hx hb dX5_mark_59 rfl (lv_at hl 0 rfl) ?_
      refine va_get (D := E.1) (ci := 6) (v := .ref st) (C := RX5) (T := TX5) (N := 7) hx hb hts hi_RX5 hown hE.1 hP 0 rfl rfl 1 (by decide) hf_27 (fun _ h9 => h9) rfl dX5_mark_60 ?_
      refine wrV (As := [.ref st]) (rest := []) (wr := [(lr, .inr (6, [.ref g, .ref st, .ref lg, .ref q, .ref ma, .ref sa, .int (nI sn)])), (g, .inr (2, [.int (nI gw), .int (nI gh), .int (nI (gw * gh)), .int ec, .int (nI (2 * (gw * gh))), .long ce, .ref ga])), (lg, .inr (5, [.ref a1, .ref a2, .ref a3, .ref a4, .int (nI k)])), (ma, .inl (E.2 2, 12, .inr (.inr (.inr (.inr (va_up mf sn (some q_1))))))), (sa, .inl (E.2 0, 12, .inl sf))]) ⟨hx, hb, hml, hown, hts⟩ hE (cX3_copy_ct l E H.size q_1 q_3 q_4 0 0 0 0 (-1) false (nI gw) 0 0 (nI gw) 0 0 st on off mu ba bl wh to wr (nI gw) onr onb (nI gw) ofr ofb) (cwV 1 hts gX5_mark_X3_copy rfl rfl rfl (by decide +kernel) ⟨Nat.le_of_ble_eq_true rfl, Nat.le_of_ble_eq_true rfl⟩) hP hD hS hA [8, 9, 10, 2, 3, 4] [0, 1, 5, 6, 7] rfl rfl (by decide) (by decide) (hP.sub (ws' := [(q_1, .inr (4, [.ref q_3, .ref q_4, .long 0, .long 0, .long 0, .long 0, .int (-1), .int (b2i false)])), (q_3, .inr (1, [.int (nI gw), .long 0, .long 0])), (q_4, .inr (1, [.int (nI gw), .long 0, .long 0])), (st, .inr (4, [.ref on, .ref off, .long mu, .long ba, .long bl, .long wh, .int to, .int (b2i wr)])), (on, .inr (1, [.int (nI gw), .long onr, .long onb])), (off, .inr (1, [.int (nI gw), .long ofr, .long ofb]))]) [8, 9, 10, 2, 3, 4] rfl) (hD.sub (ws' := [(q_1, .inr (4, [.ref q_3, .ref q_4, .long 0, .long 0, .long 0, .long 0, .int (-1), .int (b2i false)])), (q_3, .inr (1, [.int (nI gw), .long 0, .long 0])), (q_4, .inr (1, [.int (nI gw), .long 0, .long 0])), (st, .inr (4, [.ref on, .ref off, .long mu, .long ba, .long bl, .long wh, .int to, .int (b2i wr)])), (on, .inr (1, [.int (nI gw), .long onr, .long onb])), (off, .inr (1, [.int (nI gw), .long ofr, .long ofb]))]) [8, 9, 10, 2, 3, 4] (by decide) rfl) (va_recv hE.1 hP (ci := 4) (q0 := 8) rfl rfl) rfl hl.1 rfl (Nat.le_of_ble_eq_true rfl) dX5_mark_63 ⟨(Nat.le_of_ble_eq_true rfl), (Nat.le_of_ble_eq_true rfl)⟩ (fun cs_ H locs h_5 hP hD hS => ?_)
      subst h_5
      have hP : va_P E.1 vwCl [(lr, .inr (6, [.ref g, .ref st, .ref lg, .ref q, .ref ma, .ref sa, .int (nI sn)])), (g, .inr (2, [.int (nI gw), .int (nI gh), .int (nI (gw * gh)), .int ec, .int (nI (2 * (gw * gh))), .long ce, .ref ga])), (st, .inr (4, [.ref on, .ref off, .long mu, .long ba, .long bl, .long wh, .int to, .int (b2i wr)])), (on, .inr (1, [.int (nI gw), .long onr, .long onb])), (off, .inr (1, [.int (nI gw), .long ofr, .long ofb])), (lg, .inr (5, [.ref a1, .ref a2, .ref a3, .ref a4, .int (nI k)])), (ma, .inl (E.2 2, 12, .inr (.inr (.inr (.inr (va_up mf sn (some q_1))))))), (sa, .inl (E.2 0, 12, .inl sf)), (q_1, .inr (4, [.ref q_3, .ref q_4, .long mu, .long ba, .long bl, .long wh, .int to, .int (b2i wr)])), (q_3, .inr (1, [.int (nI gw), .long onr, .long onb])), (q_4, .inr (1, [.int (nI gw), .long ofr, .long ofb]))] H := hP.sub [0, 1, 8, 9, 10, 2, 3, 4, 5, 6, 7] rfl
      have hD : va_D A [(lr, .inr (6, [.ref g, .ref st, .ref lg, .ref q, .ref ma, .ref sa, .int (nI sn)])), (g, .inr (2, [.int (nI gw), .int (nI gh), .int (nI (gw * gh)), .int ec, .int (nI (2 * (gw * gh))), .long ce, .ref ga])), (st, .inr (4, [.ref on, .ref off, .long mu, .long ba, .long bl, .long wh, .int to, .int (b2i wr)])), (on, .inr (1, [.int (nI gw), .long onr, .long onb])), (off, .inr (1, [.int (nI gw), .long ofr, .long ofb])), (lg, .inr (5, [.ref a1, .ref a2, .ref a3, .ref a4, .int (nI k)])), (ma, .inl (E.2 2, 12, .inr (.inr (.inr (.inr (va_up mf sn (some q_1))))))), (sa, .inl (E.2 0, 12, .inl sf)), (q_1, .inr (4, [.ref q_3, .ref q_4, .long mu, .long ba, .long bl, .long wh, .int to, .int (b2i wr)])), (q_3, .inr (1, [.int (nI gw), .long onr, .long onb])), (q_4, .inr (1, [.int (nI gw), .long ofr, .long ofb]))] := hD.sub [0, 1, 8, 9, 10, 2, 3, 4, 5, 6, 7] (by decide) rfl
      refine W.widen (k := 3) (n := 14) (by omega) (by omega) ?_
      refine lv_aload_n hx hb dX5_mark_66 rfl (lv_at hl 0 rfl) ?_
      refine va_get (D := E.1) (ci := 6) (v := .ref sa) (C := RX5) (T := TX5) (N := 7) hx hb hts hi_RX5 hown hE.1 hP 0 rfl rfl 5 (by decide) hf_60 (fun _ h9 => h9) rfl dX5_mark_67 ?_
      refine lv_aload_n hx hb dX5_mark_70 rfl (lv_at hl 0 rfl) ?_
      refine va_get (D := E.1) (ci := 6) (v := .int (nI sn)) (C := RX5) (T := TX5) (N := 7) hx hb hts hi_RX5 hown hE.1 hP 0 rfl rfl 6 (by decide) hf_64 (fun _ h9 => h9) rfl dX5_mark_71 ?_
      refine lv_aload_n hx hb dX5_mark_74 rfl (lv_at hl 0 rfl) ?_
      refine va_get (D := E.1) (ci := 6) (v := .ref lg) (C := RX5) (T := TX5) (N := 7) hx hb hts hi_RX5 hown hE.1 hP 0 rfl rfl 2 (by decide) hf_43 (fun _ h9 => h9) rfl dX5_mark_75 ?_
      refine va_get (D := E.1) (ci := 5) (v := .int (nI k)) (C := RX4) (T := TX4) (N := 5) hx hb hts hi_RX4 hown hE.1 hP 5 rfl rfl 4 (by decide) hf_114 (fun _ h9 => h9) rfl dX5_mark_78 ?_
      refine va_iast hx hb hE.1 hP hD hS 7 0 rfl rfl (show vp_in (nI sn) 12 from vp_in_nI (by omega) (by decide)) dX5_mark_81 (fun H locs hP hD hS => ?_)
      rw [show (nI sn : Int32).toNatClampNeg = sn from nI_clamp (by omega)] at hP hD
      have hP : va_P E.1 vwCl [(lr, .inr (6, [.ref g, .ref st, .ref lg, .ref q, .ref ma, .ref sa, .int (nI sn)])), (g, .inr (2, [.int (nI gw), .int (nI gh), .int (nI (gw * gh)), .int ec, .int (nI (2 * (gw * gh))), .long ce, .ref ga])), (st, .inr (4, [.ref on, .ref off, .long mu, .long ba, .long bl, .long wh, .int to, .int (b2i wr)])), (on, .inr (1, [.int (nI gw), .long onr, .long onb])), (off, .inr (1, [.int (nI gw), .long ofr, .long ofb])), (lg, .inr (5, [.ref a1, .ref a2, .ref a3, .ref a4, .int (nI k)])), (ma, .inl (E.2 2, 12, .inr (.inr (.inr (.inr (va_up mf sn (some q_1))))))), (sa, .inl (E.2 0, 12, .inl (upd sf sn (nI k)))), (q_1, .inr (4, [.ref q_3, .ref q_4, .long mu, .long ba, .long bl, .long wh, .int to, .int (b2i wr)])), (q_3, .inr (1, [.int (nI gw), .long onr, .long onb])), (q_4, .inr (1, [.int (nI gw), .long ofr, .long ofb]))] H := hP
      have hD : va_D A [(lr, .inr (6, [.ref g, .ref st, .ref lg, .ref q, .ref ma, .ref sa, .int (nI sn)])), (g, .inr (2, [.int (nI gw), .int (nI gh), .int (nI (gw * gh)), .int ec, .int (nI (2 * (gw * gh))), .long ce, .ref ga])), (st, .inr (4, [.ref on, .ref off, .long mu, .long ba, .long bl, .long wh, .int to, .int (b2i wr)])), (on, .inr (1, [.int (nI gw), .long onr, .long onb])), (off, .inr (1, [.int (nI gw), .long ofr, .long ofb])), (lg, .inr (5, [.ref a1, .ref a2, .ref a3, .ref a4, .int (nI k)])), (ma, .inl (E.2 2, 12, .inr (.inr (.inr (.inr (va_up mf sn (some q_1))))))), (sa, .inl (E.2 0, 12, .inl (upd sf sn (nI k)))), (q_1, .inr (4, [.ref q_3, .ref q_4, .long mu, .long ba, .long bl, .long wh, .int to, .int (b2i wr)])), (q_3, .inr (1, [.int (nI gw), .long onr, .long onb])), (q_4, .inr (1, [.int (nI gw), .long ofr, .long ofb]))] := hD
      refine lv_aload_n hx hb dX5_mark_82 rfl (lv_at hl 0 rfl) ?_
      refine lv_dup hx hb dX5_mark_83 rfl ?_
      refine va_get (D := E.1) (ci := 6) (v := .int (nI sn)) (C := RX5) (T := TX5) (N := 7) hx hb hts hi_RX5 hown hE.1 hP 0 rfl rfl 6 (by decide) hf_64 (fun _ h9 => h9) rfl dX5_mark_84 ?_
      refine lv_iconst (v := 1) hx hb dX5_mark_87 (by decide) ?_
      refine lv_iadd hx hb dX5_mark_88 ?_
      refine lv_eqi (show ((nI sn) + 1 : Int32) = nI (sn + 1) from nI_add sn 1) ?_
      refine va_put (D := E.1) (ci := 6) (v := .int (nI (sn + 1))) (ty := .int) (C := RX5) (T := TX5) (N := 7) hx hb hts hi_RX5 tyX5 tyX5_ok nmX5 hown hE.1 hP hD hS 0 rfl rfl 6 (by decide) hf_64 (fun _ h9 => h9) rfl (by decide +kernel) (rfl) (rfl) (Nat.le_of_ble_eq_true rfl) dX5_mark_89 (fun H locs hP hD hS => ?_)
      have hP : va_P E.1 vwCl [(lr, .inr (6, [.ref g, .ref st, .ref lg, .ref q, .ref ma, .ref sa, .int (nI (sn + 1))])), (g, .inr (2, [.int (nI gw), .int (nI gh), .int (nI (gw * gh)), .int ec, .int (nI (2 * (gw * gh))), .long ce, .ref ga])), (st, .inr (4, [.ref on, .ref off, .long mu, .long ba, .long bl, .long wh, .int to, .int (b2i wr)])), (on, .inr (1, [.int (nI gw), .long onr, .long onb])), (off, .inr (1, [.int (nI gw), .long ofr, .long ofb])), (lg, .inr (5, [.ref a1, .ref a2, .ref a3, .ref a4, .int (nI k)])), (ma, .inl (E.2 2, 12, .inr (.inr (.inr (.inr (va_up mf sn (some q_1))))))), (sa, .inl (E.2 0, 12, .inl (upd sf sn (nI k)))), (q_1, .inr (4, [.ref q_3, .ref q_4, .long mu, .long ba, .long bl, .long wh, .int to, .int (b2i wr)])), (q_3, .inr (1, [.int (nI gw), .long onr, .long onb])), (q_4, .inr (1, [.int (nI gw), .long ofr, .long ofb]))] H := hP
      have hD : va_D A [(lr, .inr (6, [.ref g, .ref st, .ref lg, .ref q, .ref ma, .ref sa, .int (nI (sn + 1))])), (g, .inr (2, [.int (nI gw), .int (nI gh), .int (nI (gw * gh)), .int ec, .int (nI (2 * (gw * gh))), .long ce, .ref ga])), (st, .inr (4, [.ref on, .ref off, .long mu, .long ba, .long bl, .long wh, .int to, .int (b2i wr)])), (on, .inr (1, [.int (nI gw), .long onr, .long onb])), (off, .inr (1, [.int (nI gw), .long ofr, .long ofb])), (lg, .inr (5, [.ref a1, .ref a2, .ref a3, .ref a4, .int (nI k)])), (ma, .inl (E.2 2, 12, .inr (.inr (.inr (.inr (va_up mf sn (some q_1))))))), (sa, .inl (E.2 0, 12, .inl (upd sf sn (nI k)))), (q_1, .inr (4, [.ref q_3, .ref q_4, .long mu, .long ba, .long bl, .long wh, .int to, .int (b2i wr)])), (q_3, .inr (1, [.int (nI gw), .long onr, .long onb])), (q_4, .inr (1, [.int (nI gw), .long ofr, .long ofb]))] := hD
      refine lv_aload_n hx hb dX5_mark_92 rfl (lv_at hl 0 rfl) ?_
      refine va_get (D := E.1) (ci := 6) (v := .int (nI (sn + 1))) (C := RX5) (T := TX5) (N := 7) hx hb hts hi_RX5 hown hE.1 hP 0 rfl rfl 6 (by decide) hf_64 (fun _ h9 => h9) rfl dX5_mark_93 ?_
      refine lv_iconst (v := 1) hx hb dX5_mark_96 (by decide) ?_
      refine lv_isub hx hb dX5_mark_97 ?_
      refine lv_eqi (show ((nI (sn + 1)) - 1 : Int32) = nI ((sn + 1) - 1) from pk_sub (a := (sn + 1)) (b := 1) (by omega)) ?_
      refine W.widen (k := 3) (n := 14) (Nat.le_of_ble_eq_true rfl) (Nat.le_of_ble_eq_true rfl) ?_
      exact W.iret (v := nI ((sn + 1) - 1)) hx hb hr (fun t9 ht9 hW => ⟨⟨rfl, [(lr, .inr (6, [.ref g, .ref st, .ref lg, .ref q, .ref ma, .ref sa, .int (nI (sn + 1))])), (g, .inr (2, [.int (nI gw), .int (nI gh), .int (nI (gw * gh)), .int ec, .int (nI (2 * (gw * gh))), .long ce, .ref ga])), (st, .inr (4, [.ref on, .ref off, .long mu, .long ba, .long bl, .long wh, .int to, .int (b2i wr)])), (on, .inr (1, [.int (nI gw), .long onr, .long onb])), (off, .inr (1, [.int (nI gw), .long ofr, .long ofb])), (lg, .inr (5, [.ref a1, .ref a2, .ref a3, .ref a4, .int (nI k)])), (ma, .inl (E.2 2, 12, .inr (.inr (.inr (.inr (va_up mf sn (some q_1))))))), (sa, .inl (E.2 0, 12, .inl (upd sf sn (nI k)))), (q_1, .inr (4, [.ref q_3, .ref q_4, .long mu, .long ba, .long bl, .long wh, .int to, .int (b2i wr)])), (q_3, .inr (1, [.int (nI gw), .long onr, .long onb])), (q_4, .inr (1, [.int (nI gw), .long ofr, .long ofb]))], ⟨_, _, _, rfl⟩, by rw [ht9]; exact hP, hD⟩, hS.F ht9⟩) hS.2.2 dX5_mark_98
    · skip
      have m_13 : ¬ sn < 12 := fun q => c_13 ((nI_ltI (a := sn) (b := 12) (by omega) (by omega)).mpr q)
      exact absurd hsn m_13
set_option maxHeartbeats 4000000 in
set_option maxRecDepth 100000 in
theorem cX5_markO_ct (l : Launch) (E : GE) (sz : Nat) (q : Nat) (g : Nat) (st : Nat) (on : Nat) (off : Nat) (lg : Nat) (a1 : Nat) (a2 : Nat) (a3 : Nat) (a4 : Nat) (gw : Nat) (onr : Int64) (onb : Int64) (ofr : Int64) (ofb : Int64) (mu : Int64) (ba : Int64) (bl : Int64) (wh : Int64) (to : Int32) (wr : Bool) (k : Nat) (lr : Nat) (ma : Nat) (sa : Nat) (sn : Nat) (mf : Nat → Option Nat) (sf : Nat → Int32) (x : Nat) (x1 : Nat) (x2 : Nat) (xmu : Int64) (xba : Int64) (xbl : Int64) (xwh : Int64) (xto : Int32) (xwr : Bool) (xonr : Int64) (xonb : Int64) (xofr : Int64) (xofb : Int64)  (hsn : sn < 12) (hmf : mf sn = some x) : wrM l yX5_mark wsX5_mark ({ frames := 2, cells := 0, slots := 0, locals := 42 }) E sz [.ref lr] [(lr, .inr (6, [.ref g, .ref st, .ref lg, .ref q, .ref ma, .ref sa, .int (nI sn)])), (st, .inr (4, [.ref on, .ref off, .long mu, .long ba, .long bl, .long wh, .int to, .int (b2i wr)])), (on, .inr (1, [.int (nI gw), .long onr, .long onb])), (off, .inr (1, [.int (nI gw), .long ofr, .long ofb])), (lg, .inr (5, [.ref a1, .ref a2, .ref a3, .ref a4, .int (nI k)])), (ma, .inl (E.2 2, 12, .inr (.inr (.inr (.inr mf))))), (sa, .inl (E.2 0, 12, .inl sf)), (x, .inr (4, [.ref x1, .ref x2, .long xmu, .long xba, .long xbl, .long xwh, .int xto, .int (b2i xwr)])), (x1, .inr (1, [.int (nI gw), .long xonr, .long xonb])), (x2, .inr (1, [.int (nI gw), .long xofr, .long xofb]))] (some (.int (nI sn))) (fun cs' => cs' = [(lr, .inr (6, [.ref g, .ref st, .ref lg, .ref q, .ref ma, .ref sa, .int (nI (sn + 1))])), (st, .inr (4, [.ref on, .ref off, .long mu, .long ba, .long bl, .long wh, .int to, .int (b2i wr)])), (on, .inr (1, [.int (nI gw), .long onr, .long onb])), (off, .inr (1, [.int (nI gw), .long ofr, .long ofb])), (lg, .inr (5, [.ref a1, .ref a2, .ref a3, .ref a4, .int (nI k)])), (ma, .inl (E.2 2, 12, .inr (.inr (.inr (.inr mf))))), (sa, .inl (E.2 0, 12, .inl (upd sf sn (nI k)))), (x, .inr (4, [.ref x1, .ref x2, .long mu, .long ba, .long bl, .long wh, .int to, .int (b2i wr)])), (x1, .inr (1, [.int (nI gw), .long onr, .long onb])), (x2, .inr (1, [.int (nI gw), .long ofr, .long ofb]))]) 0 0 := by
  refine Met.ofW (cc := cX5_mark) (maxL := 1) (ret := (some .int)) (by decide) rfl ?_
  intro p e s m args below meth c s₁ B hml hv
  obtain ⟨rfl, hsz, hE, hP, hD0⟩ := hv
  have hx := B.exec
  have hb := B.bytes
  have hr := B.returns
  have hts := atoms_spec (ws := wsX5_mark) B.pre
  have hown : s.vm.findClass RX5 = some m.cls := findClass_of_methodNamed B.named
  have hlocks := B.notSynchronized
  subst hsz
  have hD := hD0.self (sz := s.heap.size)
  generalize hAe : va_A [(lr, .inr (6, [.ref g, .ref st, .ref lg, .ref q, .ref ma, .ref sa, .int (nI sn)])), (st, .inr (4, [.ref on, .ref off, .long mu, .long ba, .long bl, .long wh, .int to, .int (b2i wr)])), (on, .inr (1, [.int (nI gw), .long onr, .long onb])), (off, .inr (1, [.int (nI gw), .long ofr, .long ofb])), (lg, .inr (5, [.ref a1, .ref a2, .ref a3, .ref a4, .int (nI k)])), (ma, .inl (E.2 2, 12, .inr (.inr (.inr (.inr mf))))), (sa, .inl (E.2 0, 12, .inl sf)), (x, .inr (4, [.ref x1, .ref x2, .long xmu, .long xba, .long xbl, .long xwh, .int xto, .int (b2i xwr)])), (x1, .inr (1, [.int (nI gw), .long xonr, .long xonb])), (x2, .inr (1, [.int (nI gw), .long xofr, .long xofb]))] s.heap.size = A at hD ⊢
  have hA : ∀ q : Nat, s.heap.size ≤ q → A q := fun q h => by rw [← hAe]; exact Or.inr h
  have hS : va_S A s.heap s.heap [] := va_S.rf
  have hP : va_P E.1 vwCl [(lr, .inr (6, [.ref g, .ref st, .ref lg, .ref q, .ref ma, .ref sa, .int (nI sn)])), (st, .inr (4, [.ref on, .ref off, .long mu, .long ba, .long bl, .long wh, .int to, .int (b2i wr)])), (on, .inr (1, [.int (nI gw), .long onr, .long onb])), (off, .inr (1, [.int (nI gw), .long ofr, .long ofb])), (lg, .inr (5, [.ref a1, .ref a2, .ref a3, .ref a4, .int (nI k)])), (ma, .inl (E.2 2, 12, .inr (.inr (.inr (.inr mf))))), (sa, .inl (E.2 0, 12, .inl sf)), (x, .inr (4, [.ref x1, .ref x2, .long xmu, .long xba, .long xbl, .long xwh, .int xto, .int (b2i xwr)])), (x1, .inr (1, [.int (nI gw), .long xonr, .long xonb])), (x2, .inr (1, [.int (nI gw), .long xofr, .long xofb]))] s.heap := hP
  have hl := lv_entry ([.ref lr]) (n := 1) (Nat.le_of_ble_eq_true rfl)
  rw [lg_entry_eq]
  generalize (lg_sl ([.ref lr]) ++ List.replicate (1 - (lg_sl ([.ref lr])).length) Slot.unset).toArray = ls at hl ⊢
  have hl : lv_has ls 1 [(0, .ref lr)] := hl
  have hf_114 := hts (.fieldLink RX5 114 "LoopRegions$StepLog" "count" "I") (by decide +kernel)
  have hf_27 := hts (.fieldLink RX5 27 "LoopRegions" "now" "LLoopRegions$State;") (by decide +kernel)
  have hf_43 := hts (.fieldLink RX5 43 "LoopRegions" "log" "LLoopRegions$StepLog;") (by decide +kernel)
  have hf_56 := hts (.fieldLink RX5 56 "LoopRegions" "marks" "[LLoopRegions$State;") (by decide +kernel)
  have hf_60 := hts (.fieldLink RX5 60 "LoopRegions" "stepsAtMark" "[I") (by decide +kernel)
  have hf_64 := hts (.fieldLink RX5 64 "LoopRegions" "standing" "I") (by decide +kernel)
  have hi_RX4 : ∀ w ∈ wsX40, w ∈ wsX5_mark := by decide +kernel
  have hi_RX5 : ∀ w ∈ wsX50, w ∈ wsX5_mark := by decide +kernel
  refine lv_aload_n hx hb dX5_mark_0 rfl (lv_at hl 0 rfl) ?_
  refine va_get (D := E.1) (ci := 6) (v := .int (nI sn)) (C := RX5) (T := TX5) (N := 7) hx hb hts hi_RX5 hown hE.1 hP 0 rfl rfl 6 (by decide) hf_64 (fun _ h9 => h9) rfl dX5_mark_1 ?_
  refine lv_if_lt (tgt := 16) hx hb dX5_mark_4 (by decide) (fun c_4 => ?_) (fun c_4 => ?_)
  · skip
    have m_4 : sn < 0 := (nI_ltI (a := sn) (b := 0) (by omega) (by omega)).mp c_4
    exact absurd c_4 (nI_pos (by omega))
  · skip
    have m_4 : ¬ sn < 0 := fun q => c_4 ((nI_ltI (a := sn) (b := 0) (by omega) (by omega)).mpr q)
    refine lv_aload_n hx hb dX5_mark_7 rfl (lv_at hl 0 rfl) ?_
    refine va_get (D := E.1) (ci := 6) (v := .int (nI sn)) (C := RX5) (T := TX5) (N := 7) hx hb hts hi_RX5 hown hE.1 hP 0 rfl rfl 6 (by decide) hf_64 (fun _ h9 => h9) rfl dX5_mark_8 ?_
    refine lv_bipush (v := 12) hx hb dX5_mark_11 (by decide) ?_
    refine lv_icmp_lt (tgt := 18) hx hb dX5_mark_13 (by decide) (fun c_13 => ?_) (fun c_13 => ?_)
    · skip
      have m_13 : sn < 12 := (nI_ltI (a := sn) (b := 12) (by omega) (by omega)).mp c_13
      refine lv_aload_n hx hb dX5_mark_18 rfl (lv_at hl 0 rfl) ?_
      refine va_get (D := E.1) (ci := 6) (v := .ref ma) (C := RX5) (T := TX5) (N := 7) hx hb hts hi_RX5 hown hE.1 hP 0 rfl rfl 4 (by decide) hf_56 (fun _ h9 => h9) rfl dX5_mark_19 ?_
      refine lv_aload_n hx hb dX5_mark_22 rfl (lv_at hl 0 rfl) ?_
      refine va_get (D := E.1) (ci := 6) (v := .int (nI sn)) (C := RX5) (T := TX5) (N := 7) hx hb hts hi_RX5 hown hE.1 hP 0 rfl rfl 6 (by decide) hf_64 (fun _ h9 => h9) rfl dX5_mark_23 ?_
      refine va_aldq hx hb hE.1 hP 5 2 rfl rfl (show vp_in (nI sn) 12 from vp_in_nI (by omega) (by decide)) dX5_mark_26 ?_
      refine lv_eqv (show va_rf (mf (nI sn : Int32).toNatClampNeg) = .ref x from by rw [nI_clamp (by omega), hmf]; rfl) ?_
      refine lv_ifnonnull (tgt := 50) hx hb dX5_mark_27 (by decide) ?_
      refine lv_aload_n hx hb dX5_mark_50 rfl (lv_at hl 0 rfl) ?_
      refine va_get (D := E.1) (ci := 6) (v := .ref ma) (C := RX5) (T := TX5) (N := 7) hx hb hts hi_RX5 hown hE.1 hP 0 rfl rfl 4 (by decide) hf_56 (fun _ h9 => h9) rfl dX5_mark_51 ?_
      refine lv_aload_n hx hb dX5_mark_54 rfl (lv_at hl 0 rfl) ?_
      refine va_get (D := E.1) (ci := 6) (v := .int (nI sn)) (C := RX5) (T := TX5) (N := 7) hx hb hts hi_RX5 hown hE.1 hP 0 rfl rfl 6 (by decide) hf_64 (fun _ h9 => h9) rfl dX5_mark_55 ?_
      refine va_aldq hx hb hE.1 hP 5 2 rfl rfl (show vp_in (nI sn) 12 from vp_in_nI (by omega) (by decide)) dX5_mark_58 ?_
      refine lv_eqv (show va_rf (mf (nI sn : Int32).toNatClampNeg) = .ref x from by rw [nI_clamp (by omega), hmf]; rfl) ?_
      refine lv_aload_n hx hb dX5_mark_59 rfl (lv_at hl 0 rfl) ?_
      refine va_get (D := E.1) (ci := 6) (v := .ref st) (C := RX5) (T := TX5) (N := 7) hx hb hts hi_RX5 hown hE.1 hP 0 rfl rfl 1 (by decide) hf_27 (fun _ h9 => h9) rfl dX5_mark_60 ?_
      refine wrV (As := [.ref st]) (rest := []) (wr := [(lr, .inr (6, [.ref g, .ref st, .ref lg, .ref q, .ref ma, .ref sa, .int (nI sn)])), (lg, .inr (5, [.ref a1, .ref a2, .ref a3, .ref a4, .int (nI k)])), (ma, .inl (E.2 2, 12, .inr (.inr (.inr (.inr mf))))), (sa, .inl (E.2 0, 12, .inl sf))]) ⟨hx, hb, hml, hown, hts⟩ hE (cX3_copy_ct l E s.heap.size x x1 x2 xmu xba xbl xwh xto xwr (nI gw) xonr xonb (nI gw) xofr xofb st on off mu ba bl wh to wr (nI gw) onr onb (nI gw) ofr ofb) (cwV 1 hts gX5_mark_X3_copy rfl rfl rfl (by decide +kernel) ⟨Nat.le_of_ble_eq_true rfl, Nat.le_of_ble_eq_true rfl⟩) hP hD hS hA [7, 8, 9, 1, 2, 3] [0, 4, 5, 6] rfl rfl (by decide) (by decide) (hP.sub (ws' := [(x, .inr (4, [.ref x1, .ref x2, .long xmu, .long xba, .long xbl, .long xwh, .int xto, .int (b2i xwr)])), (x1, .inr (1, [.int (nI gw), .long xonr, .long xonb])), (x2, .inr (1, [.int (nI gw), .long xofr, .long xofb])), (st, .inr (4, [.ref on, .ref off, .long mu, .long ba, .long bl, .long wh, .int to, .int (b2i wr)])), (on, .inr (1, [.int (nI gw), .long onr, .long onb])), (off, .inr (1, [.int (nI gw), .long ofr, .long ofb]))]) [7, 8, 9, 1, 2, 3] rfl) (hD.sub (ws' := [(x, .inr (4, [.ref x1, .ref x2, .long xmu, .long xba, .long xbl, .long xwh, .int xto, .int (b2i xwr)])), (x1, .inr (1, [.int (nI gw), .long xonr, .long xonb])), (x2, .inr (1, [.int (nI gw), .long xofr, .long xofb])), (st, .inr (4, [.ref on, .ref off, .long mu, .long ba, .long bl, .long wh, .int to, .int (b2i wr)])), (on, .inr (1, [.int (nI gw), .long onr, .long onb])), (off, .inr (1, [.int (nI gw), .long ofr, .long ofb]))]) [7, 8, 9, 1, 2, 3] (by decide) rfl) (va_recv hE.1 hP (ci := 4) (q0 := 7) rfl rfl) rfl hl.1 rfl (Nat.le_of_ble_eq_true rfl) dX5_mark_63 ⟨Nat.zero_le _, Nat.zero_le _⟩ (fun cs_ H locs h_1 hP hD hS => ?_)
      subst h_1
      have hP : va_P E.1 vwCl [(lr, .inr (6, [.ref g, .ref st, .ref lg, .ref q, .ref ma, .ref sa, .int (nI sn)])), (st, .inr (4, [.ref on, .ref off, .long mu, .long ba, .long bl, .long wh, .int to, .int (b2i wr)])), (on, .inr (1, [.int (nI gw), .long onr, .long onb])), (off, .inr (1, [.int (nI gw), .long ofr, .long ofb])), (lg, .inr (5, [.ref a1, .ref a2, .ref a3, .ref a4, .int (nI k)])), (ma, .inl (E.2 2, 12, .inr (.inr (.inr (.inr mf))))), (sa, .inl (E.2 0, 12, .inl sf)), (x, .inr (4, [.ref x1, .ref x2, .long mu, .long ba, .long bl, .long wh, .int to, .int (b2i wr)])), (x1, .inr (1, [.int (nI gw), .long onr, .long onb])), (x2, .inr (1, [.int (nI gw), .long ofr, .long ofb]))] H := hP.sub [0, 7, 8, 9, 1, 2, 3, 4, 5, 6] rfl
      have hD : va_D A [(lr, .inr (6, [.ref g, .ref st, .ref lg, .ref q, .ref ma, .ref sa, .int (nI sn)])), (st, .inr (4, [.ref on, .ref off, .long mu, .long ba, .long bl, .long wh, .int to, .int (b2i wr)])), (on, .inr (1, [.int (nI gw), .long onr, .long onb])), (off, .inr (1, [.int (nI gw), .long ofr, .long ofb])), (lg, .inr (5, [.ref a1, .ref a2, .ref a3, .ref a4, .int (nI k)])), (ma, .inl (E.2 2, 12, .inr (.inr (.inr (.inr mf))))), (sa, .inl (E.2 0, 12, .inl sf)), (x, .inr (4, [.ref x1, .ref x2, .long mu, .long ba, .long bl, .long wh, .int to, .int (b2i wr)])), (x1, .inr (1, [.int (nI gw), .long onr, .long onb])), (x2, .inr (1, [.int (nI gw), .long ofr, .long ofb]))] := hD.sub [0, 7, 8, 9, 1, 2, 3, 4, 5, 6] (by decide) rfl
      refine lv_aload_n hx hb dX5_mark_66 rfl (lv_at hl 0 rfl) ?_
      refine va_get (D := E.1) (ci := 6) (v := .ref sa) (C := RX5) (T := TX5) (N := 7) hx hb hts hi_RX5 hown hE.1 hP 0 rfl rfl 5 (by decide) hf_60 (fun _ h9 => h9) rfl dX5_mark_67 ?_
      refine lv_aload_n hx hb dX5_mark_70 rfl (lv_at hl 0 rfl) ?_
      refine va_get (D := E.1) (ci := 6) (v := .int (nI sn)) (C := RX5) (T := TX5) (N := 7) hx hb hts hi_RX5 hown hE.1 hP 0 rfl rfl 6 (by decide) hf_64 (fun _ h9 => h9) rfl dX5_mark_71 ?_
      refine lv_aload_n hx hb dX5_mark_74 rfl (lv_at hl 0 rfl) ?_
      refine va_get (D := E.1) (ci := 6) (v := .ref lg) (C := RX5) (T := TX5) (N := 7) hx hb hts hi_RX5 hown hE.1 hP 0 rfl rfl 2 (by decide) hf_43 (fun _ h9 => h9) rfl dX5_mark_75 ?_
      refine va_get (D := E.1) (ci := 5) (v := .int (nI k)) (C := RX4) (T := TX4) (N := 5) hx hb hts hi_RX4 hown hE.1 hP 4 rfl rfl 4 (by decide) hf_114 (fun _ h9 => h9) rfl dX5_mark_78 ?_
      refine va_iast hx hb hE.1 hP hD hS 6 0 rfl rfl (show vp_in (nI sn) 12 from vp_in_nI (by omega) (by decide)) dX5_mark_81 (fun H locs hP hD hS => ?_)
      rw [show (nI sn : Int32).toNatClampNeg = sn from nI_clamp (by omega)] at hP hD
      have hP : va_P E.1 vwCl [(lr, .inr (6, [.ref g, .ref st, .ref lg, .ref q, .ref ma, .ref sa, .int (nI sn)])), (st, .inr (4, [.ref on, .ref off, .long mu, .long ba, .long bl, .long wh, .int to, .int (b2i wr)])), (on, .inr (1, [.int (nI gw), .long onr, .long onb])), (off, .inr (1, [.int (nI gw), .long ofr, .long ofb])), (lg, .inr (5, [.ref a1, .ref a2, .ref a3, .ref a4, .int (nI k)])), (ma, .inl (E.2 2, 12, .inr (.inr (.inr (.inr mf))))), (sa, .inl (E.2 0, 12, .inl (upd sf sn (nI k)))), (x, .inr (4, [.ref x1, .ref x2, .long mu, .long ba, .long bl, .long wh, .int to, .int (b2i wr)])), (x1, .inr (1, [.int (nI gw), .long onr, .long onb])), (x2, .inr (1, [.int (nI gw), .long ofr, .long ofb]))] H := hP
      have hD : va_D A [(lr, .inr (6, [.ref g, .ref st, .ref lg, .ref q, .ref ma, .ref sa, .int (nI sn)])), (st, .inr (4, [.ref on, .ref off, .long mu, .long ba, .long bl, .long wh, .int to, .int (b2i wr)])), (on, .inr (1, [.int (nI gw), .long onr, .long onb])), (off, .inr (1, [.int (nI gw), .long ofr, .long ofb])), (lg, .inr (5, [.ref a1, .ref a2, .ref a3, .ref a4, .int (nI k)])), (ma, .inl (E.2 2, 12, .inr (.inr (.inr (.inr mf))))), (sa, .inl (E.2 0, 12, .inl (upd sf sn (nI k)))), (x, .inr (4, [.ref x1, .ref x2, .long mu, .long ba, .long bl, .long wh, .int to, .int (b2i wr)])), (x1, .inr (1, [.int (nI gw), .long onr, .long onb])), (x2, .inr (1, [.int (nI gw), .long ofr, .long ofb]))] := hD
      refine lv_aload_n hx hb dX5_mark_82 rfl (lv_at hl 0 rfl) ?_
      refine lv_dup hx hb dX5_mark_83 rfl ?_
      refine va_get (D := E.1) (ci := 6) (v := .int (nI sn)) (C := RX5) (T := TX5) (N := 7) hx hb hts hi_RX5 hown hE.1 hP 0 rfl rfl 6 (by decide) hf_64 (fun _ h9 => h9) rfl dX5_mark_84 ?_
      refine lv_iconst (v := 1) hx hb dX5_mark_87 (by decide) ?_
      refine lv_iadd hx hb dX5_mark_88 ?_
      refine lv_eqi (show ((nI sn) + 1 : Int32) = nI (sn + 1) from nI_add sn 1) ?_
      refine va_put (D := E.1) (ci := 6) (v := .int (nI (sn + 1))) (ty := .int) (C := RX5) (T := TX5) (N := 7) hx hb hts hi_RX5 tyX5 tyX5_ok nmX5 hown hE.1 hP hD hS 0 rfl rfl 6 (by decide) hf_64 (fun _ h9 => h9) rfl (by decide +kernel) (rfl) (rfl) (Nat.le_of_ble_eq_true rfl) dX5_mark_89 (fun H locs hP hD hS => ?_)
      have hP : va_P E.1 vwCl [(lr, .inr (6, [.ref g, .ref st, .ref lg, .ref q, .ref ma, .ref sa, .int (nI (sn + 1))])), (st, .inr (4, [.ref on, .ref off, .long mu, .long ba, .long bl, .long wh, .int to, .int (b2i wr)])), (on, .inr (1, [.int (nI gw), .long onr, .long onb])), (off, .inr (1, [.int (nI gw), .long ofr, .long ofb])), (lg, .inr (5, [.ref a1, .ref a2, .ref a3, .ref a4, .int (nI k)])), (ma, .inl (E.2 2, 12, .inr (.inr (.inr (.inr mf))))), (sa, .inl (E.2 0, 12, .inl (upd sf sn (nI k)))), (x, .inr (4, [.ref x1, .ref x2, .long mu, .long ba, .long bl, .long wh, .int to, .int (b2i wr)])), (x1, .inr (1, [.int (nI gw), .long onr, .long onb])), (x2, .inr (1, [.int (nI gw), .long ofr, .long ofb]))] H := hP
      have hD : va_D A [(lr, .inr (6, [.ref g, .ref st, .ref lg, .ref q, .ref ma, .ref sa, .int (nI (sn + 1))])), (st, .inr (4, [.ref on, .ref off, .long mu, .long ba, .long bl, .long wh, .int to, .int (b2i wr)])), (on, .inr (1, [.int (nI gw), .long onr, .long onb])), (off, .inr (1, [.int (nI gw), .long ofr, .long ofb])), (lg, .inr (5, [.ref a1, .ref a2, .ref a3, .ref a4, .int (nI k)])), (ma, .inl (E.2 2, 12, .inr (.inr (.inr (.inr mf))))), (sa, .inl (E.2 0, 12, .inl (upd sf sn (nI k)))), (x, .inr (4, [.ref x1, .ref x2, .long mu, .long ba, .long bl, .long wh, .int to, .int (b2i wr)])), (x1, .inr (1, [.int (nI gw), .long onr, .long onb])), (x2, .inr (1, [.int (nI gw), .long ofr, .long ofb]))] := hD
      refine lv_aload_n hx hb dX5_mark_92 rfl (lv_at hl 0 rfl) ?_
      refine va_get (D := E.1) (ci := 6) (v := .int (nI (sn + 1))) (C := RX5) (T := TX5) (N := 7) hx hb hts hi_RX5 hown hE.1 hP 0 rfl rfl 6 (by decide) hf_64 (fun _ h9 => h9) rfl dX5_mark_93 ?_
      refine lv_iconst (v := 1) hx hb dX5_mark_96 (by decide) ?_
      refine lv_isub hx hb dX5_mark_97 ?_
      refine lv_eqi (show ((nI (sn + 1)) - 1 : Int32) = nI ((sn + 1) - 1) from pk_sub (a := (sn + 1)) (b := 1) (by omega)) ?_
      exact W.iret (v := nI ((sn + 1) - 1)) hx hb hr (fun t9 ht9 hW => ⟨⟨rfl, [(lr, .inr (6, [.ref g, .ref st, .ref lg, .ref q, .ref ma, .ref sa, .int (nI (sn + 1))])), (st, .inr (4, [.ref on, .ref off, .long mu, .long ba, .long bl, .long wh, .int to, .int (b2i wr)])), (on, .inr (1, [.int (nI gw), .long onr, .long onb])), (off, .inr (1, [.int (nI gw), .long ofr, .long ofb])), (lg, .inr (5, [.ref a1, .ref a2, .ref a3, .ref a4, .int (nI k)])), (ma, .inl (E.2 2, 12, .inr (.inr (.inr (.inr mf))))), (sa, .inl (E.2 0, 12, .inl (upd sf sn (nI k)))), (x, .inr (4, [.ref x1, .ref x2, .long mu, .long ba, .long bl, .long wh, .int to, .int (b2i wr)])), (x1, .inr (1, [.int (nI gw), .long onr, .long onb])), (x2, .inr (1, [.int (nI gw), .long ofr, .long ofb]))], rfl, by rw [ht9]; exact hP, hD⟩, hS.F ht9⟩) hS.2.2 dX5_mark_98
    · skip
      have m_13 : ¬ sn < 12 := fun q => c_13 ((nI_ltI (a := sn) (b := 12) (by omega) (by omega)).mpr q)
      exact absurd hsn m_13
set_option maxHeartbeats 4000000 in
set_option maxRecDepth 100000 in
theorem cX5_back0_ct (l : Launch) (E : GE) (sz : Nat) (q : Nat) (g : Nat) (st : Nat) (lg : Nat) (lr : Nat) (ma : Nat) (sa : Nat) (sn : Nat) (a : Int32)  (ha : a < 0 ∨ nI sn ≤ a) : wrM l yX5_back wsX5_back ({ frames := 0, cells := 0, slots := 0, locals := 0 }) E sz [.ref lr, .int a] [(lr, .inr (6, [.ref g, .ref st, .ref lg, .ref q, .ref ma, .ref sa, .int (nI sn)]))] (some (.int (b2i false))) (fun cs' => cs' = [(lr, .inr (6, [.ref g, .ref st, .ref lg, .ref q, .ref ma, .ref sa, .int (nI sn)]))]) 0 0 := by
  refine Met.ofW (cc := cX5_back) (maxL := 2) (ret := (some .boolean)) (by decide) rfl ?_
  intro p e s m args below meth c s₁ B hml hv
  obtain ⟨rfl, hsz, hE, hP, hD0⟩ := hv
  have hx := B.exec
  have hb := B.bytes
  have hr := B.returns
  have hts := atoms_spec (ws := wsX5_back) B.pre
  have hown : s.vm.findClass RX5 = some m.cls := findClass_of_methodNamed B.named
  have hlocks := B.notSynchronized
  subst hsz
  have hD := hD0.self (sz := s.heap.size)
  generalize hAe : va_A [(lr, .inr (6, [.ref g, .ref st, .ref lg, .ref q, .ref ma, .ref sa, .int (nI sn)]))] s.heap.size = A at hD ⊢
  have hA : ∀ q : Nat, s.heap.size ≤ q → A q := fun q h => by rw [← hAe]; exact Or.inr h
  have hS : va_S A s.heap s.heap [] := va_S.rf
  have hP : va_P E.1 vwCl [(lr, .inr (6, [.ref g, .ref st, .ref lg, .ref q, .ref ma, .ref sa, .int (nI sn)]))] s.heap := hP
  have hl := lv_entry ([.ref lr, .int a]) (n := 2) (Nat.le_of_ble_eq_true rfl)
  rw [lg_entry_eq]
  generalize (lg_sl ([.ref lr, .int a]) ++ List.replicate (2 - (lg_sl ([.ref lr, .int a])).length) Slot.unset).toArray = ls at hl ⊢
  have hl : lv_has ls 2 [(0, .ref lr), (1, .int a)] := hl
  have hf_64 := hts (.fieldLink RX5 64 "LoopRegions" "standing" "I") (by decide +kernel)
  have hi_RX5 : ∀ w ∈ wsX50, w ∈ wsX5_back := by decide +kernel
  refine lv_iload_n hx hb dX5_back_0 rfl (lv_at hl 1 rfl) ?_
  refine lv_if_lt (tgt := 27) hx hb dX5_back_1 (by decide) (fun c_1 => ?_) (fun c_1 => ?_)
  · skip
    refine lv_iconst (v := 0) hx hb dX5_back_27 (by decide) ?_
    exact W.zret (v := 0) hx hb hr (rfl) (fun t9 ht9 hW => ⟨⟨rfl, [(lr, .inr (6, [.ref g, .ref st, .ref lg, .ref q, .ref ma, .ref sa, .int (nI sn)]))], rfl, by rw [ht9]; exact hP, hD⟩, hS.F ht9⟩) hS.2.2 dX5_back_28
  · skip
    refine lv_iload_n hx hb dX5_back_4 rfl (lv_at hl 1 rfl) ?_
    refine lv_aload_n hx hb dX5_back_5 rfl (lv_at hl 0 rfl) ?_
    refine va_get (D := E.1) (ci := 6) (v := .int (nI sn)) (C := RX5) (T := TX5) (N := 7) hx hb hts hi_RX5 hown hE.1 hP 0 rfl rfl 6 (by decide) hf_64 (fun _ h9 => h9) rfl dX5_back_6 ?_
    refine lv_icmp_ge (tgt := 27) hx hb dX5_back_9 (by decide) (fun c_9 => ?_) (fun c_9 => ?_)
    · skip
      refine lv_iconst (v := 0) hx hb dX5_back_27 (by decide) ?_
      exact W.zret (v := 0) hx hb hr (rfl) (fun t9 ht9 hW => ⟨⟨rfl, [(lr, .inr (6, [.ref g, .ref st, .ref lg, .ref q, .ref ma, .ref sa, .int (nI sn)]))], rfl, by rw [ht9]; exact hP, hD⟩, hS.F ht9⟩) hS.2.2 dX5_back_28
    · skip
      rcases ha with h | h; exact absurd h c_1; exact absurd h c_9
set_option maxHeartbeats 4000000 in
set_option maxRecDepth 100000 in
theorem cX5_back_ct (l : Launch) (E : GE) (sz : Nat) (q : Nat) (g : Nat) (st : Nat) (on : Nat) (off : Nat) (lg : Nat) (a1 : Nat) (a2 : Nat) (a3 : Nat) (a4 : Nat) (gw : Nat) (onr : Int64) (onb : Int64) (ofr : Int64) (ofb : Int64) (mu : Int64) (ba : Int64) (bl : Int64) (wh : Int64) (to : Int32) (wr : Bool) (k : Nat) (lr : Nat) (ma : Nat) (sa : Nat) (sn : Nat) (mf : Nat → Option Nat) (sf : Nat → Int32) (x : Nat) (x1 : Nat) (x2 : Nat) (xmu : Int64) (xba : Int64) (xbl : Int64) (xwh : Int64) (xto : Int32) (xwr : Bool) (xonr : Int64) (xonb : Int64) (xofr : Int64) (xofb : Int64) (j : Nat) (kj : Nat)  (hsn : sn ≤ 12) (hj : j < sn) (hmf : mf j = some x) (hsf : sf j = nI kj) : wrM l yX5_back wsX5_back ({ frames := 2, cells := 0, slots := 0, locals := 42 }) E sz [.ref lr, .int (nI j)] [(lr, .inr (6, [.ref g, .ref st, .ref lg, .ref q, .ref ma, .ref sa, .int (nI sn)])), (st, .inr (4, [.ref on, .ref off, .long mu, .long ba, .long bl, .long wh, .int to, .int (b2i wr)])), (on, .inr (1, [.int (nI gw), .long onr, .long onb])), (off, .inr (1, [.int (nI gw), .long ofr, .long ofb])), (lg, .inr (5, [.ref a1, .ref a2, .ref a3, .ref a4, .int (nI k)])), (ma, .inl (E.2 2, 12, .inr (.inr (.inr (.inr mf))))), (sa, .inl (E.2 0, 12, .inl sf)), (x, .inr (4, [.ref x1, .ref x2, .long xmu, .long xba, .long xbl, .long xwh, .int xto, .int (b2i xwr)])), (x1, .inr (1, [.int (nI gw), .long xonr, .long xonb])), (x2, .inr (1, [.int (nI gw), .long xofr, .long xofb]))] (some (.int (b2i true))) (fun cs' => cs' = [(lr, .inr (6, [.ref g, .ref st, .ref lg, .ref q, .ref ma, .ref sa, .int (nI j)])), (st, .inr (4, [.ref on, .ref off, .long xmu, .long xba, .long xbl, .long xwh, .int xto, .int (b2i xwr)])), (on, .inr (1, [.int (nI gw), .long xonr, .long xonb])), (off, .inr (1, [.int (nI gw), .long xofr, .long xofb])), (lg, .inr (5, [.ref a1, .ref a2, .ref a3, .ref a4, .int (nI kj)])), (ma, .inl (E.2 2, 12, .inr (.inr (.inr (.inr mf))))), (sa, .inl (E.2 0, 12, .inl sf)), (x, .inr (4, [.ref x1, .ref x2, .long xmu, .long xba, .long xbl, .long xwh, .int xto, .int (b2i xwr)])), (x1, .inr (1, [.int (nI gw), .long xonr, .long xonb])), (x2, .inr (1, [.int (nI gw), .long xofr, .long xofb]))]) 0 0 := by
  refine Met.ofW (cc := cX5_back) (maxL := 2) (ret := (some .boolean)) (by decide) rfl ?_
  intro p e s m args below meth c s₁ B hml hv
  obtain ⟨rfl, hsz, hE, hP, hD0⟩ := hv
  have hx := B.exec
  have hb := B.bytes
  have hr := B.returns
  have hts := atoms_spec (ws := wsX5_back) B.pre
  have hown : s.vm.findClass RX5 = some m.cls := findClass_of_methodNamed B.named
  have hlocks := B.notSynchronized
  subst hsz
  have hD := hD0.self (sz := s.heap.size)
  generalize hAe : va_A [(lr, .inr (6, [.ref g, .ref st, .ref lg, .ref q, .ref ma, .ref sa, .int (nI sn)])), (st, .inr (4, [.ref on, .ref off, .long mu, .long ba, .long bl, .long wh, .int to, .int (b2i wr)])), (on, .inr (1, [.int (nI gw), .long onr, .long onb])), (off, .inr (1, [.int (nI gw), .long ofr, .long ofb])), (lg, .inr (5, [.ref a1, .ref a2, .ref a3, .ref a4, .int (nI k)])), (ma, .inl (E.2 2, 12, .inr (.inr (.inr (.inr mf))))), (sa, .inl (E.2 0, 12, .inl sf)), (x, .inr (4, [.ref x1, .ref x2, .long xmu, .long xba, .long xbl, .long xwh, .int xto, .int (b2i xwr)])), (x1, .inr (1, [.int (nI gw), .long xonr, .long xonb])), (x2, .inr (1, [.int (nI gw), .long xofr, .long xofb]))] s.heap.size = A at hD ⊢
  have hA : ∀ q : Nat, s.heap.size ≤ q → A q := fun q h => by rw [← hAe]; exact Or.inr h
  have hS : va_S A s.heap s.heap [] := va_S.rf
  have hP : va_P E.1 vwCl [(lr, .inr (6, [.ref g, .ref st, .ref lg, .ref q, .ref ma, .ref sa, .int (nI sn)])), (st, .inr (4, [.ref on, .ref off, .long mu, .long ba, .long bl, .long wh, .int to, .int (b2i wr)])), (on, .inr (1, [.int (nI gw), .long onr, .long onb])), (off, .inr (1, [.int (nI gw), .long ofr, .long ofb])), (lg, .inr (5, [.ref a1, .ref a2, .ref a3, .ref a4, .int (nI k)])), (ma, .inl (E.2 2, 12, .inr (.inr (.inr (.inr mf))))), (sa, .inl (E.2 0, 12, .inl sf)), (x, .inr (4, [.ref x1, .ref x2, .long xmu, .long xba, .long xbl, .long xwh, .int xto, .int (b2i xwr)])), (x1, .inr (1, [.int (nI gw), .long xonr, .long xonb])), (x2, .inr (1, [.int (nI gw), .long xofr, .long xofb]))] s.heap := hP
  have hl := lv_entry ([.ref lr, .int (nI j)]) (n := 2) (Nat.le_of_ble_eq_true rfl)
  rw [lg_entry_eq]
  generalize (lg_sl ([.ref lr, .int (nI j)]) ++ List.replicate (2 - (lg_sl ([.ref lr, .int (nI j)])).length) Slot.unset).toArray = ls at hl ⊢
  have hl : lv_has ls 2 [(0, .ref lr), (1, .int (nI j))] := hl
  have hf_114 := hts (.fieldLink RX5 114 "LoopRegions$StepLog" "count" "I") (by decide +kernel)
  have hf_27 := hts (.fieldLink RX5 27 "LoopRegions" "now" "LLoopRegions$State;") (by decide +kernel)
  have hf_43 := hts (.fieldLink RX5 43 "LoopRegions" "log" "LLoopRegions$StepLog;") (by decide +kernel)
  have hf_56 := hts (.fieldLink RX5 56 "LoopRegions" "marks" "[LLoopRegions$State;") (by decide +kernel)
  have hf_60 := hts (.fieldLink RX5 60 "LoopRegions" "stepsAtMark" "[I") (by decide +kernel)
  have hf_64 := hts (.fieldLink RX5 64 "LoopRegions" "standing" "I") (by decide +kernel)
  have hi_RX4 : ∀ w ∈ wsX40, w ∈ wsX5_back := by decide +kernel
  have hi_RX5 : ∀ w ∈ wsX50, w ∈ wsX5_back := by decide +kernel
  refine lv_iload_n hx hb dX5_back_0 rfl (lv_at hl 1 rfl) ?_
  refine lv_if_lt (tgt := 27) hx hb dX5_back_1 (by decide) (fun c_1 => ?_) (fun c_1 => ?_)
  · skip
    have m_1 : j < 0 := (nI_ltI (a := j) (b := 0) (by omega) (by omega)).mp c_1
    exact absurd c_1 (nI_pos (by omega))
  · skip
    have m_1 : ¬ j < 0 := fun q => c_1 ((nI_ltI (a := j) (b := 0) (by omega) (by omega)).mpr q)
    refine lv_iload_n hx hb dX5_back_4 rfl (lv_at hl 1 rfl) ?_
    refine lv_aload_n hx hb dX5_back_5 rfl (lv_at hl 0 rfl) ?_
    refine va_get (D := E.1) (ci := 6) (v := .int (nI sn)) (C := RX5) (T := TX5) (N := 7) hx hb hts hi_RX5 hown hE.1 hP 0 rfl rfl 6 (by decide) hf_64 (fun _ h9 => h9) rfl dX5_back_6 ?_
    refine lv_icmp_ge (tgt := 27) hx hb dX5_back_9 (by decide) (fun c_9 => ?_) (fun c_9 => ?_)
    · skip
      have m_9 : sn ≤ j := (nI_leI (a := sn) (b := j) (by omega) (by omega)).mp c_9
      have k_9 : ¬ j < sn := Nat.not_lt.mpr m_9
      exact absurd m_9 (by omega)
    · skip
      have m_9 : ¬ sn ≤ j := fun q => c_9 ((nI_leI (a := sn) (b := j) (by omega) (by omega)).mpr q)
      have k_9 : j < sn := Nat.lt_of_not_le m_9
      refine lv_iload_n hx hb dX5_back_12 rfl (lv_at hl 1 rfl) ?_
      refine lv_bipush (v := 12) hx hb dX5_back_13 (by decide) ?_
      refine lv_icmp_ge (tgt := 27) hx hb dX5_back_15 (by decide) (fun c_15 => ?_) (fun c_15 => ?_)
      · skip
        have m_15 : 12 ≤ j := (nI_leI (a := 12) (b := j) (by omega) (by omega)).mp c_15
        have k_15 : ¬ j < 12 := Nat.not_lt.mpr m_15
        exact absurd m_15 (by omega)
      · skip
        have m_15 : ¬ 12 ≤ j := fun q => c_15 ((nI_leI (a := 12) (b := j) (by omega) (by omega)).mpr q)
        have k_15 : j < 12 := Nat.lt_of_not_le m_15
        refine lv_aload_n hx hb dX5_back_18 rfl (lv_at hl 0 rfl) ?_
        refine va_get (D := E.1) (ci := 6) (v := .ref ma) (C := RX5) (T := TX5) (N := 7) hx hb hts hi_RX5 hown hE.1 hP 0 rfl rfl 4 (by decide) hf_56 (fun _ h9 => h9) rfl dX5_back_19 ?_
        refine lv_iload_n hx hb dX5_back_22 rfl (lv_at hl 1 rfl) ?_
        refine va_aldq hx hb hE.1 hP 5 2 rfl rfl (show vp_in (nI j) 12 from vp_in_nI (by omega) (by decide)) dX5_back_23 ?_
        refine lv_eqv (show va_rf (mf (nI j : Int32).toNatClampNeg) = .ref x from by rw [nI_clamp (by omega), hmf]; rfl) ?_
        refine lv_ifnonnull (tgt := 29) hx hb dX5_back_24 (by decide) ?_
        refine lv_aload_n hx hb dX5_back_29 rfl (lv_at hl 0 rfl) ?_
        refine va_get (D := E.1) (ci := 6) (v := .ref st) (C := RX5) (T := TX5) (N := 7) hx hb hts hi_RX5 hown hE.1 hP 0 rfl rfl 1 (by decide) hf_27 (fun _ h9 => h9) rfl dX5_back_30 ?_
        refine lv_aload_n hx hb dX5_back_33 rfl (lv_at hl 0 rfl) ?_
        refine va_get (D := E.1) (ci := 6) (v := .ref ma) (C := RX5) (T := TX5) (N := 7) hx hb hts hi_RX5 hown hE.1 hP 0 rfl rfl 4 (by decide) hf_56 (fun _ h9 => h9) rfl dX5_back_34 ?_
        refine lv_iload_n hx hb dX5_back_37 rfl (lv_at hl 1 rfl) ?_
        refine va_aldq hx hb hE.1 hP 5 2 rfl rfl (show vp_in (nI j) 12 from vp_in_nI (by omega) (by decide)) dX5_back_38 ?_
        refine lv_eqv (show va_rf (mf (nI j : Int32).toNatClampNeg) = .ref x from by rw [nI_clamp (by omega), hmf]; rfl) ?_
        refine wrV (As := [.ref x]) (rest := []) (wr := [(lr, .inr (6, [.ref g, .ref st, .ref lg, .ref q, .ref ma, .ref sa, .int (nI sn)])), (lg, .inr (5, [.ref a1, .ref a2, .ref a3, .ref a4, .int (nI k)])), (ma, .inl (E.2 2, 12, .inr (.inr (.inr (.inr mf))))), (sa, .inl (E.2 0, 12, .inl sf))]) ⟨hx, hb, hml, hown, hts⟩ hE (cX3_copy_ct l E s.heap.size st on off mu ba bl wh to wr (nI gw) onr onb (nI gw) ofr ofb x x1 x2 xmu xba xbl xwh xto xwr (nI gw) xonr xonb (nI gw) xofr xofb) (cwV 1 hts gX5_back_X3_copy rfl rfl rfl (by decide +kernel) ⟨Nat.le_of_ble_eq_true rfl, Nat.le_of_ble_eq_true rfl⟩) hP hD hS hA [1, 2, 3, 7, 8, 9] [0, 4, 5, 6] rfl rfl (by decide) (by decide) (hP.sub (ws' := [(st, .inr (4, [.ref on, .ref off, .long mu, .long ba, .long bl, .long wh, .int to, .int (b2i wr)])), (on, .inr (1, [.int (nI gw), .long onr, .long onb])), (off, .inr (1, [.int (nI gw), .long ofr, .long ofb])), (x, .inr (4, [.ref x1, .ref x2, .long xmu, .long xba, .long xbl, .long xwh, .int xto, .int (b2i xwr)])), (x1, .inr (1, [.int (nI gw), .long xonr, .long xonb])), (x2, .inr (1, [.int (nI gw), .long xofr, .long xofb]))]) [1, 2, 3, 7, 8, 9] rfl) (hD.sub (ws' := [(st, .inr (4, [.ref on, .ref off, .long mu, .long ba, .long bl, .long wh, .int to, .int (b2i wr)])), (on, .inr (1, [.int (nI gw), .long onr, .long onb])), (off, .inr (1, [.int (nI gw), .long ofr, .long ofb])), (x, .inr (4, [.ref x1, .ref x2, .long xmu, .long xba, .long xbl, .long xwh, .int xto, .int (b2i xwr)])), (x1, .inr (1, [.int (nI gw), .long xonr, .long xonb])), (x2, .inr (1, [.int (nI gw), .long xofr, .long xofb]))]) [1, 2, 3, 7, 8, 9] (by decide) rfl) (va_recv hE.1 hP (ci := 4) (q0 := 1) rfl rfl) rfl hl.1 rfl (Nat.le_of_ble_eq_true rfl) dX5_back_39 ⟨Nat.zero_le _, Nat.zero_le _⟩ (fun cs_ H locs h_1 hP hD hS => ?_)
        subst h_1
        have hP : va_P E.1 vwCl [(lr, .inr (6, [.ref g, .ref st, .ref lg, .ref q, .ref ma, .ref sa, .int (nI sn)])), (st, .inr (4, [.ref on, .ref off, .long xmu, .long xba, .long xbl, .long xwh, .int xto, .int (b2i xwr)])), (on, .inr (1, [.int (nI gw), .long xonr, .long xonb])), (off, .inr (1, [.int (nI gw), .long xofr, .long xofb])), (lg, .inr (5, [.ref a1, .ref a2, .ref a3, .ref a4, .int (nI k)])), (ma, .inl (E.2 2, 12, .inr (.inr (.inr (.inr mf))))), (sa, .inl (E.2 0, 12, .inl sf)), (x, .inr (4, [.ref x1, .ref x2, .long xmu, .long xba, .long xbl, .long xwh, .int xto, .int (b2i xwr)])), (x1, .inr (1, [.int (nI gw), .long xonr, .long xonb])), (x2, .inr (1, [.int (nI gw), .long xofr, .long xofb]))] H := hP.sub [0, 4, 5, 6, 1, 2, 3, 7, 8, 9] rfl
        have hD : va_D A [(lr, .inr (6, [.ref g, .ref st, .ref lg, .ref q, .ref ma, .ref sa, .int (nI sn)])), (st, .inr (4, [.ref on, .ref off, .long xmu, .long xba, .long xbl, .long xwh, .int xto, .int (b2i xwr)])), (on, .inr (1, [.int (nI gw), .long xonr, .long xonb])), (off, .inr (1, [.int (nI gw), .long xofr, .long xofb])), (lg, .inr (5, [.ref a1, .ref a2, .ref a3, .ref a4, .int (nI k)])), (ma, .inl (E.2 2, 12, .inr (.inr (.inr (.inr mf))))), (sa, .inl (E.2 0, 12, .inl sf)), (x, .inr (4, [.ref x1, .ref x2, .long xmu, .long xba, .long xbl, .long xwh, .int xto, .int (b2i xwr)])), (x1, .inr (1, [.int (nI gw), .long xonr, .long xonb])), (x2, .inr (1, [.int (nI gw), .long xofr, .long xofb]))] := hD.sub [0, 4, 5, 6, 1, 2, 3, 7, 8, 9] (by decide) rfl
        refine lv_aload_n hx hb dX5_back_42 rfl (lv_at hl 0 rfl) ?_
        refine va_get (D := E.1) (ci := 6) (v := .ref lg) (C := RX5) (T := TX5) (N := 7) hx hb hts hi_RX5 hown hE.1 hP 0 rfl rfl 2 (by decide) hf_43 (fun _ h9 => h9) rfl dX5_back_43 ?_
        refine lv_aload_n hx hb dX5_back_46 rfl (lv_at hl 0 rfl) ?_
        refine va_get (D := E.1) (ci := 6) (v := .ref sa) (C := RX5) (T := TX5) (N := 7) hx hb hts hi_RX5 hown hE.1 hP 0 rfl rfl 5 (by decide) hf_60 (fun _ h9 => h9) rfl dX5_back_47 ?_
        refine lv_iload_n hx hb dX5_back_50 rfl (lv_at hl 1 rfl) ?_
        refine va_iald hx hb hE.1 hP 6 0 rfl rfl (show vp_in (nI j) 12 from vp_in_nI (by omega) (by decide)) dX5_back_51 ?_
        refine lv_eqi (congrArg sf (show (nI j : Int32).toNatClampNeg = j from nI_clamp (by omega))) ?_
        refine lv_eqi hsf ?_
        refine va_put (D := E.1) (ci := 5) (v := .int (nI kj)) (ty := .int) (C := RX4) (T := TX4) (N := 5) hx hb hts hi_RX4 tyX4 tyX4_ok nmX4 hown hE.1 hP hD hS 4 rfl rfl 4 (by decide) hf_114 (fun _ h9 => h9) rfl (by decide +kernel) (rfl) (rfl) (Nat.le_of_ble_eq_true rfl) dX5_back_52 (fun H locs hP hD hS => ?_)
        have hP : va_P E.1 vwCl [(lr, .inr (6, [.ref g, .ref st, .ref lg, .ref q, .ref ma, .ref sa, .int (nI sn)])), (st, .inr (4, [.ref on, .ref off, .long xmu, .long xba, .long xbl, .long xwh, .int xto, .int (b2i xwr)])), (on, .inr (1, [.int (nI gw), .long xonr, .long xonb])), (off, .inr (1, [.int (nI gw), .long xofr, .long xofb])), (lg, .inr (5, [.ref a1, .ref a2, .ref a3, .ref a4, .int (nI kj)])), (ma, .inl (E.2 2, 12, .inr (.inr (.inr (.inr mf))))), (sa, .inl (E.2 0, 12, .inl sf)), (x, .inr (4, [.ref x1, .ref x2, .long xmu, .long xba, .long xbl, .long xwh, .int xto, .int (b2i xwr)])), (x1, .inr (1, [.int (nI gw), .long xonr, .long xonb])), (x2, .inr (1, [.int (nI gw), .long xofr, .long xofb]))] H := hP
        have hD : va_D A [(lr, .inr (6, [.ref g, .ref st, .ref lg, .ref q, .ref ma, .ref sa, .int (nI sn)])), (st, .inr (4, [.ref on, .ref off, .long xmu, .long xba, .long xbl, .long xwh, .int xto, .int (b2i xwr)])), (on, .inr (1, [.int (nI gw), .long xonr, .long xonb])), (off, .inr (1, [.int (nI gw), .long xofr, .long xofb])), (lg, .inr (5, [.ref a1, .ref a2, .ref a3, .ref a4, .int (nI kj)])), (ma, .inl (E.2 2, 12, .inr (.inr (.inr (.inr mf))))), (sa, .inl (E.2 0, 12, .inl sf)), (x, .inr (4, [.ref x1, .ref x2, .long xmu, .long xba, .long xbl, .long xwh, .int xto, .int (b2i xwr)])), (x1, .inr (1, [.int (nI gw), .long xonr, .long xonb])), (x2, .inr (1, [.int (nI gw), .long xofr, .long xofb]))] := hD
        refine lv_aload_n hx hb dX5_back_55 rfl (lv_at hl 0 rfl) ?_
        refine lv_iload_n hx hb dX5_back_56 rfl (lv_at hl 1 rfl) ?_
        refine va_put (D := E.1) (ci := 6) (v := .int (nI j)) (ty := .int) (C := RX5) (T := TX5) (N := 7) hx hb hts hi_RX5 tyX5 tyX5_ok nmX5 hown hE.1 hP hD hS 0 rfl rfl 6 (by decide) hf_64 (fun _ h9 => h9) rfl (by decide +kernel) (rfl) (rfl) (Nat.le_of_ble_eq_true rfl) dX5_back_57 (fun H locs hP hD hS => ?_)
        have hP : va_P E.1 vwCl [(lr, .inr (6, [.ref g, .ref st, .ref lg, .ref q, .ref ma, .ref sa, .int (nI j)])), (st, .inr (4, [.ref on, .ref off, .long xmu, .long xba, .long xbl, .long xwh, .int xto, .int (b2i xwr)])), (on, .inr (1, [.int (nI gw), .long xonr, .long xonb])), (off, .inr (1, [.int (nI gw), .long xofr, .long xofb])), (lg, .inr (5, [.ref a1, .ref a2, .ref a3, .ref a4, .int (nI kj)])), (ma, .inl (E.2 2, 12, .inr (.inr (.inr (.inr mf))))), (sa, .inl (E.2 0, 12, .inl sf)), (x, .inr (4, [.ref x1, .ref x2, .long xmu, .long xba, .long xbl, .long xwh, .int xto, .int (b2i xwr)])), (x1, .inr (1, [.int (nI gw), .long xonr, .long xonb])), (x2, .inr (1, [.int (nI gw), .long xofr, .long xofb]))] H := hP
        have hD : va_D A [(lr, .inr (6, [.ref g, .ref st, .ref lg, .ref q, .ref ma, .ref sa, .int (nI j)])), (st, .inr (4, [.ref on, .ref off, .long xmu, .long xba, .long xbl, .long xwh, .int xto, .int (b2i xwr)])), (on, .inr (1, [.int (nI gw), .long xonr, .long xonb])), (off, .inr (1, [.int (nI gw), .long xofr, .long xofb])), (lg, .inr (5, [.ref a1, .ref a2, .ref a3, .ref a4, .int (nI kj)])), (ma, .inl (E.2 2, 12, .inr (.inr (.inr (.inr mf))))), (sa, .inl (E.2 0, 12, .inl sf)), (x, .inr (4, [.ref x1, .ref x2, .long xmu, .long xba, .long xbl, .long xwh, .int xto, .int (b2i xwr)])), (x1, .inr (1, [.int (nI gw), .long xonr, .long xonb])), (x2, .inr (1, [.int (nI gw), .long xofr, .long xofb]))] := hD
        refine lv_iconst (v := 1) hx hb dX5_back_60 (by decide) ?_
        exact W.zret (v := 1) hx hb hr (rfl) (fun t9 ht9 hW => ⟨⟨rfl, [(lr, .inr (6, [.ref g, .ref st, .ref lg, .ref q, .ref ma, .ref sa, .int (nI j)])), (st, .inr (4, [.ref on, .ref off, .long xmu, .long xba, .long xbl, .long xwh, .int xto, .int (b2i xwr)])), (on, .inr (1, [.int (nI gw), .long xonr, .long xonb])), (off, .inr (1, [.int (nI gw), .long xofr, .long xofb])), (lg, .inr (5, [.ref a1, .ref a2, .ref a3, .ref a4, .int (nI kj)])), (ma, .inl (E.2 2, 12, .inr (.inr (.inr (.inr mf))))), (sa, .inl (E.2 0, 12, .inl sf)), (x, .inr (4, [.ref x1, .ref x2, .long xmu, .long xba, .long xbl, .long xwh, .int xto, .int (b2i xwr)])), (x1, .inr (1, [.int (nI gw), .long xonr, .long xonb])), (x2, .inr (1, [.int (nI gw), .long xofr, .long xofb]))], rfl, by rw [ht9]; exact hP, hD⟩, hS.F ht9⟩) hS.2.2 dX5_back_61
