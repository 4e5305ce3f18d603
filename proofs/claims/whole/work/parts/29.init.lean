/-! CONSTRUCTORS of Grid, State, StepLog, Rules: laid by wip/s_init.py -/
def gEv (N : Nat) : Nat → Int64 → Int64
  | 0, z => z
  | k + 1, z => gEv N k (z ||| fOnly (nI (N - (k + 1))))
def gBe (gw N : Nat) : Nat → Int64 → Int64
  | 0, z => z
  | k + 1, z => gBe gw N k (if nI N ≤ nI (N - (k + 1)) + nI gw then z else z ||| fOnly (nI (N - (k + 1))))
theorem ec_n {gw gh : Nat} (h1 : 1 ≤ gw) (h2 : 1 ≤ gh) : (nI gw - 1) * nI gh + nI gw * (nI gh - 1) = nI ((gw - 1) * gh + gw * (gh - 1)) := by
  obtain ⟨a, rfl⟩ : ∃ a, gw = a + 1 := ⟨gw - 1, by omega⟩
  obtain ⟨b, rfl⟩ : ∃ b, gh = b + 1 := ⟨gh - 1, by omega⟩
  rw [nI_pred, nI_pred, pk_mul, pk_mul, nI_add, show a + 1 - 1 = a by omega, show b + 1 - 1 = b by omega]
set_option maxHeartbeats 4000000 in
set_option maxRecDepth 100000 in
theorem cX3_init_ct (l : Launch) (E : GE) (sz : Nat) (q : Nat) (g : Nat) (gw gh : Nat) (ec : Int32) (ce : Int64) (ga : Nat)   : wrM l yX3_init wsX3_init ({ frames := 2, cells := 2, slots := 6, locals := 41 }) E sz [.ref q, .ref g] [(q, .inr (4, [.null, .null, .long 0, .long 0, .long 0, .long 0, .int 0, .int (b2i false)])), (g, .inr (2, [.int (nI gw), .int (nI gh), .int (nI (gw * gh)), .int ec, .int (nI (2 * (gw * gh))), .long ce, .ref ga]))] none (fun cs' => ∃ on off, cs' = [(q, .inr (4, [.ref on, .ref off, .long 0, .long 0, .long 0, .long 0, .int (-1), .int (b2i false)])), (g, .inr (2, [.int (nI gw), .int (nI gh), .int (nI (gw * gh)), .int ec, .int (nI (2 * (gw * gh))), .long ce, .ref ga])), (on, .inr (1, [.int (nI gw), .long 0, .long 0])), (off, .inr (1, [.int (nI gw), .long 0, .long 0]))]) 2 6 := by
  refine Met.ofW (cc := cX3_init) (maxL := 2) (ret := none) (by decide) rfl ?_
  intro p e s m args below meth c s₁ B hml hv
  obtain ⟨rfl, hsz, hE, hP, hD0⟩ := hv
  have hx := B.exec
  have hb := B.bytes
  have hr := B.returns
  have hts := atoms_spec (ws := wsX3_init) B.pre
  have hown : s.vm.findClass RX3 = some m.cls := findClass_of_methodNamed B.named
  have hlocks := B.notSynchronized
  have hin : meth.name = "<init>" := (name_of_methodNamed B.named B.method).1
  subst hsz
  have hD := hD0.self (sz := s.heap.size)
  generalize hAe : va_A [(q, .inr (4, [.null, .null, .long 0, .long 0, .long 0, .long 0, .int 0, .int (b2i false)])), (g, .inr (2, [.int (nI gw), .int (nI gh), .int (nI (gw * gh)), .int ec, .int (nI (2 * (gw * gh))), .long ce, .ref ga]))] s.heap.size = A at hD ⊢
  have hA : ∀ q : Nat, s.heap.size ≤ q → A q := fun q h => by rw [← hAe]; exact Or.inr h
  have hS : va_S A s.heap s.heap [] := va_S.rf
  have hP : va_P E.1 vwCl [(q, .inr (4, [.null, .null, .long 0, .long 0, .long 0, .long 0, .int 0, .int (b2i false)])), (g, .inr (2, [.int (nI gw), .int (nI gh), .int (nI (gw * gh)), .int ec, .int (nI (2 * (gw * gh))), .long ce, .ref ga]))] s.heap := hP
  have hl := lv_entry ([.ref q, .ref g]) (n := 2) (Nat.le_of_ble_eq_true rfl)
  rw [lg_entry_eq]
  generalize (lg_sl ([.ref q, .ref g]) ++ List.replicate (2 - (lg_sl ([.ref q, .ref g])).length) Slot.unset).toArray = ls at hl ⊢
  have hl : lv_has ls 2 [(0, .ref q), (1, .ref g)] := hl
  have hf_11 := hts (.fieldLink RX3 11 "LoopRegions$Grid" "width" "I") (by decide +kernel)
  have hf_20 := hts (.fieldLink RX3 20 "LoopRegions$State" "on" "LLoopRegions$Edges;") (by decide +kernel)
  have hf_26 := hts (.fieldLink RX3 26 "LoopRegions$State" "off" "LLoopRegions$Edges;") (by decide +kernel)
  have hf_29 := hts (.fieldLink RX3 29 "LoopRegions$State" "told" "I") (by decide +kernel)
  have hi_RX0 : ∀ w ∈ wsX00, w ∈ wsX3_init := by decide +kernel
  have hi_RX1 : ∀ w ∈ wsX10, w ∈ wsX3_init := by decide +kernel
  have hi_RX3 : ∀ w ∈ wsX30, w ∈ wsX3_init := by decide +kernel
  refine lv_aload_n hx hb dX3_init_0 rfl (lv_at hl 0 rfl) ?_
  refine W.objInit hx hb hown (hts (.methodLink RX3 3 objectInit) (by decide +kernel)) (hts (.instanceMethod objectInit) (by decide +kernel)) (hts (.code objectInit ⟨#[0xb1]⟩ 1 none) (by decide +kernel)) rfl (by rw [hml]; exact hl.1) rfl dX3_init_1 (Nat.le_of_ble_eq_true rfl) (Nat.le_of_ble_eq_true rfl) ?_
  refine W.eq (g2 := F0 m 4 ls []) rfl ?_
  refine lv_aload_n hx hb dX3_init_4 rfl (lv_at hl 0 rfl) ?_
  refine va_new (ci := 1) (fs := [.int 0, .long 0, .long 0]) (C := RX0) (T := TX0) (N := 3) hx hb hts hi_RX0 tyX0 tyX0_ok hown (hts (.classLink RX3 9 RX0) (by decide +kernel)) (hts (.instantiable RX0 3) (by decide +kernel)) (hts (.initialized RX0) (by decide +kernel)) hE.1 hP hD hS hA rfl (fun j hj => by rcases (show j = 0 ∨ j = 1 ∨ j = 2 by omega) with rfl | rfl | rfl <;> rfl) (Nat.le_of_ble_eq_true rfl) (Nat.le_of_ble_eq_true rfl) dX3_init_5 (fun q_1 H hP hD hS => ?_)
  have hP : va_P E.1 vwCl [(q, .inr (4, [.null, .null, .long 0, .long 0, .long 0, .long 0, .int 0, .int (b2i false)])), (g, .inr (2, [.int (nI gw), .int (nI gh), .int (nI (gw * gh)), .int ec, .int (nI (2 * (gw * gh))), .long ce, .ref ga])), (q_1, .inr (1, [.int 0, .long 0, .long 0]))] H := hP
  have hD : va_D A [(q, .inr (4, [.null, .null, .long 0, .long 0, .long 0, .long 0, .int 0, .int (b2i false)])), (g, .inr (2, [.int (nI gw), .int (nI gh), .int (nI (gw * gh)), .int ec, .int (nI (2 * (gw * gh))), .long ce, .ref ga])), (q_1, .inr (1, [.int 0, .long 0, .long 0]))] := hD
  refine W.widen (k := 1) (n := 3) (by omega) (by omega) ?_
  refine lv_dup hx hb dX3_init_8 rfl ?_
  refine lv_aload_n hx hb dX3_init_9 rfl (lv_at hl 1 rfl) ?_
  refine va_get (D := E.1) (ci := 2) (v := .int (nI gw)) (C := RX1) (T := TX1) (N := 7) hx hb hts hi_RX1 hown hE.1 hP 1 rfl rfl 0 (by decide) hf_11 (fun _ h9 => h9) rfl dX3_init_10 ?_
  refine wrI (As := [.int (nI gw)]) (rest := [.ref q_1, .ref q]) (wr := [(q, .inr (4, [.null, .null, .long 0, .long 0, .long 0, .long 0, .int 0, .int (b2i false)])), (g, .inr (2, [.int (nI gw), .int (nI gh), .int (nI (gw * gh)), .int ec, .int (nI (2 * (gw * gh))), .long ce, .ref ga]))]) ⟨hx, hb, hml, hown, hts⟩ hE (cX0_init_ct l E H.size q_1 0 (nI gw) 0 0) (cwI 1 hts gX3_init_X0_init rfl rfl rfl (hts (.initialized RX0) (by decide +kernel)) (hts (.methodLink RX3 17 yX0_init) (by decide +kernel)) (hts (.instanceMethod yX0_init) (by decide +kernel)) rfl (by decide +kernel) ⟨Nat.le_of_ble_eq_true rfl, Nat.le_of_ble_eq_true rfl⟩) hP hD hS hA [2] [0, 1] rfl rfl (by decide) (by decide) (hP.sub (ws' := [(q_1, .inr (1, [.int 0, .long 0, .long 0]))]) [2] rfl) (hD.sub (ws' := [(q_1, .inr (1, [.int 0, .long 0, .long 0]))]) [2] (by decide) rfl) rfl hl.1 rfl (Nat.le_of_ble_eq_true rfl) dX3_init_13 ⟨(Nat.le_of_ble_eq_true rfl), (Nat.le_of_ble_eq_true rfl)⟩ (fun cs_ H locs h_2 hP hD hS => ?_)
  subst h_2
  have hP : va_P E.1 vwCl [(q, .inr (4, [.null, .null, .long 0, .long 0, .long 0, .long 0, .int 0, .int (b2i false)])), (g, .inr (2, [.int (nI gw), .int (nI gh), .int (nI (gw * gh)), .int ec, .int (nI (2 * (gw * gh))), .long ce, .ref ga])), (q_1, .inr (1, [.int (nI gw), .long 0, .long 0]))] H := hP.sub [0, 1, 2] rfl
  have hD : va_D A [(q, .inr (4, [.null, .null, .long 0, .long 0, .long 0, .long 0, .int 0, .int (b2i false)])), (g, .inr (2, [.int (nI gw), .int (nI gh), .int (nI (gw * gh)), .int ec, .int (nI (2 * (gw * gh))), .long ce, .ref ga])), (q_1, .inr (1, [.int (nI gw), .long 0, .long 0]))] := hD.sub [0, 1, 2] (by decide) rfl
  refine W.widen (k := 1) (n := 3) (by omega) (by omega) ?_
  refine va_putF (D := E.1) (ci := 4) (v := .ref q_1) (ty := tyX3 0) (C := RX3) (T := TX3) (N := 8) hx hb hts hi_RX3 tyX3 tyX3_ok nmX3 hown hE.1 hP hD hS 0 rfl rfl 0 (by decide) hf_20 (fun _ h9 => h9) rfl hin rfl (by decide +kernel) (rfl) (rfl) (Nat.le_of_ble_eq_true rfl) dX3_init_16 (fun H locs hP hD hS => ?_)
  have hP : va_P E.1 vwCl [(q, .inr (4, [.ref q_1, .null, .long 0, .long 0, .long 0, .long 0, .int 0, .int (b2i false)])), (g, .inr (2, [.int (nI gw), .int (nI gh), .int (nI (gw * gh)), .int ec, .int (nI (2 * (gw * gh))), .long ce, .ref ga])), (q_1, .inr (1, [.int (nI gw), .long 0, .long 0]))] H := hP
  have hD : va_D A [(q, .inr (4, [.ref q_1, .null, .long 0, .long 0, .long 0, .long 0, .int 0, .int (b2i false)])), (g, .inr (2, [.int (nI gw), .int (nI gh), .int (nI (gw * gh)), .int ec, .int (nI (2 * (gw * gh))), .long ce, .ref ga])), (q_1, .inr (1, [.int (nI gw), .long 0, .long 0]))] := hD
  refine lv_aload_n hx hb dX3_init_19 rfl (lv_at hl 0 rfl) ?_
  refine va_new (ci := 1) (fs := [.int 0, .long 0, .long 0]) (C := RX0) (T := TX0) (N := 3) hx hb hts hi_RX0 tyX0 tyX0_ok hown (hts (.classLink RX3 9 RX0) (by decide +kernel)) (hts (.instantiable RX0 3) (by decide +kernel)) (hts (.initialized RX0) (by decide +kernel)) hE.1 hP hD hS hA rfl (fun j hj => by rcases (show j = 0 ∨ j = 1 ∨ j = 2 by omega) with rfl | rfl | rfl <;> rfl) (Nat.le_of_ble_eq_true rfl) (Nat.le_of_ble_eq_true rfl) dX3_init_20 (fun q_3 H hP hD hS => ?_)
  have hP : va_P E.1 vwCl [(q, .inr (4, [.ref q_1, .null, .long 0, .long 0, .long 0, .long 0, .int 0, .int (b2i false)])), (g, .inr (2, [.int (nI gw), .int (nI gh), .int (nI (gw * gh)), .int ec, .int (nI (2 * (gw * gh))), .long ce, .ref ga])), (q_1, .inr (1, [.int (nI gw), .long 0, .long 0])), (q_3, .inr (1, [.int 0, .long 0, .long 0]))] H := hP
  have hD : va_D A [(q, .inr (4, [.ref q_1, .null, .long 0, .long 0, .long 0, .long 0, .int 0, .int (b2i false)])), (g, .inr (2, [.int (nI gw), .int (nI gh), .int (nI (gw * gh)), .int ec, .int (nI (2 * (gw * gh))), .long ce, .ref ga])), (q_1, .inr (1, [.int (nI gw), .long 0, .long 0])), (q_3, .inr (1, [.int 0, .long 0, .long 0]))] := hD
  refine W.widen (k := 2) (n := 6) (by omega) (by omega) ?_
  refine lv_dup hx hb dX3_init_23 rfl ?_
  refine lv_aload_n hx hb dX3_init_24 rfl (lv_at hl 1 rfl) ?_
  refine va_get (D := E.1) (ci := 2) (v := .int (nI gw)) (C := RX1) (T := TX1) (N := 7) hx hb hts hi_RX1 hown hE.1 hP 1 rfl rfl 0 (by decide) hf_11 (fun _ h9 => h9) rfl dX3_init_25 ?_
  refine wrI (As := [.int (nI gw)]) (rest := [.ref q_3, .ref q]) (wr := [(q, .inr (4, [.ref q_1, .null, .long 0, .long 0, .long 0, .long 0, .int 0, .int (b2i false)])), (g, .inr (2, [.int (nI gw), .int (nI gh), .int (nI (gw * gh)), .int ec, .int (nI (2 * (gw * gh))), .long ce, .ref ga])), (q_1, .inr (1, [.int (nI gw), .long 0, .long 0]))]) ⟨hx, hb, hml, hown, hts⟩ hE (cX0_init_ct l E H.size q_3 0 (nI gw) 0 0) (cwI 1 hts gX3_init_X0_init rfl rfl rfl (hts (.initialized RX0) (by decide +kernel)) (hts (.methodLink RX3 17 yX0_init) (by decide +kernel)) (hts (.instanceMethod yX0_init) (by decide +kernel)) rfl (by decide +kernel) ⟨Nat.le_of_ble_eq_true rfl, Nat.le_of_ble_eq_true rfl⟩) hP hD hS hA [3] [0, 1, 2] rfl rfl (by decide) (by decide) (hP.sub (ws' := [(q_3, .inr (1, [.int 0, .long 0, .long 0]))]) [3] rfl) (hD.sub (ws' := [(q_3, .inr (1, [.int 0, .long 0, .long 0]))]) [3] (by decide) rfl) rfl hl.1 rfl (Nat.le_of_ble_eq_true rfl) dX3_init_28 ⟨(Nat.le_of_ble_eq_true rfl), (Nat.le_of_ble_eq_true rfl)⟩ (fun cs_ H locs h_4 hP hD hS => ?_)
  subst h_4
  have hP : va_P E.1 vwCl [(q, .inr (4, [.ref q_1, .null, .long 0, .long 0, .long 0, .long 0, .int 0, .int (b2i false)])), (g, .inr (2, [.int (nI gw), .int (nI gh), .int (nI (gw * gh)), .int ec, .int (nI (2 * (gw * gh))), .long ce, .ref ga])), (q_1, .inr (1, [.int (nI gw), .long 0, .long 0])), (q_3, .inr (1, [.int (nI gw), .long 0, .long 0]))] H := hP.sub [0, 1, 2, 3] rfl
  have hD : va_D A [(q, .inr (4, [.ref q_1, .null, .long 0, .long 0, .long 0, .long 0, .int 0, .int (b2i false)])), (g, .inr (2, [.int (nI gw), .int (nI gh), .int (nI (gw * gh)), .int ec, .int (nI (2 * (gw * gh))), .long ce, .ref ga])), (q_1, .inr (1, [.int (nI gw), .long 0, .long 0])), (q_3, .inr (1, [.int (nI gw), .long 0, .long 0]))] := hD.sub [0, 1, 2, 3] (by decide) rfl
  refine W.widen (k := 2) (n := 6) (by omega) (by omega) ?_
  refine va_putF (D := E.1) (ci := 4) (v := .ref q_3) (ty := tyX3 1) (C := RX3) (T := TX3) (N := 8) hx hb hts hi_RX3 tyX3 tyX3_ok nmX3 hown hE.1 hP hD hS 0 rfl rfl 1 (by decide) hf_26 (fun _ h9 => h9) rfl hin rfl (by decide +kernel) (rfl) (rfl) (Nat.le_of_ble_eq_true rfl) dX3_init_31 (fun H locs hP hD hS => ?_)
  have hP : va_P E.1 vwCl [(q, .inr (4, [.ref q_1, .ref q_3, .long 0, .long 0, .long 0, .long 0, .int 0, .int (b2i false)])), (g, .inr (2, [.int (nI gw), .int (nI gh), .int (nI (gw * gh)), .int ec, .int (nI (2 * (gw * gh))), .long ce, .ref ga])), (q_1, .inr (1, [.int (nI gw), .long 0, .long 0])), (q_3, .inr (1, [.int (nI gw), .long 0, .long 0]))] H := hP
  have hD : va_D A [(q, .inr (4, [.ref q_1, .ref q_3, .long 0, .long 0, .long 0, .long 0, .int 0, .int (b2i false)])), (g, .inr (2, [.int (nI gw), .int (nI gh), .int (nI (gw * gh)), .int ec, .int (nI (2 * (gw * gh))), .long ce, .ref ga])), (q_1, .inr (1, [.int (nI gw), .long 0, .long 0])), (q_3, .inr (1, [.int (nI gw), .long 0, .long 0]))] := hD
  refine lv_aload_n hx hb dX3_init_34 rfl (lv_at hl 0 rfl) ?_
  refine lv_iconst (v := (-1)) hx hb dX3_init_35 (by decide) ?_
  refine va_put (D := E.1) (ci := 4) (v := .int (-1)) (ty := .int) (C := RX3) (T := TX3) (N := 8) hx hb hts hi_RX3 tyX3 tyX3_ok nmX3 hown hE.1 hP hD hS 0 rfl rfl 6 (by decide) hf_29 (fun _ h9 => h9) rfl (by decide +kernel) (rfl) (rfl) (Nat.le_of_ble_eq_true rfl) dX3_init_36 (fun H locs hP hD hS => ?_)
  have hP : va_P E.1 vwCl [(q, .inr (4, [.ref q_1, .ref q_3, .long 0, .long 0, .long 0, .long 0, .int (-1), .int (b2i false)])), (g, .inr (2, [.int (nI gw), .int (nI gh), .int (nI (gw * gh)), .int ec, .int (nI (2 * (gw * gh))), .long ce, .ref ga])), (q_1, .inr (1, [.int (nI gw), .long 0, .long 0])), (q_3, .inr (1, [.int (nI gw), .long 0, .long 0]))] H := hP
  have hD : va_D A [(q, .inr (4, [.ref q_1, .ref q_3, .long 0, .long 0, .long 0, .long 0, .int (-1), .int (b2i false)])), (g, .inr (2, [.int (nI gw), .int (nI gh), .int (nI (gw * gh)), .int ec, .int (nI (2 * (gw * gh))), .long ce, .ref ga])), (q_1, .inr (1, [.int (nI gw), .long 0, .long 0])), (q_3, .inr (1, [.int (nI gw), .long 0, .long 0]))] := hD
  refine W.widen (k := 2) (n := 6) (Nat.le_of_ble_eq_true rfl) (Nat.le_of_ble_eq_true rfl) ?_
  exact W.vret hx hb hr (fun t9 ht9 hW => ⟨⟨rfl, [(q, .inr (4, [.ref q_1, .ref q_3, .long 0, .long 0, .long 0, .long 0, .int (-1), .int (b2i false)])), (g, .inr (2, [.int (nI gw), .int (nI gh), .int (nI (gw * gh)), .int ec, .int (nI (2 * (gw * gh))), .long ce, .ref ga])), (q_1, .inr (1, [.int (nI gw), .long 0, .long 0])), (q_3, .inr (1, [.int (nI gw), .long 0, .long 0]))], ⟨_, _, rfl⟩, by rw [ht9]; exact hP, hD⟩, hS.F ht9⟩) hS.2.2 dX3_init_39
set_option maxHeartbeats 4000000 in
set_option maxRecDepth 100000 in
theorem cX2_init_ct (l : Launch) (E : GE) (sz : Nat) (q st lg : Nat) (g : Nat) (gw gh : Nat) (ec : Int32) (ce : Int64) (ga : Nat)   : wrM l yX2_init wsX2_init ({ frames := 2, cells := 3, slots := 9, locals := 41 }) E sz [.ref q, .ref g, .ref st, .ref lg] [(q, .inr (3, [.null, .null, .null, .null, .null, .long 0, .long 0, .long 0, .long 0, .null])), (g, .inr (2, [.int (nI gw), .int (nI gh), .int (nI (gw * gh)), .int ec, .int (nI (2 * (gw * gh))), .long ce, .ref ga]))] none (fun cs' => ∃ op nf sp, cs' = [(q, .inr (3, [.ref g, .ref st, .ref lg, .ref op, .ref nf, .long 0, .long 0, .long 0, .long 0, .ref sp])), (g, .inr (2, [.int (nI gw), .int (nI gh), .int (nI (gw * gh)), .int ec, .int (nI (2 * (gw * gh))), .long ce, .ref ga])), (op, .inr (1, [.int (nI gw), .long 0, .long 0])), (nf, .inr (1, [.int (nI gw), .long 0, .long 0])), (sp, .inr (1, [.int (nI gw), .long 0, .long 0]))]) 3 9 := by
  refine Met.ofW (cc := cX2_init) (maxL := 4) (ret := none) (by decide) rfl ?_
  intro p e s m args below meth c s₁ B hml hv
  obtain ⟨rfl, hsz, hE, hP, hD0⟩ := hv
  have hx := B.exec
  have hb := B.bytes
  have hr := B.returns
  have hts := atoms_spec (ws := wsX2_init) B.pre
  have hown : s.vm.findClass RX2 = some m.cls := findClass_of_methodNamed B.named
  have hlocks := B.notSynchronized
  have hin : meth.name = "<init>" := (name_of_methodNamed B.named B.method).1
  subst hsz
  have hD := hD0.self (sz := s.heap.size)
  generalize hAe : va_A [(q, .inr (3, [.null, .null, .null, .null, .null, .long 0, .long 0, .long 0, .long 0, .null])), (g, .inr (2, [.int (nI gw), .int (nI gh), .int (nI (gw * gh)), .int ec, .int (nI (2 * (gw * gh))), .long ce, .ref ga]))] s.heap.size = A at hD ⊢
  have hA : ∀ q : Nat, s.heap.size ≤ q → A q := fun q h => by rw [← hAe]; exact Or.inr h
  have hS : va_S A s.heap s.heap [] := va_S.rf
  have hP : va_P E.1 vwCl [(q, .inr (3, [.null, .null, .null, .null, .null, .long 0, .long 0, .long 0, .long 0, .null])), (g, .inr (2, [.int (nI gw), .int (nI gh), .int (nI (gw * gh)), .int ec, .int (nI (2 * (gw * gh))), .long ce, .ref ga]))] s.heap := hP
  have hl := lv_entry ([.ref q, .ref g, .ref st, .ref lg]) (n := 4) (Nat.le_of_ble_eq_true rfl)
  rw [lg_entry_eq]
  generalize (lg_sl ([.ref q, .ref g, .ref st, .ref lg]) ++ List.replicate (4 - (lg_sl ([.ref q, .ref g, .ref st, .ref lg])).length) Slot.unset).toArray = ls at hl ⊢
  have hl : lv_has ls 4 [(0, .ref q), (1, .ref g), (2, .ref st), (3, .ref lg)] := hl
  have hf_15 := hts (.fieldLink RX2 15 "LoopRegions$Rules" "now" "LLoopRegions$State;") (by decide +kernel)
  have hf_19 := hts (.fieldLink RX2 19 "LoopRegions$Rules" "log" "LLoopRegions$StepLog;") (by decide +kernel)
  have hf_25 := hts (.fieldLink RX2 25 "LoopRegions$Grid" "width" "I") (by decide +kernel)
  have hf_34 := hts (.fieldLink RX2 34 "LoopRegions$Rules" "open" "LLoopRegions$Edges;") (by decide +kernel)
  have hf_38 := hts (.fieldLink RX2 38 "LoopRegions$Rules" "notOff" "LLoopRegions$Edges;") (by decide +kernel)
  have hf_41 := hts (.fieldLink RX2 41 "LoopRegions$Rules" "spare" "LLoopRegions$Edges;") (by decide +kernel)
  have hf_9 := hts (.fieldLink RX2 9 "LoopRegions$Rules" "grid" "LLoopRegions$Grid;") (by decide +kernel)
  have hi_RX0 : ∀ w ∈ wsX00, w ∈ wsX2_init := by decide +kernel
  have hi_RX1 : ∀ w ∈ wsX10, w ∈ wsX2_init := by decide +kernel
  have hi_RX2 : ∀ w ∈ wsX20, w ∈ wsX2_init := by decide +kernel
  refine lv_aload_n hx hb dX2_init_0 rfl (lv_at hl 0 rfl) ?_
  refine W.objInit hx hb hown (hts (.methodLink RX2 3 objectInit) (by decide +kernel)) (hts (.instanceMethod objectInit) (by decide +kernel)) (hts (.code objectInit ⟨#[0xb1]⟩ 1 none) (by decide +kernel)) rfl (by rw [hml]; exact hl.1) rfl dX2_init_1 (Nat.le_of_ble_eq_true rfl) (Nat.le_of_ble_eq_true rfl) ?_
  refine W.eq (g2 := F0 m 4 ls []) rfl ?_
  refine lv_aload_n hx hb dX2_init_4 rfl (lv_at hl 0 rfl) ?_
  refine lv_aload_n hx hb dX2_init_5 rfl (lv_at hl 1 rfl) ?_
  refine va_putF (D := E.1) (ci := 3) (v := .ref g) (ty := tyX2 0) (C := RX2) (T := TX2) (N := 10) hx hb hts hi_RX2 tyX2 tyX2_ok nmX2 hown hE.1 hP hD hS 0 rfl rfl 0 (by decide) hf_9 (fun _ h9 => h9) rfl hin rfl (by decide +kernel) (rfl) (rfl) (Nat.le_of_ble_eq_true rfl) dX2_init_6 (fun H locs hP hD hS => ?_)
  have hP : va_P E.1 vwCl [(q, .inr (3, [.ref g, .null, .null, .null, .null, .long 0, .long 0, .long 0, .long 0, .null])), (g, .inr (2, [.int (nI gw), .int (nI gh), .int (nI (gw * gh)), .int ec, .int (nI (2 * (gw * gh))), .long ce, .ref ga]))] H := hP
  have hD : va_D A [(q, .inr (3, [.ref g, .null, .null, .null, .null, .long 0, .long 0, .long 0, .long 0, .null])), (g, .inr (2, [.int (nI gw), .int (nI gh), .int (nI (gw * gh)), .int ec, .int (nI (2 * (gw * gh))), .long ce, .ref ga]))] := hD
  refine lv_aload_n hx hb dX2_init_9 rfl (lv_at hl 0 rfl) ?_
  refine lv_aload_n hx hb dX2_init_10 rfl (lv_at hl 2 rfl) ?_
  refine va_putF (D := E.1) (ci := 3) (v := .ref st) (ty := tyX2 1) (C := RX2) (T := TX2) (N := 10) hx hb hts hi_RX2 tyX2 tyX2_ok nmX2 hown hE.1 hP hD hS 0 rfl rfl 1 (by decide) hf_15 (fun _ h9 => h9) rfl hin rfl (by decide +kernel) (rfl) (rfl) (Nat.le_of_ble_eq_true rfl) dX2_init_11 (fun H locs hP hD hS => ?_)
  have hP : va_P E.1 vwCl [(q, .inr (3, [.ref g, .ref st, .null, .null, .null, .long 0, .long 0, .long 0, .long 0, .null])), (g, .inr (2, [.int (nI gw), .int (nI gh), .int (nI (gw * gh)), .int ec, .int (nI (2 * (gw * gh))), .long ce, .ref ga]))] H := hP
  have hD : va_D A [(q, .inr (3, [.ref g, .ref st, .null, .null, .null, .long 0, .long 0, .long 0, .long 0, .null])), (g, .inr (2, [.int (nI gw), .int (nI gh), .int (nI (gw * gh)), .int ec, .int (nI (2 * (gw * gh))), .long ce, .ref ga]))] := hD
  refine lv_aload_n hx hb dX2_init_14 rfl (lv_at hl 0 rfl) ?_
  refine lv_aload_n hx hb dX2_init_15 rfl (lv_at hl 3 rfl) ?_
  refine va_putF (D := E.1) (ci := 3) (v := .ref lg) (ty := tyX2 2) (C := RX2) (T := TX2) (N := 10) hx hb hts hi_RX2 tyX2 tyX2_ok nmX2 hown hE.1 hP hD hS 0 rfl rfl 2 (by decide) hf_19 (fun _ h9 => h9) rfl hin rfl (by decide +kernel) (rfl) (rfl) (Nat.le_of_ble_eq_true rfl) dX2_init_16 (fun H locs hP hD hS => ?_)
  have hP : va_P E.1 vwCl [(q, .inr (3, [.ref g, .ref st, .ref lg, .null, .null, .long 0, .long 0, .long 0, .long 0, .null])), (g, .inr (2, [.int (nI gw), .int (nI gh), .int (nI (gw * gh)), .int ec, .int (nI (2 * (gw * gh))), .long ce, .ref ga]))] H := hP
  have hD : va_D A [(q, .inr (3, [.ref g, .ref st, .ref lg, .null, .null, .long 0, .long 0, .long 0, .long 0, .null])), (g, .inr (2, [.int (nI gw), .int (nI gh), .int (nI (gw * gh)), .int ec, .int (nI (2 * (gw * gh))), .long ce, .ref ga]))] := hD
  refine lv_aload_n hx hb dX2_init_19 rfl (lv_at hl 0 rfl) ?_
  refine va_new (ci := 1) (fs := [.int 0, .long 0, .long 0]) (C := RX0) (T := TX0) (N := 3) hx hb hts hi_RX0 tyX0 tyX0_ok hown (hts (.classLink RX2 23 RX0) (by decide +kernel)) (hts (.instantiable RX0 3) (by decide +kernel)) (hts (.initialized RX0) (by decide +kernel)) hE.1 hP hD hS hA rfl (fun j hj => by rcases (show j = 0 ∨ j = 1 ∨ j = 2 by omega) with rfl | rfl | rfl <;> rfl) (Nat.le_of_ble_eq_true rfl) (Nat.le_of_ble_eq_true rfl) dX2_init_20 (fun q_1 H hP hD hS => ?_)
  have hP : va_P E.1 vwCl [(q, .inr (3, [.ref g, .ref st, .ref lg, .null, .null, .long 0, .long 0, .long 0, .long 0, .null])), (g, .inr (2, [.int (nI gw), .int (nI gh), .int (nI (gw * gh)), .int ec, .int (nI (2 * (gw * gh))), .long ce, .ref ga])), (q_1, .inr (1, [.int 0, .long 0, .long 0]))] H := hP
  have hD : va_D A [(q, .inr (3, [.ref g, .ref st, .ref lg, .null, .null, .long 0, .long 0, .long 0, .long 0, .null])), (g, .inr (2, [.int (nI gw), .int (nI gh), .int (nI (gw * gh)), .int ec, .int (nI (2 * (gw * gh))), .long ce, .ref ga])), (q_1, .inr (1, [.int 0, .long 0, .long 0]))] := hD
  refine W.widen (k := 1) (n := 3) (by omega) (by omega) ?_
  refine lv_dup hx hb dX2_init_23 rfl ?_
  refine lv_aload_n hx hb dX2_init_24 rfl (lv_at hl 1 rfl) ?_
  refine va_get (D := E.1) (ci := 2) (v := .int (nI gw)) (C := RX1) (T := TX1) (N := 7) hx hb hts hi_RX1 hown hE.1 hP 1 rfl rfl 0 (by decide) hf_25 (fun _ h9 => h9) rfl dX2_init_25 ?_
  refine wrI (As := [.int (nI gw)]) (rest := [.ref q_1, .ref q]) (wr := [(q, .inr (3, [.ref g, .ref st, .ref lg, .null, .null, .long 0, .long 0, .long 0, .long 0, .null])), (g, .inr (2, [.int (nI gw), .int (nI gh), .int (nI (gw * gh)), .int ec, .int (nI (2 * (gw * gh))), .long ce, .ref ga]))]) ⟨hx, hb, hml, hown, hts⟩ hE (cX0_init_ct l E H.size q_1 0 (nI gw) 0 0) (cwI 1 hts gX2_init_X0_init rfl rfl rfl (hts (.initialized RX0) (by decide +kernel)) (hts (.methodLink RX2 31 yX0_init) (by decide +kernel)) (hts (.instanceMethod yX0_init) (by decide +kernel)) rfl (by decide +kernel) ⟨Nat.le_of_ble_eq_true rfl, Nat.le_of_ble_eq_true rfl⟩) hP hD hS hA [2] [0, 1] rfl rfl (by decide) (by decide) (hP.sub (ws' := [(q_1, .inr (1, [.int 0, .long 0, .long 0]))]) [2] rfl) (hD.sub (ws' := [(q_1, .inr (1, [.int 0, .long 0, .long 0]))]) [2] (by decide) rfl) rfl hl.1 rfl (Nat.le_of_ble_eq_true rfl) dX2_init_28 ⟨(Nat.le_of_ble_eq_true rfl), (Nat.le_of_ble_eq_true rfl)⟩ (fun cs_ H locs h_2 hP hD hS => ?_)
  subst h_2
  have hP : va_P E.1 vwCl [(q, .inr (3, [.ref g, .ref st, .ref lg, .null, .null, .long 0, .long 0, .long 0, .long 0, .null])), (g, .inr (2, [.int (nI gw), .int (nI gh), .int (nI (gw * gh)), .int ec, .int (nI (2 * (gw * gh))), .long ce, .ref ga])), (q_1, .inr (1, [.int (nI gw), .long 0, .long 0]))] H := hP.sub [0, 1, 2] rfl
  have hD : va_D A [(q, .inr (3, [.ref g, .ref st, .ref lg, .null, .null, .long 0, .long 0, .long 0, .long 0, .null])), (g, .inr (2, [.int (nI gw), .int (nI gh), .int (nI (gw * gh)), .int ec, .int (nI (2 * (gw * gh))), .long ce, .ref ga])), (q_1, .inr (1, [.int (nI gw), .long 0, .long 0]))] := hD.sub [0, 1, 2] (by decide) rfl
  refine W.widen (k := 1) (n := 3) (by omega) (by omega) ?_
  refine va_putF (D := E.1) (ci := 3) (v := .ref q_1) (ty := tyX2 3) (C := RX2) (T := TX2) (N := 10) hx hb hts hi_RX2 tyX2 tyX2_ok nmX2 hown hE.1 hP hD hS 0 rfl rfl 3 (by decide) hf_34 (fun _ h9 => h9) rfl hin rfl (by decide +kernel) (rfl) (rfl) (Nat.le_of_ble_eq_true rfl) dX2_init_31 (fun H locs hP hD hS => ?_)
  have hP : va_P E.1 vwCl [(q, .inr (3, [.ref g, .ref st, .ref lg, .ref q_1, .null, .long 0, .long 0, .long 0, .long 0, .null])), (g, .inr (2, [.int (nI gw), .int (nI gh), .int (nI (gw * gh)), .int ec, .int (nI (2 * (gw * gh))), .long ce, .ref ga])), (q_1, .inr (1, [.int (nI gw), .long 0, .long 0]))] H := hP
  have hD : va_D A [(q, .inr (3, [.ref g, .ref st, .ref lg, .ref q_1, .null, .long 0, .long 0, .long 0, .long 0, .null])), (g, .inr (2, [.int (nI gw), .int (nI gh), .int (nI (gw * gh)), .int ec, .int (nI (2 * (gw * gh))), .long ce, .ref ga])), (q_1, .inr (1, [.int (nI gw), .long 0, .long 0]))] := hD
  refine lv_aload_n hx hb dX2_init_34 rfl (lv_at hl 0 rfl) ?_
  refine va_new (ci := 1) (fs := [.int 0, .long 0, .long 0]) (C := RX0) (T := TX0) (N := 3) hx hb hts hi_RX0 tyX0 tyX0_ok hown (hts (.classLink RX2 23 RX0) (by decide +kernel)) (hts (.instantiable RX0 3) (by decide +kernel)) (hts (.initialized RX0) (by decide +kernel)) hE.1 hP hD hS hA rfl (fun j hj => by rcases (show j = 0 ∨ j = 1 ∨ j = 2 by omega) with rfl | rfl | rfl <;> rfl) (Nat.le_of_ble_eq_true rfl) (Nat.le_of_ble_eq_true rfl) dX2_init_35 (fun q_3 H hP hD hS => ?_)
  have hP : va_P E.1 vwCl [(q, .inr (3, [.ref g, .ref st, .ref lg, .ref q_1, .null, .long 0, .long 0, .long 0, .long 0, .null])), (g, .inr (2, [.int (nI gw), .int (nI gh), .int (nI (gw * gh)), .int ec, .int (nI (2 * (gw * gh))), .long ce, .ref ga])), (q_1, .inr (1, [.int (nI gw), .long 0, .long 0])), (q_3, .inr (1, [.int 0, .long 0, .long 0]))] H := hP
  have hD : va_D A [(q, .inr (3, [.ref g, .ref st, .ref lg, .ref q_1, .null, .long 0, .long 0, .long 0, .long 0, .null])), (g, .inr (2, [.int (nI gw), .int (nI gh), .int (nI (gw * gh)), .int ec, .int (nI (2 * (gw * gh))), .long ce, .ref ga])), (q_1, .inr (1, [.int (nI gw), .long 0, .long 0])), (q_3, .inr (1, [.int 0, .long 0, .long 0]))] := hD
  refine W.widen (k := 2) (n := 6) (by omega) (by omega) ?_
  refine lv_dup hx hb dX2_init_38 rfl ?_
  refine lv_aload_n hx hb dX2_init_39 rfl (lv_at hl 1 rfl) ?_
  refine va_get (D := E.1) (ci := 2) (v := .int (nI gw)) (C := RX1) (T := TX1) (N := 7) hx hb hts hi_RX1 hown hE.1 hP 1 rfl rfl 0 (by decide) hf_25 (fun _ h9 => h9) rfl dX2_init_40 ?_
  refine wrI (As := [.int (nI gw)]) (rest := [.ref q_3, .ref q]) (wr := [(q, .inr (3, [.ref g, .ref st, .ref lg, .ref q_1, .null, .long 0, .long 0, .long 0, .long 0, .null])), (g, .inr (2, [.int (nI gw), .int (nI gh), .int (nI (gw * gh)), .int ec, .int (nI (2 * (gw * gh))), .long ce, .ref ga])), (q_1, .inr (1, [.int (nI gw), .long 0, .long 0]))]) ⟨hx, hb, hml, hown, hts⟩ hE (cX0_init_ct l E H.size q_3 0 (nI gw) 0 0) (cwI 1 hts gX2_init_X0_init rfl rfl rfl (hts (.initialized RX0) (by decide +kernel)) (hts (.methodLink RX2 31 yX0_init) (by decide +kernel)) (hts (.instanceMethod yX0_init) (by decide +kernel)) rfl (by decide +kernel) ⟨Nat.le_of_ble_eq_true rfl, Nat.le_of_ble_eq_true rfl⟩) hP hD hS hA [3] [0, 1, 2] rfl rfl (by decide) (by decide) (hP.sub (ws' := [(q_3, .inr (1, [.int 0, .long 0, .long 0]))]) [3] rfl) (hD.sub (ws' := [(q_3, .inr (1, [.int 0, .long 0, .long 0]))]) [3] (by decide) rfl) rfl hl.1 rfl (Nat.le_of_ble_eq_true rfl) dX2_init_43 ⟨(Nat.le_of_ble_eq_true rfl), (Nat.le_of_ble_eq_true rfl)⟩ (fun cs_ H locs h_4 hP hD hS => ?_)
  subst h_4
  have hP : va_P E.1 vwCl [(q, .inr (3, [.ref g, .ref st, .ref lg, .ref q_1, .null, .long 0, .long 0, .long 0, .long 0, .null])), (g, .inr (2, [.int (nI gw), .int (nI gh), .int (nI (gw * gh)), .int ec, .int (nI (2 * (gw * gh))), .long ce, .ref ga])), (q_1, .inr (1, [.int (nI gw), .long 0, .long 0])), (q_3, .inr (1, [.int (nI gw), .long 0, .long 0]))] H := hP.sub [0, 1, 2, 3] rfl
  have hD : va_D A [(q, .inr (3, [.ref g, .ref st, .ref lg, .ref q_1, .null, .long 0, .long 0, .long 0, .long 0, .null])), (g, .inr (2, [.int (nI gw), .int (nI gh), .int (nI (gw * gh)), .int ec, .int (nI (2 * (gw * gh))), .long ce, .ref ga])), (q_1, .inr (1, [.int (nI gw), .long 0, .long 0])), (q_3, .inr (1, [.int (nI gw), .long 0, .long 0]))] := hD.sub [0, 1, 2, 3] (by decide) rfl
  refine W.widen (k := 2) (n := 6) (by omega) (by omega) ?_
  refine va_putF (D := E.1) (ci := 3) (v := .ref q_3) (ty := tyX2 4) (C := RX2) (T := TX2) (N := 10) hx hb hts hi_RX2 tyX2 tyX2_ok nmX2 hown hE.1 hP hD hS 0 rfl rfl 4 (by decide) hf_38 (fun _ h9 => h9) rfl hin rfl (by decide +kernel) (rfl) (rfl) (Nat.le_of_ble_eq_true rfl) dX2_init_46 (fun H locs hP hD hS => ?_)
  have hP : va_P E.1 vwCl [(q, .inr (3, [.ref g, .ref st, .ref lg, .ref q_1, .ref q_3, .long 0, .long 0, .long 0, .long 0, .null])), (g, .inr (2, [.int (nI gw), .int (nI gh), .int (nI (gw * gh)), .int ec, .int (nI (2 * (gw * gh))), .long ce, .ref ga])), (q_1, .inr (1, [.int (nI gw), .long 0, .long 0])), (q_3, .inr (1, [.int (nI gw), .long 0, .long 0]))] H := hP
  have hD : va_D A [(q, .inr (3, [.ref g, .ref st, .ref lg, .ref q_1, .ref q_3, .long 0, .long 0, .long 0, .long 0, .null])), (g, .inr (2, [.int (nI gw), .int (nI gh), .int (nI (gw * gh)), .int ec, .int (nI (2 * (gw * gh))), .long ce, .ref ga])), (q_1, .inr (1, [.int (nI gw), .long 0, .long 0])), (q_3, .inr (1, [.int (nI gw), .long 0, .long 0]))] := hD
  refine lv_aload_n hx hb dX2_init_49 rfl (lv_at hl 0 rfl) ?_
  refine va_new (ci := 1) (fs := [.int 0, .long 0, .long 0]) (C := RX0) (T := TX0) (N := 3) hx hb hts hi_RX0 tyX0 tyX0_ok hown (hts (.classLink RX2 23 RX0) (by decide +kernel)) (hts (.instantiable RX0 3) (by decide +kernel)) (hts (.initialized RX0) (by decide +kernel)) hE.1 hP hD hS hA rfl (fun j hj => by rcases (show j = 0 ∨ j = 1 ∨ j = 2 by omega) with rfl | rfl | rfl <;> rfl) (Nat.le_of_ble_eq_true rfl) (Nat.le_of_ble_eq_true rfl) dX2_init_50 (fun q_5 H hP hD hS => ?_)
  have hP : va_P E.1 vwCl [(q, .inr (3, [.ref g, .ref st, .ref lg, .ref q_1, .ref q_3, .long 0, .long 0, .long 0, .long 0, .null])), (g, .inr (2, [.int (nI gw), .int (nI gh), .int (nI (gw * gh)), .int ec, .int (nI (2 * (gw * gh))), .long ce, .ref ga])), (q_1, .inr (1, [.int (nI gw), .long 0, .long 0])), (q_3, .inr (1, [.int (nI gw), .long 0, .long 0])), (q_5, .inr (1, [.int 0, .long 0, .long 0]))] H := hP
  have hD : va_D A [(q, .inr (3, [.ref g, .ref st, .ref lg, .ref q_1, .ref q_3, .long 0, .long 0, .long 0, .long 0, .null])), (g, .inr (2, [.int (nI gw), .int (nI gh), .int (nI (gw * gh)), .int ec, .int (nI (2 * (gw * gh))), .long ce, .ref ga])), (q_1, .inr (1, [.int (nI gw), .long 0, .long 0])), (q_3, .inr (1, [.int (nI gw), .long 0, .long 0])), (q_5, .inr (1, [.int 0, .long 0, .long 0]))] := hD
  refine W.widen (k := 3) (n := 9) (by omega) (by omega) ?_
  refine lv_dup hx hb dX2_init_53 rfl ?_
  refine lv_aload_n hx hb dX2_init_54 rfl (lv_at hl 1 rfl) ?_
  refine va_get (D := E.1) (ci := 2) (v := .int (nI gw)) (C := RX1) (T := TX1) (N := 7) hx hb hts hi_RX1 hown hE.1 hP 1 rfl rfl 0 (by decide) hf_25 (fun _ h9 => h9) rfl dX2_init_55 ?_
  refine wrI (As := [.int (nI gw)]) (rest := [.ref q_5, .ref q]) (wr := [(q, .inr (3, [.ref g, .ref st, .ref lg, .ref q_1, .ref q_3, .long 0, .long 0, .long 0, .long 0, .null])), (g, .inr (2, [.int (nI gw), .int (nI gh), .int (nI (gw * gh)), .int ec, .int (nI (2 * (gw * gh))), .long ce, .ref ga])), (q_1, .inr (1, [.int (nI gw), .long 0, .long 0])), (q_3, .inr (1, [.int (nI gw), .long 0, .long 0]))]) ⟨hx, hb, hml, hown, hts⟩ hE (cX0_init_ct l E H.size q_5 0 (nI gw) 0 0) (cwI 1 hts gX2_init_X0_init rfl rfl rfl (hts (.initialized RX0) (by decide +kernel)) (hts (.methodLink RX2 31 yX0_init) (by decide +kernel)) (hts (.instanceMethod yX0_init) (by decide +kernel)) rfl (by decide +kernel) ⟨Nat.le_of_ble_eq_true rfl, Nat.le_of_ble_eq_true rfl⟩) hP hD hS hA [4] [0, 1, 2, 3] rfl rfl (by decide) (by decide) (hP.sub (ws' := [(q_5, .inr (1, [.int 0, .long 0, .long 0]))]) [4] rfl) (hD.sub (ws' := [(q_5, .inr (1, [.int 0, .long 0, .long 0]))]) [4] (by decide) rfl) rfl hl.1 rfl (Nat.le_of_ble_eq_true rfl) dX2_init_58 ⟨(Nat.le_of_ble_eq_true rfl), (Nat.le_of_ble_eq_true rfl)⟩ (fun cs_ H locs h_6 hP hD hS => ?_)
  subst h_6
  have hP : va_P E.1 vwCl [(q, .inr (3, [.ref g, .ref st, .ref lg, .ref q_1, .ref q_3, .long 0, .long 0, .long 0, .long 0, .null])), (g, .inr (2, [.int (nI gw), .int (nI gh), .int (nI (gw * gh)), .int ec, .int (nI (2 * (gw * gh))), .long ce, .ref ga])), (q_1, .inr (1, [.int (nI gw), .long 0, .long 0])), (q_3, .inr (1, [.int (nI gw), .long 0, .long 0])), (q_5, .inr (1, [.int (nI gw), .long 0, .long 0]))] H := hP.sub [0, 1, 2, 3, 4] rfl
  have hD : va_D A [(q, .inr (3, [.ref g, .ref st, .ref lg, .ref q_1, .ref q_3, .long 0, .long 0, .long 0, .long 0, .null])), (g, .inr (2, [.int (nI gw), .int (nI gh), .int (nI (gw * gh)), .int ec, .int (nI (2 * (gw * gh))), .long ce, .ref ga])), (q_1, .inr (1, [.int (nI gw), .long 0, .long 0])), (q_3, .inr (1, [.int (nI gw), .long 0, .long 0])), (q_5, .inr (1, [.int (nI gw), .long 0, .long 0]))] := hD.sub [0, 1, 2, 3, 4] (by decide) rfl
  refine W.widen (k := 3) (n := 9) (by omega) (by omega) ?_
  refine va_putF (D := E.1) (ci := 3) (v := .ref q_5) (ty := tyX2 9) (C := RX2) (T := TX2) (N := 10) hx hb hts hi_RX2 tyX2 tyX2_ok nmX2 hown hE.1 hP hD hS 0 rfl rfl 9 (by decide) hf_41 (fun _ h9 => h9) rfl hin rfl (by decide +kernel) (rfl) (rfl) (Nat.le_of_ble_eq_true rfl) dX2_init_61 (fun H locs hP hD hS => ?_)
  have hP : va_P E.1 vwCl [(q, .inr (3, [.ref g, .ref st, .ref lg, .ref q_1, .ref q_3, .long 0, .long 0, .long 0, .long 0, .ref q_5])), (g, .inr (2, [.int (nI gw), .int (nI gh), .int (nI (gw * gh)), .int ec, .int (nI (2 * (gw * gh))), .long ce, .ref ga])), (q_1, .inr (1, [.int (nI gw), .long 0, .long 0])), (q_3, .inr (1, [.int (nI gw), .long 0, .long 0])), (q_5, .inr (1, [.int (nI gw), .long 0, .long 0]))] H := hP
  have hD : va_D A [(q, .inr (3, [.ref g, .ref st, .ref lg, .ref q_1, .ref q_3, .long 0, .long 0, .long 0, .long 0, .ref q_5])), (g, .inr (2, [.int (nI gw), .int (nI gh), .int (nI (gw * gh)), .int ec, .int (nI (2 * (gw * gh))), .long ce, .ref ga])), (q_1, .inr (1, [.int (nI gw), .long 0, .long 0])), (q_3, .inr (1, [.int (nI gw), .long 0, .long 0])), (q_5, .inr (1, [.int (nI gw), .long 0, .long 0]))] := hD
  refine W.widen (k := 3) (n := 9) (Nat.le_of_ble_eq_true rfl) (Nat.le_of_ble_eq_true rfl) ?_
  exact W.vret hx hb hr (fun t9 ht9 hW => ⟨⟨rfl, [(q, .inr (3, [.ref g, .ref st, .ref lg, .ref q_1, .ref q_3, .long 0, .long 0, .long 0, .long 0, .ref q_5])), (g, .inr (2, [.int (nI gw), .int (nI gh), .int (nI (gw * gh)), .int ec, .int (nI (2 * (gw * gh))), .long ce, .ref ga])), (q_1, .inr (1, [.int (nI gw), .long 0, .long 0])), (q_3, .inr (1, [.int (nI gw), .long 0, .long 0])), (q_5, .inr (1, [.int (nI gw), .long 0, .long 0]))], ⟨_, _, _, rfl⟩, by rw [ht9]; exact hP, hD⟩, hS.F ht9⟩) hS.2.2 dX2_init_64
set_option maxHeartbeats 4000000 in
set_option maxRecDepth 100000 in
theorem cX4_init_ct (l : Launch) (E : GE) (sz : Nat) (lg mm : Nat)  (hmm : mm ≤ 176) : wrM l yX4_init wsX4_init ({ frames := 1, cells := 4, slots := 1472, locals := 20 }) E sz [.ref lg, .int (nI mm)] [(lg, .inr (5, [.null, .null, .null, .null, .int 0]))] none (fun cs' => ∃ a1 a2 a3 a4, cs' = [(lg, .inr (5, [.ref a1, .ref a2, .ref a3, .ref a4, .int (nI 0)])), (a1, .inl (E.2 0, (mm + 256), .inl (fun _ => 0))), (a2, .inl (E.2 0, (mm + 256), .inl (fun _ => 0))), (a3, .inl (E.2 0, (mm + 256), .inl (fun _ => 0))), (a4, .inl (E.2 0, mm, .inl (fun _ => 0)))]) 4 1472 := by
  refine Met.ofW (cc := cX4_init) (maxL := 3) (ret := none) (by decide) rfl ?_
  intro p e s m args below meth c s₁ B hml hv
  obtain ⟨rfl, hsz, hE, hP, hD0⟩ := hv
  have hx := B.exec
  have hb := B.bytes
  have hr := B.returns
  have hts := atoms_spec (ws := wsX4_init) B.pre
  have hown : s.vm.findClass RX4 = some m.cls := findClass_of_methodNamed B.named
  have hlocks := B.notSynchronized
  have hin : meth.name = "<init>" := (name_of_methodNamed B.named B.method).1
  subst hsz
  have hD := hD0.self (sz := s.heap.size)
  generalize hAe : va_A [(lg, .inr (5, [.null, .null, .null, .null, .int 0]))] s.heap.size = A at hD ⊢
  have hA : ∀ q : Nat, s.heap.size ≤ q → A q := fun q h => by rw [← hAe]; exact Or.inr h
  have hS : va_S A s.heap s.heap [] := va_S.rf
  have hP : va_P E.1 vwCl [(lg, .inr (5, [.null, .null, .null, .null, .int 0]))] s.heap := hP
  have hl := lv_entry ([.ref lg, .int (nI mm)]) (n := 3) (Nat.le_of_ble_eq_true rfl)
  rw [lg_entry_eq]
  generalize (lg_sl ([.ref lg, .int (nI mm)]) ++ List.replicate (3 - (lg_sl ([.ref lg, .int (nI mm)])).length) Slot.unset).toArray = ls at hl ⊢
  have hl : lv_has ls 3 [(0, .ref lg), (1, .int (nI mm))] := hl
  have hf_15 := hts (.fieldLink RX4 15 "LoopRegions$StepLog" "places" "[I") (by decide +kernel)
  have hf_18 := hts (.fieldLink RX4 18 "LoopRegions$StepLog" "changeEnds" "[I") (by decide +kernel)
  have hf_21 := hts (.fieldLink RX4 21 "LoopRegions$StepLog" "changes" "[I") (by decide +kernel)
  have hf_9 := hts (.fieldLink RX4 9 "LoopRegions$StepLog" "numbers" "[I") (by decide +kernel)
  have hi_RX4 : ∀ w ∈ wsX40, w ∈ wsX4_init := by decide +kernel
  refine lv_aload_n hx hb dX4_init_0 rfl (lv_at hl 0 rfl) ?_
  refine W.objInit hx hb hown (hts (.methodLink RX4 3 objectInit) (by decide +kernel)) (hts (.instanceMethod objectInit) (by decide +kernel)) (hts (.code objectInit ⟨#[0xb1]⟩ 1 none) (by decide +kernel)) rfl (by rw [hml]; exact hl.1) rfl dX4_init_1 (Nat.le_of_ble_eq_true rfl) (Nat.le_of_ble_eq_true rfl) ?_
  refine W.eq (g2 := F0 m 4 ls []) rfl ?_
  refine lv_iload_n hx hb dX4_init_4 rfl (lv_at hl 1 rfl) ?_
  refine lv_sipush (v := 256) hx hb dX4_init_5 (by decide) ?_
  refine lv_iadd hx hb dX4_init_8 ?_
  refine lv_topi (fun x_1 ex_1 => ?_)
  refine lv_istore_n (lv' := [(2, .int x_1), (0, .ref lg), (1, .int (nI mm))]) hx hb dX4_init_9 rfl hl (by decide) rfl (fun ls hl => ?_)
  obtain rfl : x_1 = nI (mm + 256) := by rw [ex_1]; exact nI_add mm 256
  refine lv_aload_n hx hb dX4_init_10 rfl (lv_at hl 1 rfl) ?_
  refine lv_iload_n hx hb dX4_init_11 rfl (lv_at hl 0 rfl) ?_
  refine al_newI (N' := (mm + 256)) hx hb (hts (.arrayClass .int) (by decide +kernel)) hE hP hD hS hA (nI_pos (by omega)) (nI_clamp (by omega)) (by omega) (Nat.le_of_ble_eq_true rfl) (show 0 + (mm + 256) ≤ 1472 by omega) dX4_init_12 (fun q_2 H hP hD hS => ?_)
  have hP : va_P E.1 vwCl [(lg, .inr (5, [.null, .null, .null, .null, .int 0])), (q_2, .inl (E.2 0, (mm + 256), .inl (fun _ => 0)))] H := hP
  have hD : va_D A [(lg, .inr (5, [.null, .null, .null, .null, .int 0])), (q_2, .inl (E.2 0, (mm + 256), .inl (fun _ => 0)))] := hD
  refine W.widen (k := 1) (n := 432) (by omega) (by omega) ?_
  refine va_putF (D := E.1) (ci := 5) (v := .ref q_2) (ty := tyX4 0) (C := RX4) (T := TX4) (N := 5) hx hb hts hi_RX4 tyX4 tyX4_ok nmX4 hown hE.1 hP hD hS 0 rfl rfl 0 (by decide) hf_9 (fun _ h9 => h9) rfl hin rfl (by decide +kernel) (rfl) (rfl) (Nat.le_of_ble_eq_true rfl) dX4_init_14 (fun H locs hP hD hS => ?_)
  have hP : va_P E.1 vwCl [(lg, .inr (5, [.ref q_2, .null, .null, .null, .int 0])), (q_2, .inl (E.2 0, (mm + 256), .inl (fun _ => 0)))] H := hP
  have hD : va_D A [(lg, .inr (5, [.ref q_2, .null, .null, .null, .int 0])), (q_2, .inl (E.2 0, (mm + 256), .inl (fun _ => 0)))] := hD
  refine lv_aload_n hx hb dX4_init_17 rfl (lv_at hl 1 rfl) ?_
  refine lv_iload_n hx hb dX4_init_18 rfl (lv_at hl 0 rfl) ?_
  refine al_newI (N' := (mm + 256)) hx hb (hts (.arrayClass .int) (by decide +kernel)) hE hP hD hS hA (nI_pos (by omega)) (nI_clamp (by omega)) (by omega) (Nat.le_of_ble_eq_true rfl) (show 432 + (mm + 256) ≤ 1472 by omega) dX4_init_19 (fun q_3 H hP hD hS => ?_)
  have hP : va_P E.1 vwCl [(lg, .inr (5, [.ref q_2, .null, .null, .null, .int 0])), (q_2, .inl (E.2 0, (mm + 256), .inl (fun _ => 0))), (q_3, .inl (E.2 0, (mm + 256), .inl (fun _ => 0)))] H := hP
  have hD : va_D A [(lg, .inr (5, [.ref q_2, .null, .null, .null, .int 0])), (q_2, .inl (E.2 0, (mm + 256), .inl (fun _ => 0))), (q_3, .inl (E.2 0, (mm + 256), .inl (fun _ => 0)))] := hD
  refine W.widen (k := 2) (n := 864) (by omega) (by omega) ?_
  refine va_putF (D := E.1) (ci := 5) (v := .ref q_3) (ty := tyX4 1) (C := RX4) (T := TX4) (N := 5) hx hb hts hi_RX4 tyX4 tyX4_ok nmX4 hown hE.1 hP hD hS 0 rfl rfl 1 (by decide) hf_15 (fun _ h9 => h9) rfl hin rfl (by decide +kernel) (rfl) (rfl) (Nat.le_of_ble_eq_true rfl) dX4_init_21 (fun H locs hP hD hS => ?_)
  have hP : va_P E.1 vwCl [(lg, .inr (5, [.ref q_2, .ref q_3, .null, .null, .int 0])), (q_2, .inl (E.2 0, (mm + 256), .inl (fun _ => 0))), (q_3, .inl (E.2 0, (mm + 256), .inl (fun _ => 0)))] H := hP
  have hD : va_D A [(lg, .inr (5, [.ref q_2, .ref q_3, .null, .null, .int 0])), (q_2, .inl (E.2 0, (mm + 256), .inl (fun _ => 0))), (q_3, .inl (E.2 0, (mm + 256), .inl (fun _ => 0)))] := hD
  refine lv_aload_n hx hb dX4_init_24 rfl (lv_at hl 1 rfl) ?_
  refine lv_iload_n hx hb dX4_init_25 rfl (lv_at hl 0 rfl) ?_
  refine al_newI (N' := (mm + 256)) hx hb (hts (.arrayClass .int) (by decide +kernel)) hE hP hD hS hA (nI_pos (by omega)) (nI_clamp (by omega)) (by omega) (Nat.le_of_ble_eq_true rfl) (show 864 + (mm + 256) ≤ 1472 by omega) dX4_init_26 (fun q_4 H hP hD hS => ?_)
  have hP : va_P E.1 vwCl [(lg, .inr (5, [.ref q_2, .ref q_3, .null, .null, .int 0])), (q_2, .inl (E.2 0, (mm + 256), .inl (fun _ => 0))), (q_3, .inl (E.2 0, (mm + 256), .inl (fun _ => 0))), (q_4, .inl (E.2 0, (mm + 256), .inl (fun _ => 0)))] H := hP
  have hD : va_D A [(lg, .inr (5, [.ref q_2, .ref q_3, .null, .null, .int 0])), (q_2, .inl (E.2 0, (mm + 256), .inl (fun _ => 0))), (q_3, .inl (E.2 0, (mm + 256), .inl (fun _ => 0))), (q_4, .inl (E.2 0, (mm + 256), .inl (fun _ => 0)))] := hD
  refine W.widen (k := 3) (n := 1296) (by omega) (by omega) ?_
  refine va_putF (D := E.1) (ci := 5) (v := .ref q_4) (ty := tyX4 2) (C := RX4) (T := TX4) (N := 5) hx hb hts hi_RX4 tyX4 tyX4_ok nmX4 hown hE.1 hP hD hS 0 rfl rfl 2 (by decide) hf_18 (fun _ h9 => h9) rfl hin rfl (by decide +kernel) (rfl) (rfl) (Nat.le_of_ble_eq_true rfl) dX4_init_28 (fun H locs hP hD hS => ?_)
  have hP : va_P E.1 vwCl [(lg, .inr (5, [.ref q_2, .ref q_3, .ref q_4, .null, .int 0])), (q_2, .inl (E.2 0, (mm + 256), .inl (fun _ => 0))), (q_3, .inl (E.2 0, (mm + 256), .inl (fun _ => 0))), (q_4, .inl (E.2 0, (mm + 256), .inl (fun _ => 0)))] H := hP
  have hD : va_D A [(lg, .inr (5, [.ref q_2, .ref q_3, .ref q_4, .null, .int 0])), (q_2, .inl (E.2 0, (mm + 256), .inl (fun _ => 0))), (q_3, .inl (E.2 0, (mm + 256), .inl (fun _ => 0))), (q_4, .inl (E.2 0, (mm + 256), .inl (fun _ => 0)))] := hD
  refine lv_aload_n hx hb dX4_init_31 rfl (lv_at hl 1 rfl) ?_
  refine lv_iload_n hx hb dX4_init_32 rfl (lv_at hl 2 rfl) ?_
  refine al_newI (N' := mm) hx hb (hts (.arrayClass .int) (by decide +kernel)) hE hP hD hS hA (nI_pos (by omega)) (nI_clamp (by omega)) (by omega) (Nat.le_of_ble_eq_true rfl) (show 1296 + mm ≤ 1472 by omega) dX4_init_33 (fun q_5 H hP hD hS => ?_)
  have hP : va_P E.1 vwCl [(lg, .inr (5, [.ref q_2, .ref q_3, .ref q_4, .null, .int 0])), (q_2, .inl (E.2 0, (mm + 256), .inl (fun _ => 0))), (q_3, .inl (E.2 0, (mm + 256), .inl (fun _ => 0))), (q_4, .inl (E.2 0, (mm + 256), .inl (fun _ => 0))), (q_5, .inl (E.2 0, mm, .inl (fun _ => 0)))] H := hP
  have hD : va_D A [(lg, .inr (5, [.ref q_2, .ref q_3, .ref q_4, .null, .int 0])), (q_2, .inl (E.2 0, (mm + 256), .inl (fun _ => 0))), (q_3, .inl (E.2 0, (mm + 256), .inl (fun _ => 0))), (q_4, .inl (E.2 0, (mm + 256), .inl (fun _ => 0))), (q_5, .inl (E.2 0, mm, .inl (fun _ => 0)))] := hD
  refine W.widen (k := 4) (n := 1472) (by omega) (by omega) ?_
  refine va_putF (D := E.1) (ci := 5) (v := .ref q_5) (ty := tyX4 3) (C := RX4) (T := TX4) (N := 5) hx hb hts hi_RX4 tyX4 tyX4_ok nmX4 hown hE.1 hP hD hS 0 rfl rfl 3 (by decide) hf_21 (fun _ h9 => h9) rfl hin rfl (by decide +kernel) (rfl) (rfl) (Nat.le_of_ble_eq_true rfl) dX4_init_35 (fun H locs hP hD hS => ?_)
  have hP : va_P E.1 vwCl [(lg, .inr (5, [.ref q_2, .ref q_3, .ref q_4, .ref q_5, .int 0])), (q_2, .inl (E.2 0, (mm + 256), .inl (fun _ => 0))), (q_3, .inl (E.2 0, (mm + 256), .inl (fun _ => 0))), (q_4, .inl (E.2 0, (mm + 256), .inl (fun _ => 0))), (q_5, .inl (E.2 0, mm, .inl (fun _ => 0)))] H := hP
  have hD : va_D A [(lg, .inr (5, [.ref q_2, .ref q_3, .ref q_4, .ref q_5, .int 0])), (q_2, .inl (E.2 0, (mm + 256), .inl (fun _ => 0))), (q_3, .inl (E.2 0, (mm + 256), .inl (fun _ => 0))), (q_4, .inl (E.2 0, (mm + 256), .inl (fun _ => 0))), (q_5, .inl (E.2 0, mm, .inl (fun _ => 0)))] := hD
  refine W.widen (k := 4) (n := 1472) (Nat.le_of_ble_eq_true rfl) (Nat.le_of_ble_eq_true rfl) ?_
  exact W.vret hx hb hr (fun t9 ht9 hW => ⟨⟨rfl, [(lg, .inr (5, [.ref q_2, .ref q_3, .ref q_4, .ref q_5, .int 0])), (q_2, .inl (E.2 0, (mm + 256), .inl (fun _ => 0))), (q_3, .inl (E.2 0, (mm + 256), .inl (fun _ => 0))), (q_4, .inl (E.2 0, (mm + 256), .inl (fun _ => 0))), (q_5, .inl (E.2 0, mm, .inl (fun _ => 0)))], ⟨_, _, _, _, rfl⟩, by rw [ht9]; exact hP, hD⟩, hS.F ht9⟩) hS.2.2 dX4_init_38
set_option maxHeartbeats 4000000 in
set_option maxRecDepth 100000 in
theorem cX1_init_ct (l : Launch) (E : GE) (sz : Nat) (g gw gh : Nat)  (hg1 : 1 ≤ gw) (hh1 : 1 ≤ gh) (hg8 : gw ≤ 8) (hh8 : gh ≤ 8) : wrM l yX1_init wsX1_init ({ frames := 2, cells := 1, slots := 3, locals := 44 }) E sz [.ref g, .int (nI gw), .int (nI gh)] [(g, .inr (2, [.int 0, .int 0, .int 0, .int 0, .int 0, .long 0, .null]))] none (fun cs' => ∃ ga, cs' = [(g, .inr (2, [.int (nI gw), .int (nI gh), .int (nI (gw * gh)), .int (nI ((gw - 1) * gh + gw * (gh - 1))), .int (nI (2 * (gw * gh))), .long (gEv (gw * gh) (gw * gh) 0), .ref ga])), (ga, .inr (1, [.int (nI gw), .long (gEv (gw * gh) (gw * gh) 0 &&& (fCol (nI gw) (nI gw - 1) gh gh 0 ^^^ (-1))), .long (gBe gw (gw * gh) (gw * gh) 0)]))]) 1 3 := by
  refine Met.ofW (cc := cX1_init) (maxL := 6) (ret := none) (by decide) rfl ?_
  intro p e s m args below meth c s₁ B hml hv
  obtain ⟨rfl, hsz, hE, hP, hD0⟩ := hv
  have hx := B.exec
  have hb := B.bytes
  have hr := B.returns
  have hts := atoms_spec (ws := wsX1_init) B.pre
  have hown : s.vm.findClass RX1 = some m.cls := findClass_of_methodNamed B.named
  have hlocks := B.notSynchronized
  have hin : meth.name = "<init>" := (name_of_methodNamed B.named B.method).1
  subst hsz
  have hD := hD0.self (sz := s.heap.size)
  generalize hAe : va_A [(g, .inr (2, [.int 0, .int 0, .int 0, .int 0, .int 0, .long 0, .null]))] s.heap.size = A at hD ⊢
  have hA : ∀ q : Nat, s.heap.size ≤ q → A q := fun q h => by rw [← hAe]; exact Or.inr h
  have hS : va_S A s.heap s.heap [] := va_S.rf
  have hP : va_P E.1 vwCl [(g, .inr (2, [.int 0, .int 0, .int 0, .int 0, .int 0, .long 0, .null]))] s.heap := hP
  have hl := lv_entry ([.ref g, .int (nI gw), .int (nI gh)]) (n := 6) (Nat.le_of_ble_eq_true rfl)
  rw [lg_entry_eq]
  generalize (lg_sl ([.ref g, .int (nI gw), .int (nI gh)]) ++ List.replicate (6 - (lg_sl ([.ref g, .int (nI gw), .int (nI gh)])).length) Slot.unset).toArray = ls at hl ⊢
  have hl : lv_has ls 6 [(0, .ref g), (1, .int (nI gw)), (2, .int (nI gh))] := hl
  have hf_15 := hts (.fieldLink RX1 15 "LoopRegions$Grid" "height" "I") (by decide +kernel)
  have hf_18 := hts (.fieldLink RX1 18 "LoopRegions$Grid" "cellCount" "I") (by decide +kernel)
  have hf_21 := hts (.fieldLink RX1 21 "LoopRegions$Grid" "edgeCount" "I") (by decide +kernel)
  have hf_24 := hts (.fieldLink RX1 24 "LoopRegions$Grid" "edgeNumbers" "I") (by decide +kernel)
  have hf_32 := hts (.fieldLink RX1 32 "LoopRegions$Grid" "all" "LLoopRegions$Edges;") (by decide +kernel)
  have hf_40 := hts (.fieldLink RX1 40 "LoopRegions$Edges" "below" "J") (by decide +kernel)
  have hf_44 := hts (.fieldLink RX1 44 "LoopRegions$Grid" "cells" "J") (by decide +kernel)
  have hf_52 := hts (.fieldLink RX1 52 "LoopRegions$Edges" "right" "J") (by decide +kernel)
  have hf_9 := hts (.fieldLink RX1 9 "LoopRegions$Grid" "width" "I") (by decide +kernel)
  have hi_RX0 : ∀ w ∈ wsX00, w ∈ wsX1_init := by decide +kernel
  have hi_RX1 : ∀ w ∈ wsX10, w ∈ wsX1_init := by decide +kernel
  have hg : gw * gh < 2 ^ 31 := Nat.lt_of_le_of_lt (Nat.mul_le_mul hg8 hh8) (by decide)
  refine lv_aload_n hx hb dX1_init_0 rfl (lv_at hl 0 rfl) ?_
  refine W.objInit hx hb hown (hts (.methodLink RX1 3 objectInit) (by decide +kernel)) (hts (.instanceMethod objectInit) (by decide +kernel)) (hts (.code objectInit ⟨#[0xb1]⟩ 1 none) (by decide +kernel)) rfl (by rw [hml]; exact hl.1) rfl dX1_init_1 (Nat.le_of_ble_eq_true rfl) (Nat.le_of_ble_eq_true rfl) ?_
  refine W.eq (g2 := F0 m 4 ls []) rfl ?_
  refine lv_aload_n hx hb dX1_init_4 rfl (lv_at hl 0 rfl) ?_
  refine lv_iload_n hx hb dX1_init_5 rfl (lv_at hl 1 rfl) ?_
  refine va_putF (D := E.1) (ci := 2) (v := .int (nI gw)) (ty := .int) (C := RX1) (T := TX1) (N := 7) hx hb hts hi_RX1 tyX1 tyX1_ok nmX1 hown hE.1 hP hD hS 0 rfl rfl 0 (by decide) hf_9 (fun _ h9 => h9) rfl hin rfl (by decide +kernel) (rfl) (rfl) (Nat.le_of_ble_eq_true rfl) dX1_init_6 (fun H locs hP hD hS => ?_)
  have hP : va_P E.1 vwCl [(g, .inr (2, [.int (nI gw), .int 0, .int 0, .int 0, .int 0, .long 0, .null]))] H := hP
  have hD : va_D A [(g, .inr (2, [.int (nI gw), .int 0, .int 0, .int 0, .int 0, .long 0, .null]))] := hD
  refine lv_aload_n hx hb dX1_init_9 rfl (lv_at hl 0 rfl) ?_
  refine lv_iload_n hx hb dX1_init_10 rfl (lv_at hl 2 rfl) ?_
  refine va_putF (D := E.1) (ci := 2) (v := .int (nI gh)) (ty := .int) (C := RX1) (T := TX1) (N := 7) hx hb hts hi_RX1 tyX1 tyX1_ok nmX1 hown hE.1 hP hD hS 0 rfl rfl 1 (by decide) hf_15 (fun _ h9 => h9) rfl hin rfl (by decide +kernel) (rfl) (rfl) (Nat.le_of_ble_eq_true rfl) dX1_init_11 (fun H locs hP hD hS => ?_)
  have hP : va_P E.1 vwCl [(g, .inr (2, [.int (nI gw), .int (nI gh), .int 0, .int 0, .int 0, .long 0, .null]))] H := hP
  have hD : va_D A [(g, .inr (2, [.int (nI gw), .int (nI gh), .int 0, .int 0, .int 0, .long 0, .null]))] := hD
  refine lv_aload_n hx hb dX1_init_14 rfl (lv_at hl 0 rfl) ?_
  refine lv_iload_n hx hb dX1_init_15 rfl (lv_at hl 1 rfl) ?_
  refine lv_iload_n hx hb dX1_init_16 rfl (lv_at hl 2 rfl) ?_
  refine lv_imul hx hb dX1_init_17 ?_
  rw [show nI gw * nI gh = nI (gw * gh) from pk_mul gw gh]
  refine va_putF (D := E.1) (ci := 2) (v := .int (nI (gw * gh))) (ty := .int) (C := RX1) (T := TX1) (N := 7) hx hb hts hi_RX1 tyX1 tyX1_ok nmX1 hown hE.1 hP hD hS 0 rfl rfl 2 (by decide) hf_18 (fun _ h9 => h9) rfl hin rfl (by decide +kernel) (rfl) (rfl) (Nat.le_of_ble_eq_true rfl) dX1_init_18 (fun H locs hP hD hS => ?_)
  have hP : va_P E.1 vwCl [(g, .inr (2, [.int (nI gw), .int (nI gh), .int (nI (gw * gh)), .int 0, .int 0, .long 0, .null]))] H := hP
  have hD : va_D A [(g, .inr (2, [.int (nI gw), .int (nI gh), .int (nI (gw * gh)), .int 0, .int 0, .long 0, .null]))] := hD
  refine lv_aload_n hx hb dX1_init_21 rfl (lv_at hl 0 rfl) ?_
  refine lv_iload_n hx hb dX1_init_22 rfl (lv_at hl 1 rfl) ?_
  refine lv_iconst (v := 1) hx hb dX1_init_23 (by decide) ?_
  refine lv_isub hx hb dX1_init_24 ?_
  refine lv_iload_n hx hb dX1_init_25 rfl (lv_at hl 2 rfl) ?_
  refine lv_imul hx hb dX1_init_26 ?_
  refine lv_iload_n hx hb dX1_init_27 rfl (lv_at hl 1 rfl) ?_
  refine lv_iload_n hx hb dX1_init_28 rfl (lv_at hl 2 rfl) ?_
  refine lv_iconst (v := 1) hx hb dX1_init_29 (by decide) ?_
  refine lv_isub hx hb dX1_init_30 ?_
  refine lv_imul hx hb dX1_init_31 ?_
  refine lv_iadd hx hb dX1_init_32 ?_
  rw [show (nI gw - 1) * nI gh + nI gw * (nI gh - 1) = nI ((gw - 1) * gh + gw * (gh - 1)) from ec_n hg1 hh1]
  refine va_putF (D := E.1) (ci := 2) (v := .int (nI ((gw - 1) * gh + gw * (gh - 1)))) (ty := .int) (C := RX1) (T := TX1) (N := 7) hx hb hts hi_RX1 tyX1 tyX1_ok nmX1 hown hE.1 hP hD hS 0 rfl rfl 3 (by decide) hf_21 (fun _ h9 => h9) rfl hin rfl (by decide +kernel) (rfl) (rfl) (Nat.le_of_ble_eq_true rfl) dX1_init_33 (fun H locs hP hD hS => ?_)
  have hP : va_P E.1 vwCl [(g, .inr (2, [.int (nI gw), .int (nI gh), .int (nI (gw * gh)), .int (nI ((gw - 1) * gh + gw * (gh - 1))), .int 0, .long 0, .null]))] H := hP
  have hD : va_D A [(g, .inr (2, [.int (nI gw), .int (nI gh), .int (nI (gw * gh)), .int (nI ((gw - 1) * gh + gw * (gh - 1))), .int 0, .long 0, .null]))] := hD
  refine lv_aload_n hx hb dX1_init_36 rfl (lv_at hl 0 rfl) ?_
  refine lv_iconst (v := 2) hx hb dX1_init_37 (by decide) ?_
  refine lv_aload_n hx hb dX1_init_38 rfl (lv_at hl 0 rfl) ?_
  refine va_get (D := E.1) (ci := 2) (v := .int (nI (gw * gh))) (C := RX1) (T := TX1) (N := 7) hx hb hts hi_RX1 hown hE.1 hP 0 rfl rfl 2 (by decide) hf_18 (fun _ h9 => h9) rfl dX1_init_39 ?_
  refine lv_imul hx hb dX1_init_42 ?_
  rw [show 2 * nI (gw * gh) = nI (2 * (gw * gh)) from pk_mul 2 (gw * gh)]
  refine va_putF (D := E.1) (ci := 2) (v := .int (nI (2 * (gw * gh)))) (ty := .int) (C := RX1) (T := TX1) (N := 7) hx hb hts hi_RX1 tyX1 tyX1_ok nmX1 hown hE.1 hP hD hS 0 rfl rfl 4 (by decide) hf_24 (fun _ h9 => h9) rfl hin rfl (by decide +kernel) (rfl) (rfl) (Nat.le_of_ble_eq_true rfl) dX1_init_43 (fun H locs hP hD hS => ?_)
  have hP : va_P E.1 vwCl [(g, .inr (2, [.int (nI gw), .int (nI gh), .int (nI (gw * gh)), .int (nI ((gw - 1) * gh + gw * (gh - 1))), .int (nI (2 * (gw * gh))), .long 0, .null]))] H := hP
  have hD : va_D A [(g, .inr (2, [.int (nI gw), .int (nI gh), .int (nI (gw * gh)), .int (nI ((gw - 1) * gh + gw * (gh - 1))), .int (nI (2 * (gw * gh))), .long 0, .null]))] := hD
  refine lv_aload_n hx hb dX1_init_46 rfl (lv_at hl 0 rfl) ?_
  refine va_new (ci := 1) (fs := [.int 0, .long 0, .long 0]) (C := RX0) (T := TX0) (N := 3) hx hb hts hi_RX0 tyX0 tyX0_ok hown (hts (.classLink RX1 27 RX0) (by decide +kernel)) (hts (.instantiable RX0 3) (by decide +kernel)) (hts (.initialized RX0) (by decide +kernel)) hE.1 hP hD hS hA rfl (fun j hj => by rcases (show j = 0 ∨ j = 1 ∨ j = 2 by omega) with rfl | rfl | rfl <;> rfl) (Nat.le_of_ble_eq_true rfl) (Nat.le_of_ble_eq_true rfl) dX1_init_47 (fun q_1 H hP hD hS => ?_)
  have hP : va_P E.1 vwCl [(g, .inr (2, [.int (nI gw), .int (nI gh), .int (nI (gw * gh)), .int (nI ((gw - 1) * gh + gw * (gh - 1))), .int (nI (2 * (gw * gh))), .long 0, .null])), (q_1, .inr (1, [.int 0, .long 0, .long 0]))] H := hP
  have hD : va_D A [(g, .inr (2, [.int (nI gw), .int (nI gh), .int (nI (gw * gh)), .int (nI ((gw - 1) * gh + gw * (gh - 1))), .int (nI (2 * (gw * gh))), .long 0, .null])), (q_1, .inr (1, [.int 0, .long 0, .long 0]))] := hD
  refine W.widen (k := 1) (n := 3) (by omega) (by omega) ?_
  refine lv_dup hx hb dX1_init_50 rfl ?_
  refine lv_iload_n hx hb dX1_init_51 rfl (lv_at hl 1 rfl) ?_
  refine wrI (As := [.int (nI gw)]) (rest := [.ref q_1, .ref g]) (wr := [(g, .inr (2, [.int (nI gw), .int (nI gh), .int (nI (gw * gh)), .int (nI ((gw - 1) * gh + gw * (gh - 1))), .int (nI (2 * (gw * gh))), .long 0, .null]))]) ⟨hx, hb, hml, hown, hts⟩ hE (cX0_init_ct l E H.size q_1 0 (nI gw) 0 0) (cwI 1 hts gX1_init_X0_init rfl rfl rfl (hts (.initialized RX0) (by decide +kernel)) (hts (.methodLink RX1 29 yX0_init) (by decide +kernel)) (hts (.instanceMethod yX0_init) (by decide +kernel)) rfl (by decide +kernel) ⟨Nat.le_of_ble_eq_true rfl, Nat.le_of_ble_eq_true rfl⟩) hP hD hS hA [1] [0] rfl rfl (by decide) (by decide) (hP.sub (ws' := [(q_1, .inr (1, [.int 0, .long 0, .long 0]))]) [1] rfl) (hD.sub (ws' := [(q_1, .inr (1, [.int 0, .long 0, .long 0]))]) [1] (by decide) rfl) rfl hl.1 rfl (Nat.le_of_ble_eq_true rfl) dX1_init_52 ⟨(Nat.le_of_ble_eq_true rfl), (Nat.le_of_ble_eq_true rfl)⟩ (fun cs_ H locs h_2 hP hD hS => ?_)
  subst h_2
  have hP : va_P E.1 vwCl [(g, .inr (2, [.int (nI gw), .int (nI gh), .int (nI (gw * gh)), .int (nI ((gw - 1) * gh + gw * (gh - 1))), .int (nI (2 * (gw * gh))), .long 0, .null])), (q_1, .inr (1, [.int (nI gw), .long 0, .long 0]))] H := hP.sub [0, 1] rfl
  have hD : va_D A [(g, .inr (2, [.int (nI gw), .int (nI gh), .int (nI (gw * gh)), .int (nI ((gw - 1) * gh + gw * (gh - 1))), .int (nI (2 * (gw * gh))), .long 0, .null])), (q_1, .inr (1, [.int (nI gw), .long 0, .long 0]))] := hD.sub [0, 1] (by decide) rfl
  refine W.widen (k := 1) (n := 3) (by omega) (by omega) ?_
  refine va_putF (D := E.1) (ci := 2) (v := .ref q_1) (ty := tyX1 6) (C := RX1) (T := TX1) (N := 7) hx hb hts hi_RX1 tyX1 tyX1_ok nmX1 hown hE.1 hP hD hS 0 rfl rfl 6 (by decide) hf_32 (fun _ h9 => h9) rfl hin rfl (by decide +kernel) (rfl) (rfl) (Nat.le_of_ble_eq_true rfl) dX1_init_55 (fun H locs hP hD hS => ?_)
  have hP : va_P E.1 vwCl [(g, .inr (2, [.int (nI gw), .int (nI gh), .int (nI (gw * gh)), .int (nI ((gw - 1) * gh + gw * (gh - 1))), .int (nI (2 * (gw * gh))), .long 0, .ref q_1])), (q_1, .inr (1, [.int (nI gw), .long 0, .long 0]))] H := hP
  have hD : va_D A [(g, .inr (2, [.int (nI gw), .int (nI gh), .int (nI (gw * gh)), .int (nI ((gw - 1) * gh + gw * (gh - 1))), .int (nI (2 * (gw * gh))), .long 0, .ref q_1])), (q_1, .inr (1, [.int (nI gw), .long 0, .long 0]))] := hD
  refine lv_lconst (v := 0) hx hb dX1_init_58 (by decide) ?_
  refine lv_lstore_n (lv' := [(3, .long 0), (0, .ref g), (1, .int (nI gw)), (2, .int (nI gh))]) hx hb dX1_init_59 rfl hl (by decide) rfl (fun ls hl => ?_)
  refine lv_iconst (v := 0) hx hb dX1_init_60 (by decide) ?_
  refine lv_istore (lv' := [(5, .int 0), (3, .long 0), (0, .ref g), (1, .int (nI gw)), (2, .int (nI gh))]) hx hb dX1_init_61 hl (by decide) rfl (fun ls hl => ?_)
  refine W_loopW (σ := Int32 × Int64 × Int64) (J := 63) (nL := 6) (fun n9 x H locs => ∃ k9, n9 = k9 + 1 ∧ k9 ≤ gw * gh ∧ x.1 = nI (gw * gh - k9) ∧ gEv (gw * gh) k9 x.2.1 = gEv (gw * gh) (gw * gh) 0 ∧ gBe gw (gw * gh) k9 x.2.2 = gBe gw (gw * gh) (gw * gh) 0 ∧ va_P E.1 vwCl [(g, .inr (2, [.int (nI gw), .int (nI gh), .int (nI (gw * gh)), .int (nI ((gw - 1) * gh + gw * (gh - 1))), .int (nI (2 * (gw * gh))), .long 0, .ref q_1])), (q_1, .inr (1, [.int (nI gw), .long 0, .long x.2.2]))] H ∧ va_D A [(g, .inr (2, [.int (nI gw), .int (nI gh), .int (nI (gw * gh)), .int (nI ((gw - 1) * gh + gw * (gh - 1))), .int (nI (2 * (gw * gh))), .long 0, .ref q_1])), (q_1, .inr (1, [.int (nI gw), .long 0, .long x.2.2]))] ∧ va_S A s.heap H locs) (fun x => [(5, .int x.1), (3, .long x.2.1), (0, .ref g), (1, .int (nI gw)), (2, .int (nI gh))]) (fun x H locs h => by obtain ⟨k9, h, _⟩ := h; exact absurd h (by omega)) (fun n_63 ih_63 x H locs ls hI_63 hl => ?_) (gw * gh + 1) (0, 0, 0) (⟨gw * gh, rfl, Nat.le_refl _, by rw [Nat.sub_self]; rfl, rfl, rfl, hP, hD, hS⟩) (lv_sub hl [0, 1, 2, 3, 4] rfl)
  obtain ⟨i, z, bb⟩ := x
  try dsimp only at hI_63
  have hl : lv_has ls 6 [(5, .int i), (3, .long z), (0, .ref g), (1, .int (nI gw)), (2, .int (nI gh))] := hl
  obtain ⟨k9, hk_63, hN_63, hi_63, hv1, hv2, hP, hD, hS⟩ := hI_63
  obtain rfl : n_63 = k9 := Nat.succ.inj hk_63
  have hP : va_P E.1 vwCl [(g, .inr (2, [.int (nI gw), .int (nI gh), .int (nI (gw * gh)), .int (nI ((gw - 1) * gh + gw * (gh - 1))), .int (nI (2 * (gw * gh))), .long 0, .ref q_1])), (q_1, .inr (1, [.int (nI gw), .long 0, .long bb]))] H := hP
  have hD : va_D A [(g, .inr (2, [.int (nI gw), .int (nI gh), .int (nI (gw * gh)), .int (nI ((gw - 1) * gh + gw * (gh - 1))), .int (nI (2 * (gw * gh))), .long 0, .ref q_1])), (q_1, .inr (1, [.int (nI gw), .long 0, .long bb]))] := hD
  refine lv_iload hx hb dX1_init_63 (lv_at hl 0 rfl) ?_
  refine lv_aload_n hx hb dX1_init_65 rfl (lv_at hl 2 rfl) ?_
  refine va_get (D := E.1) (ci := 2) (v := .int (nI (gw * gh))) (C := RX1) (T := TX1) (N := 7) hx hb hts hi_RX1 hown hE.1 hP 0 rfl rfl 2 (by decide) hf_18 (fun _ h9 => h9) rfl dX1_init_66 ?_
  refine lv_icmp_ge (tgt := 114) hx hb dX1_init_69 (by decide) (fun c_69 => ?_) (fun c_69 => ?_)
  · skip
    obtain rfl : n_63 = 0 := lp_exit hN_63 hg (by rw [← hi_63]; exact c_69)
    obtain rfl : z = gEv (gw * gh) (gw * gh) 0 := hv1
    obtain rfl : bb = gBe gw (gw * gh) (gw * gh) 0 := hv2
    have hP : va_P E.1 vwCl [(g, .inr (2, [.int (nI gw), .int (nI gh), .int (nI (gw * gh)), .int (nI ((gw - 1) * gh + gw * (gh - 1))), .int (nI (2 * (gw * gh))), .long 0, .ref q_1])), (q_1, .inr (1, [.int (nI gw), .long 0, .long (gBe gw (gw * gh) (gw * gh) 0)]))] H := hP
    have hD : va_D A [(g, .inr (2, [.int (nI gw), .int (nI gh), .int (nI (gw * gh)), .int (nI ((gw - 1) * gh + gw * (gh - 1))), .int (nI (2 * (gw * gh))), .long 0, .ref q_1])), (q_1, .inr (1, [.int (nI gw), .long 0, .long (gBe gw (gw * gh) (gw * gh) 0)]))] := hD
    refine lv_aload_n hx hb dX1_init_114 rfl (lv_at hl 2 rfl) ?_
    refine lv_lload_n hx hb dX1_init_115 rfl (lv_at hl 1 rfl) ?_
    refine lv_topl (fun x_3 ex_3 => ?_)
    refine va_putF (D := E.1) (ci := 2) (v := .long x_3) (ty := .long) (C := RX1) (T := TX1) (N := 7) hx hb hts hi_RX1 tyX1 tyX1_ok nmX1 hown hE.1 hP hD hS 0 rfl rfl 5 (by decide) hf_44 (fun _ h9 => h9) rfl hin rfl (by decide +kernel) (rfl) (rfl) (Nat.le_of_ble_eq_true rfl) dX1_init_116 (fun H locs hP hD hS => ?_)
    have hP : va_P E.1 vwCl [(g, .inr (2, [.int (nI gw), .int (nI gh), .int (nI (gw * gh)), .int (nI ((gw - 1) * gh + gw * (gh - 1))), .int (nI (2 * (gw * gh))), .long x_3, .ref q_1])), (q_1, .inr (1, [.int (nI gw), .long 0, .long (gBe gw (gw * gh) (gw * gh) 0)]))] H := hP
    have hD : va_D A [(g, .inr (2, [.int (nI gw), .int (nI gh), .int (nI (gw * gh)), .int (nI ((gw - 1) * gh + gw * (gh - 1))), .int (nI (2 * (gw * gh))), .long x_3, .ref q_1])), (q_1, .inr (1, [.int (nI gw), .long 0, .long (gBe gw (gw * gh) (gw * gh) 0)]))] := hD
    refine lv_aload_n hx hb dX1_init_119 rfl (lv_at hl 2 rfl) ?_
    refine va_get (D := E.1) (ci := 2) (v := .ref q_1) (C := RX1) (T := TX1) (N := 7) hx hb hts hi_RX1 hown hE.1 hP 0 rfl rfl 6 (by decide) hf_32 (fun _ h9 => h9) rfl dX1_init_120 ?_
    refine lv_lload_n hx hb dX1_init_123 rfl (lv_at hl 1 rfl) ?_
    refine lv_aload_n hx hb dX1_init_124 rfl (lv_at hl 2 rfl) ?_
    refine lv_iload_n hx hb dX1_init_125 rfl (lv_at hl 3 rfl) ?_
    refine lv_iconst (v := 1) hx hb dX1_init_126 (by decide) ?_
    refine lv_isub hx hb dX1_init_127 ?_
    refine crVl (As := [.int ((nI gw) - 1)]) (rest := [.long (gEv (gw * gh) (gw * gh) 0), .ref q_1]) ⟨hx, hb, hml, hown, hts⟩ hE (cX1_column_ct l E g (nI gw) (nI gh) (nI (gw * gh)) (nI ((gw - 1) * gh + gw * (gh - 1))) (nI (2 * (gw * gh))) x_3 q_1 (nI gw) 0 (gBe gw (gw * gh) (gw * gh) 0) gh ((nI gw) - 1) (by omega) rfl) (cwV 1 hts gX1_init_X1_column rfl rfl rfl (by decide +kernel) ⟨Nat.le_of_ble_eq_true rfl, Nat.le_of_ble_eq_true rfl⟩) (hP.sub (ws' := [(g, .inr (2, [.int (nI gw), .int (nI gh), .int (nI (gw * gh)), .int (nI ((gw - 1) * gh + gw * (gh - 1))), .int (nI (2 * (gw * gh))), .long x_3, .ref q_1])), (q_1, .inr (1, [.int (nI gw), .long 0, .long (gBe gw (gw * gh) (gw * gh) 0)]))]) [0, 1] rfl) (va_recv hE.1 hP (ci := 2) (q0 := 0) rfl rfl) rfl hl.1 rfl (Nat.le_of_ble_eq_true rfl) dX1_init_128 ⟨(Nat.le_of_ble_eq_true rfl), (Nat.le_of_ble_eq_true rfl)⟩ ?_
    refine lv_ldc2 (v := (-1)) hx hb hown (hts (.constantLong RX1 50 (-1)) (by decide +kernel)) dX1_init_131 ?_
    refine lv_lxor hx hb dX1_init_134 ?_
    refine lv_land hx hb dX1_init_135 ?_
    refine lv_topl (fun x_4 ex_4 => ?_)
    refine va_put (D := E.1) (ci := 1) (v := .long x_4) (ty := .long) (C := RX0) (T := TX0) (N := 3) hx hb hts hi_RX0 tyX0 tyX0_ok nmX0 hown hE.1 hP hD hS 1 rfl rfl 1 (by decide) hf_52 (fun _ h9 => h9) rfl (by decide +kernel) (rfl) (rfl) (Nat.le_of_ble_eq_true rfl) dX1_init_136 (fun H locs hP hD hS => ?_)
    have hP : va_P E.1 vwCl [(g, .inr (2, [.int (nI gw), .int (nI gh), .int (nI (gw * gh)), .int (nI ((gw - 1) * gh + gw * (gh - 1))), .int (nI (2 * (gw * gh))), .long x_3, .ref q_1])), (q_1, .inr (1, [.int (nI gw), .long x_4, .long (gBe gw (gw * gh) (gw * gh) 0)]))] H := hP
    have hD : va_D A [(g, .inr (2, [.int (nI gw), .int (nI gh), .int (nI (gw * gh)), .int (nI ((gw - 1) * gh + gw * (gh - 1))), .int (nI (2 * (gw * gh))), .long x_3, .ref q_1])), (q_1, .inr (1, [.int (nI gw), .long x_4, .long (gBe gw (gw * gh) (gw * gh) 0)]))] := hD
    refine W.widen (k := 1) (n := 3) (Nat.le_of_ble_eq_true rfl) (Nat.le_of_ble_eq_true rfl) ?_
    exact W.vret hx hb hr (fun t9 ht9 hW => ⟨⟨rfl, [(g, .inr (2, [.int (nI gw), .int (nI gh), .int (nI (gw * gh)), .int (nI ((gw - 1) * gh + gw * (gh - 1))), .int (nI (2 * (gw * gh))), .long x_3, .ref q_1])), (q_1, .inr (1, [.int (nI gw), .long x_4, .long (gBe gw (gw * gh) (gw * gh) 0)]))], ⟨_, by subst ex_4; subst ex_3; rfl⟩, by rw [ht9]; exact hP, hD⟩, hS.F ht9⟩) hS.2.2 dX1_init_139
  · skip
    obtain ⟨j, rfl⟩ := lp_go (k := n_63) (N := gw * gh) hg (by rw [← hi_63]; exact c_69)
    refine lv_lload_n hx hb dX1_init_72 rfl (lv_at hl 1 rfl) ?_
    refine lv_iload hx hb dX1_init_73 (lv_at hl 0 rfl) ?_
    refine crNl (As := [.int i]) (rest := [.long z]) ⟨hx, hb, hml, hown, hts⟩ hE (cX5_only_ct l E i) ⟨va_cnB 1 hts gX1_init_X5_only_n36 rfl rfl rfl (hE.2 _ (List.mem_of_getElem? (i := 2) rfl)) (hts (.initialized RX5) (by decide +kernel)) (by decide +kernel) ⟨Nat.le_of_ble_eq_true rfl, Nat.le_of_ble_eq_true rfl⟩, hts (.static yX5_only) (by decide +kernel), trivial⟩ (fun k q h => by simp at h) rfl hl.1 rfl (Nat.le_of_ble_eq_true rfl) dX1_init_75 ⟨(Nat.le_of_ble_eq_true rfl), (Nat.le_of_ble_eq_true rfl)⟩ ?_
    refine lv_lor hx hb dX1_init_78 ?_
    refine lv_topl (fun x_5 ex_5 => ?_)
    refine lv_lstore_n (lv' := [(3, .long x_5), (5, .int i), (0, .ref g), (1, .int (nI gw)), (2, .int (nI gh))]) hx hb dX1_init_79 rfl hl (by decide) rfl (fun ls hl => ?_)
    rw [gEv, ← hi_63, ← ex_5] at hv1
    refine lv_iload hx hb dX1_init_80 (lv_at hl 1 rfl) ?_
    refine lv_iload_n hx hb dX1_init_82 rfl (lv_at hl 3 rfl) ?_
    refine lv_iadd hx hb dX1_init_83 ?_
    refine lv_aload_n hx hb dX1_init_84 rfl (lv_at hl 2 rfl) ?_
    refine va_get (D := E.1) (ci := 2) (v := .int (nI (gw * gh))) (C := RX1) (T := TX1) (N := 7) hx hb hts hi_RX1 hown hE.1 hP 0 rfl rfl 2 (by decide) hf_18 (fun _ h9 => h9) rfl dX1_init_85 ?_
    refine lv_icmp_ge (tgt := 108) hx hb dX1_init_88 (by decide) (fun c_88 => ?_) (fun c_88 => ?_)
    · skip
      rw [gBe, ← hi_63, if_pos c_88] at hv2
      obtain ⟨x_6, ex_6⟩ : ∃ y : Int32, y = i + (1) := ⟨_, rfl⟩
      refine lv_iinc (v := x_6) (lv' := [(5, .int x_6), (3, .long x_5), (0, .ref g), (1, .int (nI gw)), (2, .int (nI gh))]) hx hb dX1_init_108 hl (k := 1) rfl (by rw [ex_6]; rfl) (by decide) rfl (fun ls hl => ?_)
      refine lv_goto (tgt := 63) hx hb dX1_init_111 (by decide) ?_
      exact ih_63 (x_6, x_5, bb) H locs ls (⟨j, rfl, by omega, by rw [ex_6, hi_63]; exact lp_step (by omega), hv1, hv2, hP, hD, hS⟩) (lv_sub hl [0, 1, 2, 3, 4] rfl)
    · skip
      refine lv_aload_n hx hb dX1_init_91 rfl (lv_at hl 2 rfl) ?_
      refine va_get (D := E.1) (ci := 2) (v := .ref q_1) (C := RX1) (T := TX1) (N := 7) hx hb hts hi_RX1 hown hE.1 hP 0 rfl rfl 6 (by decide) hf_32 (fun _ h9 => h9) rfl dX1_init_92 ?_
      refine lv_dup hx hb dX1_init_95 rfl ?_
      refine va_get (D := E.1) (ci := 1) (v := .long bb) (C := RX0) (T := TX0) (N := 3) hx hb hts hi_RX0 hown hE.1 hP 1 rfl rfl 2 (by decide) hf_40 (fun _ h9 => h9) rfl dX1_init_96 ?_
      refine lv_iload hx hb dX1_init_99 (lv_at hl 1 rfl) ?_
      refine crNl (As := [.int i]) (rest := [.long bb, .ref q_1]) ⟨hx, hb, hml, hown, hts⟩ hE (cX5_only_ct l E i) ⟨va_cnB 1 hts gX1_init_X5_only_n36 rfl rfl rfl (hE.2 _ (List.mem_of_getElem? (i := 2) rfl)) (hts (.initialized RX5) (by decide +kernel)) (by decide +kernel) ⟨Nat.le_of_ble_eq_true rfl, Nat.le_of_ble_eq_true rfl⟩, hts (.static yX5_only) (by decide +kernel), trivial⟩ (fun k q h => by simp at h) rfl hl.1 rfl (Nat.le_of_ble_eq_true rfl) dX1_init_101 ⟨(Nat.le_of_ble_eq_true rfl), (Nat.le_of_ble_eq_true rfl)⟩ ?_
      refine lv_lor hx hb dX1_init_104 ?_
      refine lv_topl (fun x_7 ex_7 => ?_)
      refine va_put (D := E.1) (ci := 1) (v := .long x_7) (ty := .long) (C := RX0) (T := TX0) (N := 3) hx hb hts hi_RX0 tyX0 tyX0_ok nmX0 hown hE.1 hP hD hS 1 rfl rfl 2 (by decide) hf_40 (fun _ h9 => h9) rfl (by decide +kernel) (rfl) (rfl) (Nat.le_of_ble_eq_true rfl) dX1_init_105 (fun H locs hP hD hS => ?_)
      have hP : va_P E.1 vwCl [(g, .inr (2, [.int (nI gw), .int (nI gh), .int (nI (gw * gh)), .int (nI ((gw - 1) * gh + gw * (gh - 1))), .int (nI (2 * (gw * gh))), .long 0, .ref q_1])), (q_1, .inr (1, [.int (nI gw), .long 0, .long x_7]))] H := hP
      have hD : va_D A [(g, .inr (2, [.int (nI gw), .int (nI gh), .int (nI (gw * gh)), .int (nI ((gw - 1) * gh + gw * (gh - 1))), .int (nI (2 * (gw * gh))), .long 0, .ref q_1])), (q_1, .inr (1, [.int (nI gw), .long 0, .long x_7]))] := hD
      rw [gBe, ← hi_63, if_neg c_88, ← ex_7] at hv2
      obtain ⟨x_8, ex_8⟩ : ∃ y : Int32, y = i + (1) := ⟨_, rfl⟩
      refine lv_iinc (v := x_8) (lv' := [(5, .int x_8), (3, .long x_5), (0, .ref g), (1, .int (nI gw)), (2, .int (nI gh))]) hx hb dX1_init_108 hl (k := 1) rfl (by rw [ex_8]; rfl) (by decide) rfl (fun ls hl => ?_)
      refine lv_goto (tgt := 63) hx hb dX1_init_111 (by decide) ?_
      exact ih_63 (x_8, x_5, x_7) H locs ls (⟨j, rfl, by omega, by rw [ex_8, hi_63]; exact lp_step (by omega), hv1, hv2, hP, hD, hS⟩) (lv_sub hl [0, 1, 2, 3, 4] rfl)
