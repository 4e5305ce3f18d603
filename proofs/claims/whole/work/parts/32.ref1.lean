section EQI
variable {p : Program} {l : Launch} {e : Env} {R : Room} {s : State} {m : MethodId} {args : Array Value} {below : List Frame} {meth : Method} {c : Code} {H : Heap} {locs : List Loc} {cells slots : Nat} {Q : State → Prop} {pc : Nat} {ls : Array Slot} {rest : List Value}
theorem lv_eqi {x y : Int32} (h : x = y) (k : W p l e R s m args below meth c H locs cells slots Q (F0 m pc ls (.int y :: rest))) : W p l e R s m args below meth c H locs cells slots Q (F0 m pc ls (.int x :: rest)) := h ▸ k
end EQI
/-! THE REFERENCE, as functions of numbers: which edges there are, their cells, a cell's edges. -/
def rIsC (gw gh : Nat) (a : Int32) : Bool := decide (¬ a < 0) && decide (¬ nI (gw * gh) ≤ a)
def isEn (gw gh j : Nat) : Bool := decide (j < 2 * (gw * gh)) && (if j % 2 = 0 then decide (j / 2 % gw < gw - 1) else decide (j / 2 / gw < gh - 1))
def rIsE (gw gh : Nat) (a : Int32) : Bool := if a < 0 then false else isEn gw gh a.toNatClampNeg
theorem rIsE_nI {gw gh j : Nat} (h : j < 2 ^ 31) : rIsE gw gh (nI j) = isEn gw gh j := by rw [rIsE, if_neg (nI_pos h), nI_clamp h]
theorem rIsE_neg {gw gh : Nat} {a : Int32} (h : a < 0) : rIsE gw gh a = false := by rw [rIsE, if_pos h]
def oth (gw j : Nat) : Nat := if j % 2 = 0 then j / 2 + 1 else j / 2 + gw
set_option maxHeartbeats 4000000 in
set_option maxRecDepth 100000 in
theorem cX6_thrown_ct (l : Launch) (E : GE) (q : Nat) (y1 : Nat) (y2 : Nat) (y3 : Nat) (y4 : Nat) (y5 : Nat) (y6 : Nat) (y7 : Nat) (y8 : Nat) (y9 : Nat) (y10 : Nat) (y11 : Nat) (y12 : Nat) (y13 : Nat) (y14 : Nat) (y15 : Nat) (y16 : Nat) (y17 : Nat) (y18 : Nat) (gw : Nat) (gh : Nat) (th : Int32) (to : Int32) (wr : Bool) (k : Nat) (mk : Nat)   : rdI l yX6_thrown wsX6_thrown ({ frames := 0, cells := 0, slots := 0, locals := 0 }) E [.ref q] [(q, .inr (7, [.int th, .int (nI gw), .int (nI gh), .ref y1, .ref y2, .ref y3, .int to, .int (b2i wr), .ref y4, .ref y5, .int (nI k), .ref y6, .ref y7, .ref y8, .ref y9, .int (nI mk), .ref y10, .ref y11, .ref y12, .ref y13, .ref y14, .ref y15, .ref y16, .ref y17, .ref y18]))] th := by
  refine Met.ofW (cc := cX6_thrown) (maxL := 1) (ret := (some .int)) (by decide) rfl ?_
  intro p e s m args below meth c s₁ B hml hv
  obtain ⟨rfl, hE, hP⟩ := hv
  have hx := B.exec
  have hb := B.bytes
  have hr := B.returns
  have hts := atoms_spec (ws := wsX6_thrown) B.pre
  have hown : s.vm.findClass RX6 = some m.cls := findClass_of_methodNamed B.named
  have hlocks := B.notSynchronized
  have hP : va_P E.1 vwCl [(q, .inr (7, [.int th, .int (nI gw), .int (nI gh), .ref y1, .ref y2, .ref y3, .int to, .int (b2i wr), .ref y4, .ref y5, .int (nI k), .ref y6, .ref y7, .ref y8, .ref y9, .int (nI mk), .ref y10, .ref y11, .ref y12, .ref y13, .ref y14, .ref y15, .ref y16, .ref y17, .ref y18]))] s.heap := hP
  have hl := lv_entry ([.ref q]) (n := 1) (Nat.le_of_ble_eq_true rfl)
  rw [lg_entry_eq]
  generalize (lg_sl ([.ref q]) ++ List.replicate (1 - (lg_sl ([.ref q])).length) Slot.unset).toArray = ls at hl ⊢
  have hl : lv_has ls 1 [(0, .ref q)] := hl
  have hf_75 := hts (.fieldLink RX6 75 "LoopRegionsModel" "thrown" "I") (by decide +kernel)
  have hi_RX6 : ∀ w ∈ wsX60, w ∈ wsX6_thrown := by decide +kernel
  refine lv_aload_n hx hb dX6_thrown_0 rfl (lv_at hl 0 rfl) ?_
  refine va_get (D := E.1) (ci := 7) (v := .int th) (C := RX6) (T := TX6) (N := 25) hx hb hts hi_RX6 hown hE.1 hP 0 rfl rfl 0 (by decide) hf_75 (fun _ h9 => h9) rfl dX6_thrown_1 ?_
  exact W.iret (v := th) hx hb hr (fun t9 ht9 _ => ⟨th, rfl, rfl, ht9⟩) (fun q h => absurd h List.not_mem_nil) dX6_thrown_4
set_option maxHeartbeats 4000000 in
set_option maxRecDepth 100000 in
theorem cX6_all_ct (l : Launch) (E : GE) (q : Nat) (y1 : Nat) (y2 : Nat) (y3 : Nat) (y4 : Nat) (y5 : Nat) (y6 : Nat) (y7 : Nat) (y8 : Nat) (y9 : Nat) (y10 : Nat) (y11 : Nat) (y12 : Nat) (y13 : Nat) (y14 : Nat) (y15 : Nat) (y16 : Nat) (y17 : Nat) (y18 : Nat) (gw : Nat) (gh : Nat) (th : Int32) (to : Int32) (wr : Bool) (k : Nat) (mk : Nat)   : rdI l yX6_all wsX6_all ({ frames := 0, cells := 0, slots := 0, locals := 0 }) E [.ref q] [(q, .inr (7, [.int th, .int (nI gw), .int (nI gh), .ref y1, .ref y2, .ref y3, .int to, .int (b2i wr), .ref y4, .ref y5, .int (nI k), .ref y6, .ref y7, .ref y8, .ref y9, .int (nI mk), .ref y10, .ref y11, .ref y12, .ref y13, .ref y14, .ref y15, .ref y16, .ref y17, .ref y18]))] (nI (gw * gh)) := by
  refine Met.ofW (cc := cX6_all) (maxL := 1) (ret := (some .int)) (by decide) rfl ?_
  intro p e s m args below meth c s₁ B hml hv
  obtain ⟨rfl, hE, hP⟩ := hv
  have hx := B.exec
  have hb := B.bytes
  have hr := B.returns
  have hts := atoms_spec (ws := wsX6_all) B.pre
  have hown : s.vm.findClass RX6 = some m.cls := findClass_of_methodNamed B.named
  have hlocks := B.notSynchronized
  have hP : va_P E.1 vwCl [(q, .inr (7, [.int th, .int (nI gw), .int (nI gh), .ref y1, .ref y2, .ref y3, .int to, .int (b2i wr), .ref y4, .ref y5, .int (nI k), .ref y6, .ref y7, .ref y8, .ref y9, .int (nI mk), .ref y10, .ref y11, .ref y12, .ref y13, .ref y14, .ref y15, .ref y16, .ref y17, .ref y18]))] s.heap := hP
  have hl := lv_entry ([.ref q]) (n := 1) (Nat.le_of_ble_eq_true rfl)
  rw [lg_entry_eq]
  generalize (lg_sl ([.ref q]) ++ List.replicate (1 - (lg_sl ([.ref q])).length) Slot.unset).toArray = ls at hl ⊢
  have hl : lv_has ls 1 [(0, .ref q)] := hl
  have hf_69 := hts (.fieldLink RX6 69 "LoopRegionsModel" "width" "I") (by decide +kernel)
  have hf_72 := hts (.fieldLink RX6 72 "LoopRegionsModel" "height" "I") (by decide +kernel)
  have hi_RX6 : ∀ w ∈ wsX60, w ∈ wsX6_all := by decide +kernel
  refine lv_aload_n hx hb dX6_all_0 rfl (lv_at hl 0 rfl) ?_
  refine va_get (D := E.1) (ci := 7) (v := .int (nI gw)) (C := RX6) (T := TX6) (N := 25) hx hb hts hi_RX6 hown hE.1 hP 0 rfl rfl 1 (by decide) hf_69 (fun _ h9 => h9) rfl dX6_all_1 ?_
  refine lv_aload_n hx hb dX6_all_4 rfl (lv_at hl 0 rfl) ?_
  refine va_get (D := E.1) (ci := 7) (v := .int (nI gh)) (C := RX6) (T := TX6) (N := 25) hx hb hts hi_RX6 hown hE.1 hP 0 rfl rfl 2 (by decide) hf_72 (fun _ h9 => h9) rfl dX6_all_5 ?_
  refine lv_imul hx hb dX6_all_8 ?_
  refine lv_eqi (show ((nI gw) * (nI gh) : Int32) = nI (gw * gh) from pk_mul gw gh) ?_
  exact W.iret (v := nI (gw * gh)) hx hb hr (fun t9 ht9 _ => ⟨nI (gw * gh), rfl, rfl, ht9⟩) (fun q h => absurd h List.not_mem_nil) dX6_all_9
set_option maxHeartbeats 4000000 in
set_option maxRecDepth 100000 in
theorem cX6_isCell_ct (l : Launch) (E : GE) (q : Nat) (y1 : Nat) (y2 : Nat) (y3 : Nat) (y4 : Nat) (y5 : Nat) (y6 : Nat) (y7 : Nat) (y8 : Nat) (y9 : Nat) (y10 : Nat) (y11 : Nat) (y12 : Nat) (y13 : Nat) (y14 : Nat) (y15 : Nat) (y16 : Nat) (y17 : Nat) (y18 : Nat) (gw : Nat) (gh : Nat) (th : Int32) (to : Int32) (wr : Bool) (k : Nat) (mk : Nat) (a : Int32)  : rdI l yX6_isCell wsX6_isCell ({ frames := 1, cells := 0, slots := 0, locals := 20 }) E [.ref q, .int a] [(q, .inr (7, [.int th, .int (nI gw), .int (nI gh), .ref y1, .ref y2, .ref y3, .int to, .int (b2i wr), .ref y4, .ref y5, .int (nI k), .ref y6, .ref y7, .ref y8, .ref y9, .int (nI mk), .ref y10, .ref y11, .ref y12, .ref y13, .ref y14, .ref y15, .ref y16, .ref y17, .ref y18]))] (b2i (rIsC gw gh a)) := by
  refine Met.ofW (cc := cX6_isCell) (maxL := 2) (ret := (some .boolean)) (by decide) rfl ?_
  intro p e s m args below meth c s₁ B hml hv
  obtain ⟨rfl, hE, hP⟩ := hv
  have hx := B.exec
  have hb := B.bytes
  have hr := B.returns
  have hts := atoms_spec (ws := wsX6_isCell) B.pre
  have hown : s.vm.findClass RX6 = some m.cls := findClass_of_methodNamed B.named
  have hlocks := B.notSynchronized
  have hP : va_P E.1 vwCl [(q, .inr (7, [.int th, .int (nI gw), .int (nI gh), .ref y1, .ref y2, .ref y3, .int to, .int (b2i wr), .ref y4, .ref y5, .int (nI k), .ref y6, .ref y7, .ref y8, .ref y9, .int (nI mk), .ref y10, .ref y11, .ref y12, .ref y13, .ref y14, .ref y15, .ref y16, .ref y17, .ref y18]))] s.heap := hP
  have hl := lv_entry ([.ref q, .int a]) (n := 2) (Nat.le_of_ble_eq_true rfl)
  rw [lg_entry_eq]
  generalize (lg_sl ([.ref q, .int a]) ++ List.replicate (2 - (lg_sl ([.ref q, .int a])).length) Slot.unset).toArray = ls at hl ⊢
  have hl : lv_has ls 2 [(0, .ref q), (1, .int a)] := hl
  refine lv_iload_n hx hb dX6_isCell_0 rfl (lv_at hl 1 rfl) ?_
  refine lv_if_lt (tgt := 16) hx hb dX6_isCell_1 (by decide) (fun c_1 => ?_) (fun c_1 => ?_)
  · skip
    refine lv_iconst (v := 0) hx hb dX6_isCell_16 (by decide) ?_
    exact W.zret (v := 0) hx hb hr (rfl) (fun t9 ht9 _ => ⟨0, rfl, by simp [b2i, rIsC, c_1], ht9⟩) (fun q h => absurd h List.not_mem_nil) dX6_isCell_17
  · skip
    refine lv_iload_n hx hb dX6_isCell_4 rfl (lv_at hl 1 rfl) ?_
    refine lv_aload_n hx hb dX6_isCell_5 rfl (lv_at hl 0 rfl) ?_
    refine crVi (As := []) (rest := [.int a]) ⟨hx, hb, hml, hown, hts⟩ hE (cX6_all_ct l E q y1 y2 y3 y4 y5 y6 y7 y8 y9 y10 y11 y12 y13 y14 y15 y16 y17 y18 gw gh th to wr k mk) (cwV 0 hts gX6_isCell_X6_all rfl rfl rfl (by decide +kernel) ⟨Nat.le_of_ble_eq_true rfl, Nat.le_of_ble_eq_true rfl⟩) (hP.sub (ws' := [(q, .inr (7, [.int th, .int (nI gw), .int (nI gh), .ref y1, .ref y2, .ref y3, .int to, .int (b2i wr), .ref y4, .ref y5, .int (nI k), .ref y6, .ref y7, .ref y8, .ref y9, .int (nI mk), .ref y10, .ref y11, .ref y12, .ref y13, .ref y14, .ref y15, .ref y16, .ref y17, .ref y18]))]) [0] rfl) (va_recv hE.1 hP (ci := 7) (q0 := 0) rfl rfl) rfl hl.1 rfl (Nat.le_of_ble_eq_true rfl) dX6_isCell_6 ⟨Nat.zero_le _, Nat.zero_le _⟩ ?_
    refine lv_icmp_ge (tgt := 16) hx hb dX6_isCell_9 (by decide) (fun c_9 => ?_) (fun c_9 => ?_)
    · skip
      refine lv_iconst (v := 0) hx hb dX6_isCell_16 (by decide) ?_
      exact W.zret (v := 0) hx hb hr (rfl) (fun t9 ht9 _ => ⟨0, rfl, by simp [b2i, rIsC, c_1, c_9], ht9⟩) (fun q h => absurd h List.not_mem_nil) dX6_isCell_17
    · skip
      refine lv_iconst (v := 1) hx hb dX6_isCell_12 (by decide) ?_
      refine lv_goto (tgt := 17) hx hb dX6_isCell_13 (by decide) ?_
      exact W.zret (v := 1) hx hb hr (rfl) (fun t9 ht9 _ => ⟨1, rfl, by simp [b2i, rIsC, c_1, c_9], ht9⟩) (fun q h => absurd h List.not_mem_nil) dX6_isCell_17
set_option maxHeartbeats 4000000 in
set_option maxRecDepth 100000 in
theorem cX6_isEdge_ct (l : Launch) (E : GE) (q : Nat) (y1 : Nat) (y2 : Nat) (y3 : Nat) (y4 : Nat) (y5 : Nat) (y6 : Nat) (y7 : Nat) (y8 : Nat) (y9 : Nat) (y10 : Nat) (y11 : Nat) (y12 : Nat) (y13 : Nat) (y14 : Nat) (y15 : Nat) (y16 : Nat) (y17 : Nat) (y18 : Nat) (gw : Nat) (gh : Nat) (th : Int32) (to : Int32) (wr : Bool) (k : Nat) (mk : Nat) (a : Int32) (hg1 : 1 ≤ gw) (hh1 : 1 ≤ gh) (hg8 : gw ≤ 8) (hh8 : gh ≤ 8) : rdI l yX6_isEdge wsX6_isEdge ({ frames := 1, cells := 0, slots := 0, locals := 20 }) E [.ref q, .int a] [(q, .inr (7, [.int th, .int (nI gw), .int (nI gh), .ref y1, .ref y2, .ref y3, .int to, .int (b2i wr), .ref y4, .ref y5, .int (nI k), .ref y6, .ref y7, .ref y8, .ref y9, .int (nI mk), .ref y10, .ref y11, .ref y12, .ref y13, .ref y14, .ref y15, .ref y16, .ref y17, .ref y18]))] (b2i (rIsE gw gh a)) := by
  refine Met.ofW (cc := cX6_isEdge) (maxL := 2) (ret := (some .boolean)) (by decide) rfl ?_
  intro p e s m args below meth c s₁ B hml hv
  obtain ⟨rfl, hE, hP⟩ := hv
  have hx := B.exec
  have hb := B.bytes
  have hr := B.returns
  have hts := atoms_spec (ws := wsX6_isEdge) B.pre
  have hown : s.vm.findClass RX6 = some m.cls := findClass_of_methodNamed B.named
  have hlocks := B.notSynchronized
  have hP : va_P E.1 vwCl [(q, .inr (7, [.int th, .int (nI gw), .int (nI gh), .ref y1, .ref y2, .ref y3, .int to, .int (b2i wr), .ref y4, .ref y5, .int (nI k), .ref y6, .ref y7, .ref y8, .ref y9, .int (nI mk), .ref y10, .ref y11, .ref y12, .ref y13, .ref y14, .ref y15, .ref y16, .ref y17, .ref y18]))] s.heap := hP
  have hl := lv_entry ([.ref q, .int a]) (n := 2) (Nat.le_of_ble_eq_true rfl)
  rw [lg_entry_eq]
  generalize (lg_sl ([.ref q, .int a]) ++ List.replicate (2 - (lg_sl ([.ref q, .int a])).length) Slot.unset).toArray = ls at hl ⊢
  have hl : lv_has ls 2 [(0, .ref q), (1, .int a)] := hl
  have hf_69 := hts (.fieldLink RX6 69 "LoopRegionsModel" "width" "I") (by decide +kernel)
  have hf_72 := hts (.fieldLink RX6 72 "LoopRegionsModel" "height" "I") (by decide +kernel)
  have hi_RX6 : ∀ w ∈ wsX60, w ∈ wsX6_isEdge := by decide +kernel
  have hN : gw * gh ≤ 64 := Nat.mul_le_mul hg8 hh8
  have hN1 : 1 ≤ gw * gh := Nat.mul_le_mul hg1 hh1
  refine lv_iload_n hx hb dX6_isEdge_0 rfl (lv_at hl 1 rfl) ?_
  refine lv_if_lt (tgt := 61) hx hb dX6_isEdge_1 (by decide) (fun c_1 => ?_) (fun c_1 => ?_)
  · skip
    refine lv_iconst (v := 0) hx hb dX6_isEdge_61 (by decide) ?_
    exact W.zret (v := 0) hx hb hr (rfl) (fun t9 ht9 _ => ⟨0, rfl, by rw [rIsE, if_pos c_1]; rfl, ht9⟩) (fun q h => absurd h List.not_mem_nil) dX6_isEdge_62
  · skip
    obtain ⟨ja, hja, rfl⟩ := nI_of c_1
    refine lv_iload_n hx hb dX6_isEdge_4 rfl (lv_at hl 1 rfl) ?_
    refine lv_iconst (v := 2) hx hb dX6_isEdge_5 (by decide) ?_
    refine lv_aload_n hx hb dX6_isEdge_6 rfl (lv_at hl 0 rfl) ?_
    refine crVi (As := []) (rest := [.int 2, .int (nI ja)]) ⟨hx, hb, hml, hown, hts⟩ hE (cX6_all_ct l E q y1 y2 y3 y4 y5 y6 y7 y8 y9 y10 y11 y12 y13 y14 y15 y16 y17 y18 gw gh th to wr k mk) (cwV 0 hts gX6_isEdge_X6_all rfl rfl rfl (by decide +kernel) ⟨Nat.le_of_ble_eq_true rfl, Nat.le_of_ble_eq_true rfl⟩) (hP.sub (ws' := [(q, .inr (7, [.int th, .int (nI gw), .int (nI gh), .ref y1, .ref y2, .ref y3, .int to, .int (b2i wr), .ref y4, .ref y5, .int (nI k), .ref y6, .ref y7, .ref y8, .ref y9, .int (nI mk), .ref y10, .ref y11, .ref y12, .ref y13, .ref y14, .ref y15, .ref y16, .ref y17, .ref y18]))]) [0] rfl) (va_recv hE.1 hP (ci := 7) (q0 := 0) rfl rfl) rfl hl.1 rfl (Nat.le_of_ble_eq_true rfl) dX6_isEdge_7 ⟨Nat.zero_le _, Nat.zero_le _⟩ ?_
    refine lv_imul hx hb dX6_isEdge_10 ?_
    refine lv_eqi (show (2 * (nI (gw * gh)) : Int32) = nI (2 * (gw * gh)) from pk_mul 2 (gw * gh)) ?_
    refine lv_icmp_ge (tgt := 61) hx hb dX6_isEdge_11 (by decide) (fun c_11 => ?_) (fun c_11 => ?_)
    · skip
      have m_11 : (2 * (gw * gh)) ≤ ja := (nI_leI (a := (2 * (gw * gh))) (b := ja) (by omega) (by omega)).mp c_11
      have k_11 : ¬ ja < (2 * (gw * gh)) := Nat.not_lt.mpr m_11
      refine lv_iconst (v := 0) hx hb dX6_isEdge_61 (by decide) ?_
      exact W.zret (v := 0) hx hb hr (rfl) (fun t9 ht9 _ => ⟨0, rfl, by rw [rIsE, if_neg c_1, nI_clamp hja]; simp [isEn, b2i, k_11], ht9⟩) (fun q h => absurd h List.not_mem_nil) dX6_isEdge_62
    · skip
      have m_11 : ¬ (2 * (gw * gh)) ≤ ja := fun q => c_11 ((nI_leI (a := (2 * (gw * gh))) (b := ja) (by omega) (by omega)).mpr q)
      have k_11 : ja < (2 * (gw * gh)) := Nat.lt_of_not_le m_11
      refine lv_iload_n hx hb dX6_isEdge_14 rfl (lv_at hl 1 rfl) ?_
      refine lv_iconst (v := 2) hx hb dX6_isEdge_15 (by decide) ?_
      refine lv_irem hx hb dX6_isEdge_16 (by decide) ?_
      refine lv_eqi (show ((nI ja) - (nI ja) / 2 * 2 : Int32) = nI (ja % 2) from pk_rem (a := ja) (d := 2) (by omega) (by omega) (by omega)) ?_
      refine lv_if_ne (tgt := 40) hx hb dX6_isEdge_17 (by decide) (fun c_17 => ?_) (fun c_17 => ?_)
      · skip
        have m_17 : ¬ (ja % 2) = 0 := fun q => c_17 ((nI_eq (a := (ja % 2)) (b := 0) (by omega) (by omega)).mpr q)
        refine lv_iload_n hx hb dX6_isEdge_40 rfl (lv_at hl 1 rfl) ?_
        refine lv_iconst (v := 2) hx hb dX6_isEdge_41 (by decide) ?_
        refine lv_idiv hx hb dX6_isEdge_42 (by decide) ?_
        refine lv_eqi (show ((nI ja) / 2 : Int32) = nI (ja / 2) from pk_div (a := ja) (d := 2) (by omega) (by omega) (by omega)) ?_
        refine lv_aload_n hx hb dX6_isEdge_43 rfl (lv_at hl 0 rfl) ?_
        refine va_get (D := E.1) (ci := 7) (v := .int (nI gw)) (C := RX6) (T := TX6) (N := 25) hx hb hts hi_RX6 hown hE.1 hP 0 rfl rfl 1 (by decide) hf_69 (fun _ h9 => h9) rfl dX6_isEdge_44 ?_
        refine lv_idiv hx hb dX6_isEdge_47 (nI_ne0 (by omega) (by omega)) ?_
        refine lv_eqi (show ((nI (ja / 2)) / (nI gw) : Int32) = nI ((ja / 2) / gw) from pk_div (a := (ja / 2)) (d := gw) (by omega) (by omega) (by omega)) ?_
        have hq_47 : (ja / 2) / gw ≤ (ja / 2) := Nat.div_le_self _ _
        refine lv_aload_n hx hb dX6_isEdge_48 rfl (lv_at hl 0 rfl) ?_
        refine va_get (D := E.1) (ci := 7) (v := .int (nI gh)) (C := RX6) (T := TX6) (N := 25) hx hb hts hi_RX6 hown hE.1 hP 0 rfl rfl 2 (by decide) hf_72 (fun _ h9 => h9) rfl dX6_isEdge_49 ?_
        refine lv_iconst (v := 1) hx hb dX6_isEdge_52 (by decide) ?_
        refine lv_isub hx hb dX6_isEdge_53 ?_
        refine lv_eqi (show ((nI gh) - 1 : Int32) = nI (gh - 1) from pk_sub (a := gh) (b := 1) (by omega)) ?_
        refine lv_icmp_ge (tgt := 61) hx hb dX6_isEdge_54 (by decide) (fun c_54 => ?_) (fun c_54 => ?_)
        · skip
          have m_54 : (gh - 1) ≤ ((ja / 2) / gw) := (nI_leI (a := (gh - 1)) (b := ((ja / 2) / gw)) (by omega) (by omega)).mp c_54
          have k_54 : ¬ ((ja / 2) / gw) < (gh - 1) := Nat.not_lt.mpr m_54
          refine lv_iconst (v := 0) hx hb dX6_isEdge_61 (by decide) ?_
          exact W.zret (v := 0) hx hb hr (rfl) (fun t9 ht9 _ => ⟨0, rfl, by rw [rIsE, if_neg c_1, nI_clamp hja]; simp [isEn, b2i, k_11, m_17, k_54], ht9⟩) (fun q h => absurd h List.not_mem_nil) dX6_isEdge_62
        · skip
          have m_54 : ¬ (gh - 1) ≤ ((ja / 2) / gw) := fun q => c_54 ((nI_leI (a := (gh - 1)) (b := ((ja / 2) / gw)) (by omega) (by omega)).mpr q)
          have k_54 : ((ja / 2) / gw) < (gh - 1) := Nat.lt_of_not_le m_54
          refine lv_iconst (v := 1) hx hb dX6_isEdge_57 (by decide) ?_
          refine lv_goto (tgt := 62) hx hb dX6_isEdge_58 (by decide) ?_
          exact W.zret (v := 1) hx hb hr (rfl) (fun t9 ht9 _ => ⟨1, rfl, by rw [rIsE, if_neg c_1, nI_clamp hja]; simp [isEn, b2i, k_11, m_17, k_54], ht9⟩) (fun q h => absurd h List.not_mem_nil) dX6_isEdge_62
      · skip
        have m_17 : (ja % 2) = 0 := (nI_eq (a := (ja % 2)) (b := 0) (by omega) (by omega)).mp c_17
        refine lv_iload_n hx hb dX6_isEdge_20 rfl (lv_at hl 1 rfl) ?_
        refine lv_iconst (v := 2) hx hb dX6_isEdge_21 (by decide) ?_
        refine lv_idiv hx hb dX6_isEdge_22 (by decide) ?_
        refine lv_eqi (show ((nI ja) / 2 : Int32) = nI (ja / 2) from pk_div (a := ja) (d := 2) (by omega) (by omega) (by omega)) ?_
        refine lv_aload_n hx hb dX6_isEdge_23 rfl (lv_at hl 0 rfl) ?_
        refine va_get (D := E.1) (ci := 7) (v := .int (nI gw)) (C := RX6) (T := TX6) (N := 25) hx hb hts hi_RX6 hown hE.1 hP 0 rfl rfl 1 (by decide) hf_69 (fun _ h9 => h9) rfl dX6_isEdge_24 ?_
        refine lv_irem hx hb dX6_isEdge_27 (nI_ne0 (by omega) (by omega)) ?_
        refine lv_eqi (show ((nI (ja / 2)) - (nI (ja / 2)) / (nI gw) * (nI gw) : Int32) = nI ((ja / 2) % gw) from pk_rem (a := (ja / 2)) (d := gw) (by omega) (by omega) (by omega)) ?_
        have hq_27 : (ja / 2) % gw ≤ (ja / 2) := Nat.mod_le _ _
        refine lv_aload_n hx hb dX6_isEdge_28 rfl (lv_at hl 0 rfl) ?_
        refine va_get (D := E.1) (ci := 7) (v := .int (nI gw)) (C := RX6) (T := TX6) (N := 25) hx hb hts hi_RX6 hown hE.1 hP 0 rfl rfl 1 (by decide) hf_69 (fun _ h9 => h9) rfl dX6_isEdge_29 ?_
        refine lv_iconst (v := 1) hx hb dX6_isEdge_32 (by decide) ?_
        refine lv_isub hx hb dX6_isEdge_33 ?_
        refine lv_eqi (show ((nI gw) - 1 : Int32) = nI (gw - 1) from pk_sub (a := gw) (b := 1) (by omega)) ?_
        refine lv_icmp_ge (tgt := 61) hx hb dX6_isEdge_34 (by decide) (fun c_34 => ?_) (fun c_34 => ?_)
        · skip
          have m_34 : (gw - 1) ≤ ((ja / 2) % gw) := (nI_leI (a := (gw - 1)) (b := ((ja / 2) % gw)) (by omega) (by omega)).mp c_34
          have k_34 : ¬ ((ja / 2) % gw) < (gw - 1) := Nat.not_lt.mpr m_34
          refine lv_iconst (v := 0) hx hb dX6_isEdge_61 (by decide) ?_
          exact W.zret (v := 0) hx hb hr (rfl) (fun t9 ht9 _ => ⟨0, rfl, by rw [rIsE, if_neg c_1, nI_clamp hja]; simp [isEn, b2i, k_11, m_17, k_34], ht9⟩) (fun q h => absurd h List.not_mem_nil) dX6_isEdge_62
        · skip
          have m_34 : ¬ (gw - 1) ≤ ((ja / 2) % gw) := fun q => c_34 ((nI_leI (a := (gw - 1)) (b := ((ja / 2) % gw)) (by omega) (by omega)).mpr q)
          have k_34 : ((ja / 2) % gw) < (gw - 1) := Nat.lt_of_not_le m_34
          refine lv_goto (tgt := 57) hx hb dX6_isEdge_37 (by decide) ?_
          refine lv_iconst (v := 1) hx hb dX6_isEdge_57 (by decide) ?_
          refine lv_goto (tgt := 62) hx hb dX6_isEdge_58 (by decide) ?_
          exact W.zret (v := 1) hx hb hr (rfl) (fun t9 ht9 _ => ⟨1, rfl, by rw [rIsE, if_neg c_1, nI_clamp hja]; simp [isEn, b2i, k_11, m_17, k_34], ht9⟩) (fun q h => absurd h List.not_mem_nil) dX6_isEdge_62
set_option maxHeartbeats 4000000 in
set_option maxRecDepth 100000 in
theorem cX6_other_ct (l : Launch) (E : GE) (q : Nat) (y1 : Nat) (y2 : Nat) (y3 : Nat) (y4 : Nat) (y5 : Nat) (y6 : Nat) (y7 : Nat) (y8 : Nat) (y9 : Nat) (y10 : Nat) (y11 : Nat) (y12 : Nat) (y13 : Nat) (y14 : Nat) (y15 : Nat) (y16 : Nat) (y17 : Nat) (y18 : Nat) (gw : Nat) (gh : Nat) (th : Int32) (to : Int32) (wr : Bool) (k : Nat) (mk : Nat) (j : Nat) (hj : j < 256) (hg1 : 1 ≤ gw) (hh1 : 1 ≤ gh) (hg8 : gw ≤ 8) (hh8 : gh ≤ 8) : rdI l yX6_other wsX6_other ({ frames := 0, cells := 0, slots := 0, locals := 0 }) E [.ref q, .int (nI j)] [(q, .inr (7, [.int th, .int (nI gw), .int (nI gh), .ref y1, .ref y2, .ref y3, .int to, .int (b2i wr), .ref y4, .ref y5, .int (nI k), .ref y6, .ref y7, .ref y8, .ref y9, .int (nI mk), .ref y10, .ref y11, .ref y12, .ref y13, .ref y14, .ref y15, .ref y16, .ref y17, .ref y18]))] (nI (oth gw j)) := by
  refine Met.ofW (cc := cX6_other) (maxL := 2) (ret := (some .int)) (by decide) rfl ?_
  intro p e s m args below meth c s₁ B hml hv
  obtain ⟨rfl, hE, hP⟩ := hv
  have hx := B.exec
  have hb := B.bytes
  have hr := B.returns
  have hts := atoms_spec (ws := wsX6_other) B.pre
  have hown : s.vm.findClass RX6 = some m.cls := findClass_of_methodNamed B.named
  have hlocks := B.notSynchronized
  have hP : va_P E.1 vwCl [(q, .inr (7, [.int th, .int (nI gw), .int (nI gh), .ref y1, .ref y2, .ref y3, .int to, .int (b2i wr), .ref y4, .ref y5, .int (nI k), .ref y6, .ref y7, .ref y8, .ref y9, .int (nI mk), .ref y10, .ref y11, .ref y12, .ref y13, .ref y14, .ref y15, .ref y16, .ref y17, .ref y18]))] s.heap := hP
  have hl := lv_entry ([.ref q, .int (nI j)]) (n := 2) (Nat.le_of_ble_eq_true rfl)
  rw [lg_entry_eq]
  generalize (lg_sl ([.ref q, .int (nI j)]) ++ List.replicate (2 - (lg_sl ([.ref q, .int (nI j)])).length) Slot.unset).toArray = ls at hl ⊢
  have hl : lv_has ls 2 [(0, .ref q), (1, .int (nI j))] := hl
  have hf_69 := hts (.fieldLink RX6 69 "LoopRegionsModel" "width" "I") (by decide +kernel)
  have hi_RX6 : ∀ w ∈ wsX60, w ∈ wsX6_other := by decide +kernel
  have hN : gw * gh ≤ 64 := Nat.mul_le_mul hg8 hh8
  have hN1 : 1 ≤ gw * gh := Nat.mul_le_mul hg1 hh1
  refine lv_iload_n hx hb dX6_other_0 rfl (lv_at hl 1 rfl) ?_
  refine lv_iconst (v := 2) hx hb dX6_other_1 (by decide) ?_
  refine lv_irem hx hb dX6_other_2 (by decide) ?_
  refine lv_eqi (show ((nI j) - (nI j) / 2 * 2 : Int32) = nI (j % 2) from pk_rem (a := j) (d := 2) (by omega) (by omega) (by omega)) ?_
  refine lv_if_ne (tgt := 14) hx hb dX6_other_3 (by decide) (fun c_3 => ?_) (fun c_3 => ?_)
  · skip
    have m_3 : ¬ (j % 2) = 0 := fun q => c_3 ((nI_eq (a := (j % 2)) (b := 0) (by omega) (by omega)).mpr q)
    refine lv_iload_n hx hb dX6_other_14 rfl (lv_at hl 1 rfl) ?_
    refine lv_iconst (v := 2) hx hb dX6_other_15 (by decide) ?_
    refine lv_idiv hx hb dX6_other_16 (by decide) ?_
    refine lv_eqi (show ((nI j) / 2 : Int32) = nI (j / 2) from pk_div (a := j) (d := 2) (by omega) (by omega) (by omega)) ?_
    refine lv_aload_n hx hb dX6_other_17 rfl (lv_at hl 0 rfl) ?_
    refine va_get (D := E.1) (ci := 7) (v := .int (nI gw)) (C := RX6) (T := TX6) (N := 25) hx hb hts hi_RX6 hown hE.1 hP 0 rfl rfl 1 (by decide) hf_69 (fun _ h9 => h9) rfl dX6_other_18 ?_
    refine lv_iadd hx hb dX6_other_21 ?_
    refine lv_eqi (show ((nI (j / 2)) + (nI gw) : Int32) = nI ((j / 2) + gw) from nI_add (j / 2) gw) ?_
    exact W.iret (v := nI ((j / 2) + gw)) hx hb hr (fun t9 ht9 _ => ⟨nI ((j / 2) + gw), rfl, by simp [oth, m_3], ht9⟩) (fun q h => absurd h List.not_mem_nil) dX6_other_22
  · skip
    have m_3 : (j % 2) = 0 := (nI_eq (a := (j % 2)) (b := 0) (by omega) (by omega)).mp c_3
    refine lv_iload_n hx hb dX6_other_6 rfl (lv_at hl 1 rfl) ?_
    refine lv_iconst (v := 2) hx hb dX6_other_7 (by decide) ?_
    refine lv_idiv hx hb dX6_other_8 (by decide) ?_
    refine lv_eqi (show ((nI j) / 2 : Int32) = nI (j / 2) from pk_div (a := j) (d := 2) (by omega) (by omega) (by omega)) ?_
    refine lv_iconst (v := 1) hx hb dX6_other_9 (by decide) ?_
    refine lv_iadd hx hb dX6_other_10 ?_
    refine lv_eqi (show ((nI (j / 2)) + 1 : Int32) = nI ((j / 2) + 1) from nI_add (j / 2) 1) ?_
    refine lv_goto (tgt := 22) hx hb dX6_other_11 (by decide) ?_
    exact W.iret (v := nI ((j / 2) + 1)) hx hb hr (fun t9 ht9 _ => ⟨nI ((j / 2) + 1), rfl, by simp [oth, m_3], ht9⟩) (fun q h => absurd h List.not_mem_nil) dX6_other_22
