/-! THE LAW'S OTHER SMALL CALLS, and calls over a world in any order. -/
set_option maxHeartbeats 4000000 in
set_option maxRecDepth 100000 in
theorem cX6_thrownG (l : Launch) (E : GE) (q : Nat) (th : Int32) (fs : List Value) : rdI l yX6_thrown wsX6_thrown ({ frames := 0, cells := 0, slots := 0, locals := 0 }) E [.ref q] [(q, .inr (7, .int th :: fs))] th := by
  refine Met.ofW (cc := cX6_thrown) (maxL := 1) (ret := (some .int)) (by decide) rfl ?_
  intro p e s m args below meth c s₁ B hml hv
  obtain ⟨rfl, hE, hP⟩ := hv
  have hx := B.exec
  have hb := B.bytes
  have hr := B.returns
  have hts := atoms_spec (ws := wsX6_thrown) B.pre
  have hown : s.vm.findClass RX6 = some m.cls := findClass_of_methodNamed B.named
  have hlocks := B.notSynchronized
  have hl := lv_entry ([.ref q]) (n := 1) (Nat.le_of_ble_eq_true rfl)
  rw [lg_entry_eq]
  generalize (lg_sl ([.ref q]) ++ List.replicate (1 - (lg_sl ([.ref q])).length) Slot.unset).toArray = ls at hl ⊢
  have hl : lv_has ls 1 [(0, .ref q)] := hl
  have hf_75 := hts (.fieldLink RX6 75 "LoopRegionsModel" "thrown" "I") (by decide +kernel)
  have hi_RX6 : ∀ w ∈ wsX60, w ∈ wsX6_thrown := by decide +kernel
  refine lv_aload_n hx hb dX6_thrown_0 rfl (lv_at hl 0 rfl) ?_
  refine va_get (D := E.1) (ci := 7) (v := .int th) (C := RX6) (T := TX6) (N := 25) hx hb hts hi_RX6 hown hE.1 hP 0 rfl rfl 0 (by decide) hf_75 (fun _ h9 => h9) rfl dX6_thrown_1 ?_
  exact W.iret (v := th) hx hb hr (fun t9 ht9 _ => ⟨th, rfl, rfl, ht9⟩) (fun q h => absurd h List.not_mem_nil) dX6_thrown_4
def fCell (L : Nat) (xs : Nat → Int32) (k : Int32) : Int32 := if k < nI L then xs k.toNatClampNeg else 0
set_option maxHeartbeats 4000000 in
set_option maxRecDepth 100000 in
theorem cL_cell_ct (l : Launch) (b L : Nat) (xs : Nat → Int32) (k : Int32) (hk : ¬ k < 0) (hL : L < 2 ^ 31) : Met l yL_cell wsL_cell ({ frames := 0, cells := 0, slots := 0, locals := 0 }) (va_Pc [.ref b, .int k] (fun U => b < U.heap.size ∧ va_X b L xs U U.heap)) (vp_Si (fun r => r = fCell L xs k)) 0 0 (fun _ => False) := by
  refine Met.ofW (cc := cL_cell) (maxL := 2) (ret := (some .int)) (by decide) rfl ?_
  intro p e s m args below meth c s₁ B hml hv
  obtain ⟨rfl, hbl, hX⟩ := hv
  have hx := B.exec
  have hb := B.bytes
  have hr := B.returns
  have hlocks := B.notSynchronized
  have hl := lv_entry ([.ref b, .int k]) (n := 2) (Nat.le_of_ble_eq_true rfl)
  rw [lg_entry_eq]
  generalize (lg_sl ([.ref b, .int k]) ++ List.replicate (2 - (lg_sl ([.ref b, .int k])).length) Slot.unset).toArray = ls at hl ⊢
  have hl : lv_has ls 2 [(0, .ref b), (1, .int k)] := hl
  have hS : va_S (fun _ => False) s.heap s.heap [] := va_S.rf
  refine lv_iload_n hx hb dL_cell_0 rfl (lv_at hl 1 rfl) ?_
  refine lv_aload_n hx hb dL_cell_1 rfl (lv_at hl 0 rfl) ?_
  refine va_slen hx hb hX hbl (fun q => q) hS dL_cell_2 ?_
  refine lv_icmp_ge (tgt := 12) hx hb dL_cell_3 (by decide) (fun c_3 => ?_) (fun c_3 => ?_)
  · refine lv_iconst (v := 0) hx hb dL_cell_12 (by decide) ?_
    have e9 : fCell L xs k = 0 := by
      unfold fCell
      rw [if_neg (fun q => ?_)]
      have h1 : (nI L).toInt ≤ k.toInt := Int32.le_iff_toInt_le.mp c_3
      have h2 : k.toInt < (nI L).toInt := Int32.lt_iff_toInt_lt.mp q
      omega
    exact W.iret (v := 0) hx hb hr (fun t9 ht9 _ => ⟨0, rfl, e9.symm, ht9⟩) (fun q h => absurd h List.not_mem_nil) dL_cell_13
  · have c_4 : k < nI L := by
      rw [Int32.lt_iff_toInt_lt]
      have h1 : ¬ (nI L).toInt ≤ k.toInt := fun q => c_3 (Int32.le_iff_toInt_le.mpr q)
      omega
    have e9 : fCell L xs k = xs k.toNatClampNeg := if_pos c_4
    refine lv_aload_n hx hb dL_cell_6 rfl (lv_at hl 0 rfl) ?_
    refine lv_iload_n hx hb dL_cell_7 rfl (lv_at hl 1 rfl) ?_
    refine va_sld hx hb hX hbl (fun q => q) hS (in_of hL hk (fun q => c_3 q)) dL_cell_8 ?_
    refine lv_goto (tgt := 13) hx hb dL_cell_9 (by decide) ?_
    exact W.iret (v := xs k.toNatClampNeg) hx hb hr (fun t9 ht9 _ => ⟨_, rfl, e9.symm, ht9⟩) (fun q h => absurd h List.not_mem_nil) dL_cell_13
theorem wP_left {E : GE} {a b : va_W} {H : Heap} (h : va_P E.1 vwCl (a ++ b) H) : va_P E.1 vwCl a H := wP_mem.mpr (fun q hq => wP_mem.mp h q (List.mem_append_left _ hq))
theorem wD_left {A : Nat → Prop} {a b : va_W} (h : va_D A (a ++ b)) : va_D A a := by
  obtain ⟨n1, n2⟩ := wD_nd.mp h
  rw [List.map_append, List.nodup_append] at n1
  exact wD_nd.mpr ⟨n1.1, fun q hq => n2 q (List.mem_append_left _ hq)⟩
theorem perm_fst {α : Type} {X Y Z rest : List α} (is : List Nat) (h : is.map (fun i => X[i]?) = (Y ++ Z).map some) (hp : is.Perm (List.range X.length)) : (X ++ rest).Perm (Y ++ (Z ++ rest)) := by
  rw [← List.append_assoc]
  exact (perm_idx is h hp).append_right rest
theorem perm_snd {α : Type} {B X Y Z rest : List α} (is : List Nat) (h : is.map (fun i => X[i]?) = (Y ++ Z).map some) (hp : is.Perm (List.range X.length)) : (B ++ (X ++ rest)).Perm (Y ++ (Z ++ (B ++ rest))) := by
  have h1 : (B ++ (X ++ rest)).Perm (X ++ (B ++ rest)) := by
    rw [← List.append_assoc, ← List.append_assoc]
    exact List.perm_append_comm.append_right rest
  exact h1.trans (perm_fst is h hp)
section LWC
variable {p : Program} {l : Launch} {e : Env} {R : Room} {s : State} {m : MethodId} {args : Array Value} {below : List Frame} {meth : Method} {c : Code} {H : Heap} {locs : List Loc} {cells slots : Nat} {Q : State → Prop}
variable {y : MethodName} {bytes cc : ByteArray} {maxL nL n index pc mc ms : Nat} {ret : Option FieldType} {ws : List Cond} {rm : Room} {Ts : List Cond} {own C : String} {b : Addr} {As rest st0 : List Value} {ls : Array Slot} {E : GE} {cs wr ww : va_W} {r : Option Value} {X : va_W → Prop} {A : Nat → Prop} {H0 : Heap} {hh : List (Nat × Nat × Nat × Nat)}
/-- a virtual call upon a part of the world -/
theorem lwV (S : CallFix p m c cc nL s args Ts own) (hE : ev E s) (hM : wrM l y ws rm E H.size (.ref b :: As) cs r X mc ms) (cw : CallW R s args own C index y bytes maxL ret ws rm mc ms n) (hP : va_P E.1 vwCl ww H) (hD : va_D A ww) (hS : va_S A H0 H locs) (hA : ∀ q, H0.size ≤ q → A q) (hp : ww.Perm (cs ++ wr))
    {ci : Nat} {vc : vw_C} {fs : List Value} (h0 : cs[0]? = some (b, .inr (ci, fs))) (hci : vwCl[ci]? = some vc) (hC : vc.1 = C)
    (hn : As.length = n) (hsize : ls.size = nL) (hstack : st0 = As.reverse ++ .ref b :: rest) (hW : (rest.map fun v => v.category).sum ≤ 8) (hdg : decode cc pc = .ok (.invokevirtual index, 3)) (hf : cells + mc ≤ R.cells ∧ slots + ms ≤ R.slots)
    (kk : ∀ (cs' : va_W) (H1 : Heap) (locs1 : List Loc), X cs' → va_P E.1 vwCl (cs' ++ wr) H1 → va_D A (cs' ++ wr) → va_S A H0 H1 locs1 → W p l e R s m args below meth c H1 locs1 (cells + mc) (slots + ms) Q (F0 m (pc + 3) ls (r.toList ++ rest))) : W p l e R s m args below meth c H locs cells slots Q (F0 m pc ls st0) := by
  have hP' := wP_perm hP hp
  have hD' := wD_perm hD hp
  subst hC
  exact wr_callP (va_runV (As := As) (rest := rest) (g := F0 m pc ls st0) S hM cw ⟨wr_blind, va_recv hE.1 (wP_left hP') hci h0, wr_pre hE (wP_left hP') (wD_left hD')⟩ rfl hn hsize hstack (lv_room hW) hdg hf) hP' hD' hS hA (fun cs' H1 locs1 a1 a2 a3 a4 _ _ => kk cs' H1 locs1 a1 a2 a3 a4)
/-- a static call of one of the law's small methods that answers -/
theorem lwS (S : CallFix p m c cc nL s args Ts own) (hE : ev E s) (hM : wrM l y ws rm E H.size As cs r X mc ms) (cw : vx_CSW R s args own index y bytes maxL ret hh ws rm mc ms n) (hP : va_P E.1 vwCl ww H) (hD : va_D A ww) (hS : va_S A H0 H locs) (hA : ∀ q, H0.size ≤ q → A q) (hp : ww.Perm (cs ++ wr))
    (hn : As.length = n) (hsize : ls.size = nL) (hstack : st0 = As.reverse ++ rest) (hW : (rest.map fun v => v.category).sum ≤ 8) (hdg : decode cc pc = .ok (.invokestatic index, 3)) (hf : cells + mc ≤ R.cells ∧ slots + ms ≤ R.slots)
    (kk : ∀ (cs' : va_W) (H1 : Heap) (locs1 : List Loc), X cs' → va_P E.1 vwCl (cs' ++ wr) H1 → va_D A (cs' ++ wr) → va_S A H0 H1 locs1 → W p l e R s m args below meth c H1 locs1 (cells + mc) (slots + ms) Q (F0 m (pc + 3) ls (r.toList ++ rest))) : W p l e R s m args below meth c H locs cells slots Q (F0 m pc ls st0) := by
  have hP' := wP_perm hP hp
  have hD' := wD_perm hD hp
  exact wr_callP (vx_runSW (As := As) (rest := rest) (g := F0 m pc ls st0) S hM cw ⟨wr_blind, wr_pre hE (wP_left hP') (wD_left hD')⟩ rfl hn hsize hstack (lv_room hW) hdg hf) hP' hD' hS hA (fun cs' H1 locs1 a1 a2 a3 a4 _ _ => kk cs' H1 locs1 a1 a2 a3 a4)
/-- a static call of one of the law's small methods whose call throws: the world stays -/
theorem lwB {k : Int32} (S : CallFix p m c cc nL s args Ts own) (hE : ev E s) (hM : bdM l y ws rm E H.size As cs k) (cw : vx_CSW R s args own index y bytes maxL ret hh ws rm 1 6 n) (hP : va_P E.1 vwCl ww H) (hD : va_D A ww) (hS : va_S A H0 H locs) (hA : ∀ q, H0.size ≤ q → A q) (hp : ww.Perm (cs ++ wr)) (hT : tx A s H0)
    (hn : As.length = n) (hsize : ls.size = nL) (hstack : st0 = As.reverse ++ rest) (hW : (rest.map fun v => v.category).sum ≤ 8) (hdg : decode cc pc = .ok (.invokestatic index, 3)) (hf : cells + 1 ≤ R.cells ∧ slots + 6 ≤ R.slots)
    (kk : ∀ (H1 : Heap) (locs1 : List Loc), va_P E.1 vwCl ww H1 → va_S A H0 H1 locs1 → W p l e R s m args below meth c H1 locs1 (cells + 1) (slots + 6) Q (F0 m (pc + 3) ls (.int k :: rest))) : W p l e R s m args below meth c H locs cells slots Q (F0 m pc ls st0) := by
  have hP' := wP_perm hP hp
  have hAH : ∀ q, H.size ≤ q → A q := fun q h => hA q (Nat.le_trans hS.1 h)
  have hr := vx_runSW (As := As) (rest := rest) (g := F0 m pc ls st0) (l := l) (e := e) (below := below) (meth := meth) (locs := locs) (cells := cells) (slots := slots) S hM cw ⟨tx_blind, tx_pre hE (wP_left hP') (tx_kept hT hS.2.1) hAH⟩ rfl hn hsize hstack (lv_room hW) hdg hf
  intro T hT' XX
  obtain ⟨v, st₀, t, T', L, h0, X', hL, e1, e2, ⟨hv, hz, hk⟩, st⟩ := hr T hT' XX
  cases hv
  rw [h0] at hz hk
  rw [← e1] at hz hk
  have keep : ∀ q : Nat, q < H.size → T'.heap[q]? = H[q]? := fun q hq => hk q hq (by omega)
  obtain ⟨t2, a1, b1⟩ := kk T'.heap (locs ++ L) (wP_mem.mpr (fun q hq => ((wP_mem.mp hP) q hq).kept (keep _ ((wP_mem.mp hP) q hq).lt)))
    ⟨Nat.le_trans hS.1 hz, fun q h1 h2 => by rw [keep q (Nat.lt_of_lt_of_le h1 hS.1)]; exact hS.2.1 q h1 h2, fun q hq => by
      rcases List.mem_append.mp hq with h | h
      · exact hS.2.2 q h
      · exact hAH _ (hL q h)⟩ T' rfl X'
  exact ⟨t2, st t2 a1, b1⟩
end LWC
