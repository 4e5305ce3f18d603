/-! THE LAW'S SMALL METHODS: a call, and what it throws as a number. -/
theorem met_ofWH {l : Launch} {y : MethodName} {ws ws' : List Cond} {rm : Room} {Pc : Array Value → State → Prop} {Qc : Array Value → State → Outcome → State → Prop} {mc ms : Nat} {free : Addr → Prop} {cc : ByteArray} {maxL : Nat} {ret : Option FieldType} {hh : List (Nat × Nat × Nat × Nat)}
    (hy : plainName y.cls = true) (hw : ws = Cond.codeWith y cc maxL ret hh :: ws')
    (body : ∀ p e s m args below meth c s₁, BodyLoose p l y (headSpec ws rm) cc maxL ret e s m args below meth c s₁ → c.maxLocals = maxL → c.exceptionTable.toList = tableOf hh → Pc args s →
      W p l e (headSpec ws rm).room s m args below meth c s.heap [] 0 0 (MQ below Qc args s mc ms free) (entryFrame m args maxL)) : Met l y ws rm Pc Qc mc ms free := by
  refine MetFree.of_bodyS (code := cc) (maxLocals := maxL) (ret := ret) hy ?_ ?_
  · intro args s m h hn
    obtain ⟨m9, meth, c, hn9, h1, h2, h3, h4, -, h5, h6, -⟩ := Cond.codeWith_spec (atoms_spec (ws := ws) h _ (by rw [hw]; exact List.mem_cons_self))
    cases hn.symm.trans hn9
    exact ⟨meth, c, h1, h2, h3, h4, h5, h6⟩
  · intro p e s m args below meth c s₁ B hml hP _
    have hh0 : s₁.heap = s.heap := by rw [B.state]; rfl
    have ht : c.exceptionTable.toList = tableOf hh := vx_table (x := y) B (atoms_spec (ws := ws) B.pre _ (by rw [hw]; exact List.mem_cons_self))
    obtain ⟨t, a1, o, b1, b2, b3⟩ := body p e s m args below meth c s₁ B hml ht hP s₁ hh0 (Stand.of_body B)
    exact ⟨t, o, a1, b1, b2, b3⟩
/-- a reader as a writer that writes nothing -/
theorem rd_wr {l : Launch} {y : MethodName} {ws : List Cond} {rm : Room} {E : GE} {av : List Value} {cs : va_W} {v : Int32} {sz : Nat} (h : rdI l y ws rm E av cs v) : wrM l y ws rm E sz av cs (some (.int v)) (fun cs' => cs' = cs) 0 0 := by
  intro p e ha hc hk s m args below hf happ hP hK
  obtain ⟨n, o, h1, h2, h3, ⟨⟨r, hr, rfl, hh⟩, L, hF, hL⟩⟩ := h p e ha hc hk s m args below hf happ ⟨hP.1, hP.2.2.1, hP.2.2.2.1⟩ hK
  refine ⟨n, o, h1, h2, h3, ⟨⟨hr, cs, rfl, by rw [hh]; exact hP.2.2.2.1, hP.2.2.2.2.self⟩, by rw [hh]; exact Nat.le_refl _, fun q _ _ => by rw [hh]⟩, L, hF, fun q hq => (hL q hq).elim⟩
abbrev oC (E : GE) (o : Nat) (f : Nat → Int64) : Nat × va_E := (o, .inl (E.2 3, 1, .inr (.inl f)))
abbrev oF (v : Int64) : Nat → Int64 := fun _ => v
theorem oF_upd (u v : Int64) (f : Nat → Int64) : ∀ j, j < 1 → vp_updL f 0 v j = oF v j := by
  intro j hj
  rw [show j = 0 by omega]; exact pk_uLs
def bdQ (sz : Nat) (k : Int32) : Array Value → State → Outcome → State → Prop := fun _ st oc t => oc = .returned (some (.int k)) ∧ va_F (fun q => sz ≤ q) st t
abbrev bdM (l : Launch) (y : MethodName) (ws : List Cond) (rm : Room) (E : GE) (sz : Nat) (av : List Value) (cs : va_W) (k : Int32) : Prop := Met l y ws rm (va_Pc av (txP E sz cs)) (bdQ sz k) 1 6 (fun q => sz ≤ q)
theorem goodTS {own : String} {i : Nat} {y : MethodName} {a b : List Cond} (h : GoodIn a (va_wsS own i y b)) : GoodIn (a ++ tW) (va_wsS own i y (b ++ tW)) := by
  have e : va_wsS own i y (b ++ tW) = va_wsS own i y b ++ tW := by unfold va_wsS; rw [List.append_assoc]
  rw [e]; exact goodT h tW_good
theorem capps {α : Type} {a : α} {l : List α} : (a :: l).Perm (l ++ [a]) := List.perm_append_comm (l₁ := [a]) (l₂ := l)
theorem va_A_le {w : va_W} {x : Nat × va_E} {sz : Nat} : ∀ q, va_A w sz q → va_A (x :: w) sz q := by
  rintro q (⟨k, ee, h⟩ | h)
  · exact Or.inl ⟨k + 1, ee, h⟩
  · exact Or.inr h

set_option maxHeartbeats 4000000 in
set_option maxRecDepth 100000 in
theorem wL_end {l : Launch} {E : GE} {sz lr : Nat} {cs : va_W} {X : va_W → Prop} {rm : Room} {fs : List Value} (a : Int32) (z : Int32) {v : Int32} (o : Nat) (f : Nat → Int64) (hM : wrM l yX5_end wsX5_end rm E sz [.ref lr, .int a, .int z] cs (some (.int v)) X 0 0) (h0 : cs[0]? = some (lr, .inr (6, fs))) (hc : rm.cells = 0) (hs : rm.slots = 0) (hf : rm.frames ≤ 9) (hlo : rm.locals ≤ 200) : wrM l yL_end wsL_end ({ frames := 10, cells := 0, slots := 0, locals := 222 }) E sz [.ref lr, .int a, .int z, .ref o] (oC E o f :: cs) (some (.int 0)) (fun cs'' => ∃ cs', X cs' ∧ cs'' = oC E o (vp_updL f 0 v.toInt64) :: cs') 0 0 := by
  refine met_ofWH (cc := cL_end) (maxL := 5) (ret := some .int) (hh := [(0, 10, 13, 13)]) (by decide) rfl ?_
  intro p e s m args below meth c s₁ B hml htab hv0
  obtain ⟨rfl, hsz, hE, hP, hD0⟩ := hv0
  have hx := B.exec
  have hb := B.bytes
  have hr := B.returns
  have hts := atoms_spec (ws := wsL_end) B.pre
  have hown : s.vm.findClass RL = some m.cls := findClass_of_methodNamed B.named
  have hlocks := B.notSynchronized
  subst hsz
  have hl := lv_entry ([.ref lr, .int a, .int z, .ref o]) (n := 5) (Nat.le_of_ble_eq_true rfl)
  rw [lg_entry_eq]
  generalize (lg_sl ([.ref lr, .int a, .int z, .ref o]) ++ List.replicate (5 - (lg_sl ([.ref lr, .int a, .int z, .ref o])).length) Slot.unset).toArray = ls at hl ⊢
  have hl : lv_has ls 5 [(0, .ref lr), (1, .int a), (2, .int z), (3, .ref o)] := hl
  refine lv_aload_n hx hb dL_end_0 rfl (lv_at hl 3 rfl) ?_
  refine lv_iconst (v := 0) hx hb dL_end_1 (by decide) ?_
  refine lv_aload_n hx hb dL_end_2 rfl (lv_at hl 0 rfl) ?_
  refine lv_iload_n hx hb dL_end_3 rfl (lv_at hl 1 rfl) ?_
  refine lv_iload_n hx hb dL_end_4 rfl (lv_at hl 2 rfl) ?_
  have hD := hD0.self (sz := s.heap.size)
  generalize hAe : va_A (oC E o f :: cs) s.heap.size = A at hD ⊢
  have hA : ∀ q : Nat, s.heap.size ≤ q → A q := fun q h => by rw [← hAe]; exact Or.inr h
  have hS : va_S A s.heap s.heap [] := va_S.rf
  have hPc : va_P E.1 vwCl cs s.heap := wP_mem.mpr (fun q hq => wP_mem.mp hP q (List.mem_cons_of_mem _ hq))
  have hDc : va_D A cs := by obtain ⟨n1, n2⟩ := wD_nd.mp hD; exact wD_nd.mpr ⟨(List.nodup_cons.mp n1).2, fun q hq => n2 q (List.mem_cons_of_mem _ hq)⟩
  refine wr_callP (rest := [.int 0, .ref o]) (va_runV (As := [.int a, .int z]) (rest := [.int 0, .ref o]) (g := F0 m 5 ls [.int z, .int a, .ref lr, .int 0, .ref o]) ⟨hx, hb, hml, hown, hts⟩ hM (cwV 2 hts gL_end_X5_end rfl hc hs (by decide +kernel) ⟨by show rm.frames + 1 ≤ 10; omega, by show 8 + (3 + 11) + rm.locals ≤ 222; omega⟩) ⟨wr_blind, va_recv hE.1 hPc (ci := 6) (q0 := 0) rfl h0, wr_pre hE hPc hDc⟩ rfl rfl hl.1 rfl (lv_room (Nat.le_of_ble_eq_true rfl)) dL_end_5 ⟨Nat.zero_le _, Nat.zero_le _⟩) (wP_perm hP capps) (wD_perm hD capps) hS hA (fun cs' H1 locs1 hX hP1 hD1 hS1 _ _ => ?_)
  have hP1 : va_P E.1 vwCl (oC E o f :: cs') H1 := wP_perm hP1 capps.symm
  have hD1 : va_D A (oC E o f :: cs') := wD_perm hD1 capps.symm
  refine lv_i2l hx hb dL_end_8 rfl ?_
  refine va_last (D := E.1) (tys := tyL E) hx hb hE.1 hP1 hD1 hS1 0 3 rfl rfl (i := 0) (pk_in 0 1 (by decide)) dL_end_9 (fun H2 locs2 hP2 hD2 hS2 => ?_)
  have hP2 : va_P E.1 vwCl (oC E o (vp_updL f 0 v.toInt64) :: cs') H2 := hP2
  have hD2 : va_D A (oC E o (vp_updL f 0 v.toInt64) :: cs') := hD2
  refine lv_goto (tgt := 17) hx hb dL_end_10 (by decide) ?_
  refine lv_iconst (v := 0) hx hb dL_end_17 (by decide) ?_
  exact W.iret (v := 0) hx hb hr (fun t9 ht9 hW => ⟨⟨rfl, oC E o (vp_updL f 0 v.toInt64) :: cs', ⟨cs', hX, rfl⟩, by rw [ht9]; exact hP2, hD2⟩, hS2.F ht9⟩) hS2.2.2 dL_end_18
set_option maxHeartbeats 4000000 in
set_option maxRecDepth 100000 in
theorem bL_end {l : Launch} {E : GE} {sz lr : Nat} {cs : va_W} {rm : Room} {fs : List Value} (a : Int32) (z : Int32) (o : Nat) (hM : txM l yX5_end (wsX5_end ++ tW) rm E sz [.ref lr, .int a, .int z] cs eA) (h0 : cs[0]? = some (lr, .inr (6, fs))) (hc : rm.cells = 1) (hs : rm.slots = 6) (hf : rm.frames ≤ 9) (hlo : rm.locals ≤ 200) : bdM l yL_end (wsL_end ++ tW) ({ frames := 10, cells := 1, slots := 6, locals := 222 }) E sz [.ref lr, .int a, .int z, .ref o] cs 1 := by
  refine met_ofWH (cc := cL_end) (maxL := 5) (ret := some .int) (hh := [(0, 10, 13, 13)]) (by decide) rfl ?_
  intro p e s m args below meth c s₁ B hml htab hv0
  obtain ⟨rfl, hsz, hE, hP, hT⟩ := hv0
  have hx := B.exec
  have hb := B.bytes
  have hr := B.returns
  have hts := atoms_spec (ws := wsL_end ++ tW) B.pre
  have hown : s.vm.findClass RL = some m.cls := findClass_of_methodNamed B.named
  have hlocks := B.notSynchronized
  subst hsz
  have hl := lv_entry ([.ref lr, .int a, .int z, .ref o]) (n := 5) (Nat.le_of_ble_eq_true rfl)
  rw [lg_entry_eq]
  generalize (lg_sl ([.ref lr, .int a, .int z, .ref o]) ++ List.replicate (5 - (lg_sl ([.ref lr, .int a, .int z, .ref o])).length) Slot.unset).toArray = ls at hl ⊢
  have hl : lv_has ls 5 [(0, .ref lr), (1, .int a), (2, .int z), (3, .ref o)] := hl
  refine lv_aload_n hx hb dL_end_0 rfl (lv_at hl 3 rfl) ?_
  refine lv_iconst (v := 0) hx hb dL_end_1 (by decide) ?_
  refine lv_aload_n hx hb dL_end_2 rfl (lv_at hl 0 rfl) ?_
  refine lv_iload_n hx hb dL_end_3 rfl (lv_at hl 1 rfl) ?_
  refine lv_iload_n hx hb dL_end_4 rfl (lv_at hl 2 rfl) ?_
  refine tx_call (rest := [.int 0, .ref o]) (vx_runV (As := [.int a, .int z]) (rest := [.int 0, .ref o]) (g := F0 m 5 ls [.int z, .int a, .ref lr, .int 0, .ref o]) ⟨hx, hb, hml, hown, hts⟩ hM (cwV 2 hts (goodTV gL_end_X5_end) rfl hc hs (by decide +kernel) ⟨by show rm.frames + 1 ≤ 10; omega, by show 8 + (3 + 11) + rm.locals ≤ 222; omega⟩) ⟨tx_blind, va_recv hE.1 hP (ci := 6) (q0 := 0) rfl h0, tx_pre hE hP hT (fun q h => h)⟩ rfl rfl hl.1 rfl (lv_room (Nat.le_of_ble_eq_true rfl)) dL_end_5 ⟨Nat.le_refl _, Nat.le_refl _⟩) (fun q0 ce0 H1 L1 h1 h2 h3 h4 h5 h6 => ?_)
  refine vx_catch (name := eA) hown [] ⟨0, 10, 13, 13⟩ [] htab (fun z hz => by cases hz) (by decide) (by decide) (hts (.classLink RL 13 eA) (List.mem_append_right _ (t1_in (by decide +kernel)))) (tV_use (w := .castable eA eA) (by decide +kernel) (hT.2.2.1 _ (by decide +kernel))) h4 h5 h6 ?_
  refine lv_astore hx hb dL_end_13 hl (by decide) rfl (fun ls' hl' => ?_)
  refine lv_iconst (v := 1) hx hb dL_end_15 (by decide) ?_
  exact W.iret (v := 1) hx hb hr (fun t9 ht9 hW => ⟨rfl, by rw [ht9]; exact h1, fun a ha _ => by rw [ht9]; exact h2 a ha⟩) h3 dL_end_16
set_option maxHeartbeats 4000000 in
set_option maxRecDepth 100000 in
theorem wL_step {l : Launch} {E : GE} {sz lr : Nat} {cs : va_W} {X : va_W → Prop} {rm : Room} {fs : List Value} (a : Int32) (z : Int32) {v : Int32} (o : Nat) (f : Nat → Int64) (hM : wrM l yX5_step wsX5_step rm E sz [.ref lr, .int a, .int z] cs (some (.int v)) X 0 0) (h0 : cs[0]? = some (lr, .inr (6, fs))) (hc : rm.cells = 0) (hs : rm.slots = 0) (hf : rm.frames ≤ 9) (hlo : rm.locals ≤ 200) : wrM l yL_step wsL_step ({ frames := 10, cells := 0, slots := 0, locals := 222 }) E sz [.ref lr, .int a, .int z, .ref o] (oC E o f :: cs) (some (.int 0)) (fun cs'' => ∃ cs', X cs' ∧ cs'' = oC E o (vp_updL f 0 v.toInt64) :: cs') 0 0 := by
  refine met_ofWH (cc := cL_step) (maxL := 5) (ret := some .int) (hh := [(0, 10, 13, 36)]) (by decide) rfl ?_
  intro p e s m args below meth c s₁ B hml htab hv0
  obtain ⟨rfl, hsz, hE, hP, hD0⟩ := hv0
  have hx := B.exec
  have hb := B.bytes
  have hr := B.returns
  have hts := atoms_spec (ws := wsL_step) B.pre
  have hown : s.vm.findClass RL = some m.cls := findClass_of_methodNamed B.named
  have hlocks := B.notSynchronized
  subst hsz
  have hl := lv_entry ([.ref lr, .int a, .int z, .ref o]) (n := 5) (Nat.le_of_ble_eq_true rfl)
  rw [lg_entry_eq]
  generalize (lg_sl ([.ref lr, .int a, .int z, .ref o]) ++ List.replicate (5 - (lg_sl ([.ref lr, .int a, .int z, .ref o])).length) Slot.unset).toArray = ls at hl ⊢
  have hl : lv_has ls 5 [(0, .ref lr), (1, .int a), (2, .int z), (3, .ref o)] := hl
  refine lv_aload_n hx hb dL_step_0 rfl (lv_at hl 3 rfl) ?_
  refine lv_iconst (v := 0) hx hb dL_step_1 (by decide) ?_
  refine lv_aload_n hx hb dL_step_2 rfl (lv_at hl 0 rfl) ?_
  refine lv_iload_n hx hb dL_step_3 rfl (lv_at hl 1 rfl) ?_
  refine lv_iload_n hx hb dL_step_4 rfl (lv_at hl 2 rfl) ?_
  have hD := hD0.self (sz := s.heap.size)
  generalize hAe : va_A (oC E o f :: cs) s.heap.size = A at hD ⊢
  have hA : ∀ q : Nat, s.heap.size ≤ q → A q := fun q h => by rw [← hAe]; exact Or.inr h
  have hS : va_S A s.heap s.heap [] := va_S.rf
  have hPc : va_P E.1 vwCl cs s.heap := wP_mem.mpr (fun q hq => wP_mem.mp hP q (List.mem_cons_of_mem _ hq))
  have hDc : va_D A cs := by obtain ⟨n1, n2⟩ := wD_nd.mp hD; exact wD_nd.mpr ⟨(List.nodup_cons.mp n1).2, fun q hq => n2 q (List.mem_cons_of_mem _ hq)⟩
  refine wr_callP (rest := [.int 0, .ref o]) (va_runV (As := [.int a, .int z]) (rest := [.int 0, .ref o]) (g := F0 m 5 ls [.int z, .int a, .ref lr, .int 0, .ref o]) ⟨hx, hb, hml, hown, hts⟩ hM (cwV 2 hts gL_step_X5_step rfl hc hs (by decide +kernel) ⟨by show rm.frames + 1 ≤ 10; omega, by show 8 + (3 + 11) + rm.locals ≤ 222; omega⟩) ⟨wr_blind, va_recv hE.1 hPc (ci := 6) (q0 := 0) rfl h0, wr_pre hE hPc hDc⟩ rfl rfl hl.1 rfl (lv_room (Nat.le_of_ble_eq_true rfl)) dL_step_5 ⟨Nat.zero_le _, Nat.zero_le _⟩) (wP_perm hP capps) (wD_perm hD capps) hS hA (fun cs' H1 locs1 hX hP1 hD1 hS1 _ _ => ?_)
  have hP1 : va_P E.1 vwCl (oC E o f :: cs') H1 := wP_perm hP1 capps.symm
  have hD1 : va_D A (oC E o f :: cs') := wD_perm hD1 capps.symm
  refine lv_i2l hx hb dL_step_8 rfl ?_
  refine va_last (D := E.1) (tys := tyL E) hx hb hE.1 hP1 hD1 hS1 0 3 rfl rfl (i := 0) (pk_in 0 1 (by decide)) dL_step_9 (fun H2 locs2 hP2 hD2 hS2 => ?_)
  have hP2 : va_P E.1 vwCl (oC E o (vp_updL f 0 v.toInt64) :: cs') H2 := hP2
  have hD2 : va_D A (oC E o (vp_updL f 0 v.toInt64) :: cs') := hD2
  refine lv_goto (tgt := 17) hx hb dL_step_10 (by decide) ?_
  refine lv_iconst (v := 0) hx hb dL_step_17 (by decide) ?_
  exact W.iret (v := 0) hx hb hr (fun t9 ht9 hW => ⟨⟨rfl, oC E o (vp_updL f 0 v.toInt64) :: cs', ⟨cs', hX, rfl⟩, by rw [ht9]; exact hP2, hD2⟩, hS2.F ht9⟩) hS2.2.2 dL_step_18
set_option maxHeartbeats 4000000 in
set_option maxRecDepth 100000 in
theorem bL_step {l : Launch} {E : GE} {sz lr : Nat} {cs : va_W} {rm : Room} {fs : List Value} (a : Int32) (z : Int32) (o : Nat) (hM : txM l yX5_step (wsX5_step ++ tW) rm E sz [.ref lr, .int a, .int z] cs eO) (h0 : cs[0]? = some (lr, .inr (6, fs))) (hc : rm.cells = 1) (hs : rm.slots = 6) (hf : rm.frames ≤ 9) (hlo : rm.locals ≤ 200) : bdM l yL_step (wsL_step ++ tW) ({ frames := 10, cells := 1, slots := 6, locals := 222 }) E sz [.ref lr, .int a, .int z, .ref o] cs 1 := by
  refine met_ofWH (cc := cL_step) (maxL := 5) (ret := some .int) (hh := [(0, 10, 13, 36)]) (by decide) rfl ?_
  intro p e s m args below meth c s₁ B hml htab hv0
  obtain ⟨rfl, hsz, hE, hP, hT⟩ := hv0
  have hx := B.exec
  have hb := B.bytes
  have hr := B.returns
  have hts := atoms_spec (ws := wsL_step ++ tW) B.pre
  have hown : s.vm.findClass RL = some m.cls := findClass_of_methodNamed B.named
  have hlocks := B.notSynchronized
  subst hsz
  have hl := lv_entry ([.ref lr, .int a, .int z, .ref o]) (n := 5) (Nat.le_of_ble_eq_true rfl)
  rw [lg_entry_eq]
  generalize (lg_sl ([.ref lr, .int a, .int z, .ref o]) ++ List.replicate (5 - (lg_sl ([.ref lr, .int a, .int z, .ref o])).length) Slot.unset).toArray = ls at hl ⊢
  have hl : lv_has ls 5 [(0, .ref lr), (1, .int a), (2, .int z), (3, .ref o)] := hl
  refine lv_aload_n hx hb dL_step_0 rfl (lv_at hl 3 rfl) ?_
  refine lv_iconst (v := 0) hx hb dL_step_1 (by decide) ?_
  refine lv_aload_n hx hb dL_step_2 rfl (lv_at hl 0 rfl) ?_
  refine lv_iload_n hx hb dL_step_3 rfl (lv_at hl 1 rfl) ?_
  refine lv_iload_n hx hb dL_step_4 rfl (lv_at hl 2 rfl) ?_
  refine tx_call (rest := [.int 0, .ref o]) (vx_runV (As := [.int a, .int z]) (rest := [.int 0, .ref o]) (g := F0 m 5 ls [.int z, .int a, .ref lr, .int 0, .ref o]) ⟨hx, hb, hml, hown, hts⟩ hM (cwV 2 hts (goodTV gL_step_X5_step) rfl hc hs (by decide +kernel) ⟨by show rm.frames + 1 ≤ 10; omega, by show 8 + (3 + 11) + rm.locals ≤ 222; omega⟩) ⟨tx_blind, va_recv hE.1 hP (ci := 6) (q0 := 0) rfl h0, tx_pre hE hP hT (fun q h => h)⟩ rfl rfl hl.1 rfl (lv_room (Nat.le_of_ble_eq_true rfl)) dL_step_5 ⟨Nat.le_refl _, Nat.le_refl _⟩) (fun q0 ce0 H1 L1 h1 h2 h3 h4 h5 h6 => ?_)
  refine vx_catch (name := eO) hown [] ⟨0, 10, 13, 36⟩ [] htab (fun z hz => by cases hz) (by decide) (by decide) (hts (.classLink RL 36 eO) (List.mem_append_right _ (t1_in (by decide +kernel)))) (tV_use (w := .castable eO eO) (by decide +kernel) (hT.2.2.1 _ (by decide +kernel))) h4 h5 h6 ?_
  refine lv_astore hx hb dL_step_13 hl (by decide) rfl (fun ls' hl' => ?_)
  refine lv_iconst (v := 1) hx hb dL_step_15 (by decide) ?_
  exact W.iret (v := 1) hx hb hr (fun t9 ht9 hW => ⟨rfl, by rw [ht9]; exact h1, fun a ha _ => by rw [ht9]; exact h2 a ha⟩) h3 dL_step_16
set_option maxHeartbeats 4000000 in
set_option maxRecDepth 100000 in
theorem wL_cell_ {l : Launch} {E : GE} {sz lr : Nat} {cs : va_W} {X : va_W → Prop} {rm : Room} {fs : List Value} (a : Int32) (z : Int32) {v : Int32} (o : Nat) (f : Nat → Int64) (hM : wrM l yX5_cell wsX5_cell rm E sz [.ref lr, .int a, .int z] cs (some (.int v)) X 0 0) (h0 : cs[0]? = some (lr, .inr (6, fs))) (hc : rm.cells = 0) (hs : rm.slots = 0) (hf : rm.frames ≤ 9) (hlo : rm.locals ≤ 200) : wrM l yL_cell_ wsL_cell_ ({ frames := 10, cells := 0, slots := 0, locals := 222 }) E sz [.ref lr, .int a, .int z, .ref o] (oC E o f :: cs) (some (.int 0)) (fun cs'' => ∃ cs', X cs' ∧ cs'' = oC E o (vp_updL f 0 v.toInt64) :: cs') 0 0 := by
  refine met_ofWH (cc := cL_cell_) (maxL := 5) (ret := some .int) (hh := [(0, 10, 13, 13)]) (by decide) rfl ?_
  intro p e s m args below meth c s₁ B hml htab hv0
  obtain ⟨rfl, hsz, hE, hP, hD0⟩ := hv0
  have hx := B.exec
  have hb := B.bytes
  have hr := B.returns
  have hts := atoms_spec (ws := wsL_cell_) B.pre
  have hown : s.vm.findClass RL = some m.cls := findClass_of_methodNamed B.named
  have hlocks := B.notSynchronized
  subst hsz
  have hl := lv_entry ([.ref lr, .int a, .int z, .ref o]) (n := 5) (Nat.le_of_ble_eq_true rfl)
  rw [lg_entry_eq]
  generalize (lg_sl ([.ref lr, .int a, .int z, .ref o]) ++ List.replicate (5 - (lg_sl ([.ref lr, .int a, .int z, .ref o])).length) Slot.unset).toArray = ls at hl ⊢
  have hl : lv_has ls 5 [(0, .ref lr), (1, .int a), (2, .int z), (3, .ref o)] := hl
  refine lv_aload_n hx hb dL_cell__0 rfl (lv_at hl 3 rfl) ?_
  refine lv_iconst (v := 0) hx hb dL_cell__1 (by decide) ?_
  refine lv_aload_n hx hb dL_cell__2 rfl (lv_at hl 0 rfl) ?_
  refine lv_iload_n hx hb dL_cell__3 rfl (lv_at hl 1 rfl) ?_
  refine lv_iload_n hx hb dL_cell__4 rfl (lv_at hl 2 rfl) ?_
  have hD := hD0.self (sz := s.heap.size)
  generalize hAe : va_A (oC E o f :: cs) s.heap.size = A at hD ⊢
  have hA : ∀ q : Nat, s.heap.size ≤ q → A q := fun q h => by rw [← hAe]; exact Or.inr h
  have hS : va_S A s.heap s.heap [] := va_S.rf
  have hPc : va_P E.1 vwCl cs s.heap := wP_mem.mpr (fun q hq => wP_mem.mp hP q (List.mem_cons_of_mem _ hq))
  have hDc : va_D A cs := by obtain ⟨n1, n2⟩ := wD_nd.mp hD; exact wD_nd.mpr ⟨(List.nodup_cons.mp n1).2, fun q hq => n2 q (List.mem_cons_of_mem _ hq)⟩
  refine wr_callP (rest := [.int 0, .ref o]) (va_runV (As := [.int a, .int z]) (rest := [.int 0, .ref o]) (g := F0 m 5 ls [.int z, .int a, .ref lr, .int 0, .ref o]) ⟨hx, hb, hml, hown, hts⟩ hM (cwV 2 hts gL_cell__X5_cell rfl hc hs (by decide +kernel) ⟨by show rm.frames + 1 ≤ 10; omega, by show 8 + (3 + 11) + rm.locals ≤ 222; omega⟩) ⟨wr_blind, va_recv hE.1 hPc (ci := 6) (q0 := 0) rfl h0, wr_pre hE hPc hDc⟩ rfl rfl hl.1 rfl (lv_room (Nat.le_of_ble_eq_true rfl)) dL_cell__5 ⟨Nat.zero_le _, Nat.zero_le _⟩) (wP_perm hP capps) (wD_perm hD capps) hS hA (fun cs' H1 locs1 hX hP1 hD1 hS1 _ _ => ?_)
  have hP1 : va_P E.1 vwCl (oC E o f :: cs') H1 := wP_perm hP1 capps.symm
  have hD1 : va_D A (oC E o f :: cs') := wD_perm hD1 capps.symm
  refine lv_i2l hx hb dL_cell__8 rfl ?_
  refine va_last (D := E.1) (tys := tyL E) hx hb hE.1 hP1 hD1 hS1 0 3 rfl rfl (i := 0) (pk_in 0 1 (by decide)) dL_cell__9 (fun H2 locs2 hP2 hD2 hS2 => ?_)
  have hP2 : va_P E.1 vwCl (oC E o (vp_updL f 0 v.toInt64) :: cs') H2 := hP2
  have hD2 : va_D A (oC E o (vp_updL f 0 v.toInt64) :: cs') := hD2
  refine lv_goto (tgt := 17) hx hb dL_cell__10 (by decide) ?_
  refine lv_iconst (v := 0) hx hb dL_cell__17 (by decide) ?_
  exact W.iret (v := 0) hx hb hr (fun t9 ht9 hW => ⟨⟨rfl, oC E o (vp_updL f 0 v.toInt64) :: cs', ⟨cs', hX, rfl⟩, by rw [ht9]; exact hP2, hD2⟩, hS2.F ht9⟩) hS2.2.2 dL_cell__18
set_option maxHeartbeats 4000000 in
set_option maxRecDepth 100000 in
theorem bL_cell_ {l : Launch} {E : GE} {sz lr : Nat} {cs : va_W} {rm : Room} {fs : List Value} (a : Int32) (z : Int32) (o : Nat) (hM : txM l yX5_cell (wsX5_cell ++ tW) rm E sz [.ref lr, .int a, .int z] cs eA) (h0 : cs[0]? = some (lr, .inr (6, fs))) (hc : rm.cells = 1) (hs : rm.slots = 6) (hf : rm.frames ≤ 9) (hlo : rm.locals ≤ 200) : bdM l yL_cell_ (wsL_cell_ ++ tW) ({ frames := 10, cells := 1, slots := 6, locals := 222 }) E sz [.ref lr, .int a, .int z, .ref o] cs 1 := by
  refine met_ofWH (cc := cL_cell_) (maxL := 5) (ret := some .int) (hh := [(0, 10, 13, 13)]) (by decide) rfl ?_
  intro p e s m args below meth c s₁ B hml htab hv0
  obtain ⟨rfl, hsz, hE, hP, hT⟩ := hv0
  have hx := B.exec
  have hb := B.bytes
  have hr := B.returns
  have hts := atoms_spec (ws := wsL_cell_ ++ tW) B.pre
  have hown : s.vm.findClass RL = some m.cls := findClass_of_methodNamed B.named
  have hlocks := B.notSynchronized
  subst hsz
  have hl := lv_entry ([.ref lr, .int a, .int z, .ref o]) (n := 5) (Nat.le_of_ble_eq_true rfl)
  rw [lg_entry_eq]
  generalize (lg_sl ([.ref lr, .int a, .int z, .ref o]) ++ List.replicate (5 - (lg_sl ([.ref lr, .int a, .int z, .ref o])).length) Slot.unset).toArray = ls at hl ⊢
  have hl : lv_has ls 5 [(0, .ref lr), (1, .int a), (2, .int z), (3, .ref o)] := hl
  refine lv_aload_n hx hb dL_cell__0 rfl (lv_at hl 3 rfl) ?_
  refine lv_iconst (v := 0) hx hb dL_cell__1 (by decide) ?_
  refine lv_aload_n hx hb dL_cell__2 rfl (lv_at hl 0 rfl) ?_
  refine lv_iload_n hx hb dL_cell__3 rfl (lv_at hl 1 rfl) ?_
  refine lv_iload_n hx hb dL_cell__4 rfl (lv_at hl 2 rfl) ?_
  refine tx_call (rest := [.int 0, .ref o]) (vx_runV (As := [.int a, .int z]) (rest := [.int 0, .ref o]) (g := F0 m 5 ls [.int z, .int a, .ref lr, .int 0, .ref o]) ⟨hx, hb, hml, hown, hts⟩ hM (cwV 2 hts (goodTV gL_cell__X5_cell) rfl hc hs (by decide +kernel) ⟨by show rm.frames + 1 ≤ 10; omega, by show 8 + (3 + 11) + rm.locals ≤ 222; omega⟩) ⟨tx_blind, va_recv hE.1 hP (ci := 6) (q0 := 0) rfl h0, tx_pre hE hP hT (fun q h => h)⟩ rfl rfl hl.1 rfl (lv_room (Nat.le_of_ble_eq_true rfl)) dL_cell__5 ⟨Nat.le_refl _, Nat.le_refl _⟩) (fun q0 ce0 H1 L1 h1 h2 h3 h4 h5 h6 => ?_)
  refine vx_catch (name := eA) hown [] ⟨0, 10, 13, 13⟩ [] htab (fun z hz => by cases hz) (by decide) (by decide) (hts (.classLink RL 13 eA) (List.mem_append_right _ (t1_in (by decide +kernel)))) (tV_use (w := .castable eA eA) (by decide +kernel) (hT.2.2.1 _ (by decide +kernel))) h4 h5 h6 ?_
  refine lv_astore hx hb dL_cell__13 hl (by decide) rfl (fun ls' hl' => ?_)
  refine lv_iconst (v := 1) hx hb dL_cell__15 (by decide) ?_
  exact W.iret (v := 1) hx hb hr (fun t9 ht9 hW => ⟨rfl, by rw [ht9]; exact h1, fun a ha _ => by rw [ht9]; exact h2 a ha⟩) h3 dL_cell__16
set_option maxHeartbeats 4000000 in
set_option maxRecDepth 100000 in
theorem wL_is {l : Launch} {E : GE} {sz lr : Nat} {cs : va_W} {X : va_W → Prop} {rm : Room} {fs : List Value} (a : Int32) {v : Int32} (o : Nat) (f : Nat → Int64) (hM : wrM l yX5_is wsX5_is rm E sz [.ref lr, .int a] cs (some (.int v)) X 0 0) (h0 : cs[0]? = some (lr, .inr (6, fs))) (hc : rm.cells = 0) (hs : rm.slots = 0) (hf : rm.frames ≤ 9) (hlo : rm.locals ≤ 200) : wrM l yL_is wsL_is ({ frames := 10, cells := 0, slots := 0, locals := 222 }) E sz [.ref lr, .int a, .ref o] (oC E o f :: cs) (some (.int 0)) (fun cs'' => ∃ cs', X cs' ∧ cs'' = oC E o (vp_updL f 0 v.toInt64) :: cs') 0 0 := by
  refine met_ofWH (cc := cL_is) (maxL := 4) (ret := some .int) (hh := [(0, 9, 12, 13)]) (by decide) rfl ?_
  intro p e s m args below meth c s₁ B hml htab hv0
  obtain ⟨rfl, hsz, hE, hP, hD0⟩ := hv0
  have hx := B.exec
  have hb := B.bytes
  have hr := B.returns
  have hts := atoms_spec (ws := wsL_is) B.pre
  have hown : s.vm.findClass RL = some m.cls := findClass_of_methodNamed B.named
  have hlocks := B.notSynchronized
  subst hsz
  have hl := lv_entry ([.ref lr, .int a, .ref o]) (n := 4) (Nat.le_of_ble_eq_true rfl)
  rw [lg_entry_eq]
  generalize (lg_sl ([.ref lr, .int a, .ref o]) ++ List.replicate (4 - (lg_sl ([.ref lr, .int a, .ref o])).length) Slot.unset).toArray = ls at hl ⊢
  have hl : lv_has ls 4 [(0, .ref lr), (1, .int a), (2, .ref o)] := hl
  refine lv_aload_n hx hb dL_is_0 rfl (lv_at hl 2 rfl) ?_
  refine lv_iconst (v := 0) hx hb dL_is_1 (by decide) ?_
  refine lv_aload_n hx hb dL_is_2 rfl (lv_at hl 0 rfl) ?_
  refine lv_iload_n hx hb dL_is_3 rfl (lv_at hl 1 rfl) ?_
  have hD := hD0.self (sz := s.heap.size)
  generalize hAe : va_A (oC E o f :: cs) s.heap.size = A at hD ⊢
  have hA : ∀ q : Nat, s.heap.size ≤ q → A q := fun q h => by rw [← hAe]; exact Or.inr h
  have hS : va_S A s.heap s.heap [] := va_S.rf
  have hPc : va_P E.1 vwCl cs s.heap := wP_mem.mpr (fun q hq => wP_mem.mp hP q (List.mem_cons_of_mem _ hq))
  have hDc : va_D A cs := by obtain ⟨n1, n2⟩ := wD_nd.mp hD; exact wD_nd.mpr ⟨(List.nodup_cons.mp n1).2, fun q hq => n2 q (List.mem_cons_of_mem _ hq)⟩
  refine wr_callP (rest := [.int 0, .ref o]) (va_runV (As := [.int a]) (rest := [.int 0, .ref o]) (g := F0 m 4 ls [.int a, .ref lr, .int 0, .ref o]) ⟨hx, hb, hml, hown, hts⟩ hM (cwV 1 hts gL_is_X5_is rfl hc hs (by decide +kernel) ⟨by show rm.frames + 1 ≤ 10; omega, by show 8 + (2 + 11) + rm.locals ≤ 222; omega⟩) ⟨wr_blind, va_recv hE.1 hPc (ci := 6) (q0 := 0) rfl h0, wr_pre hE hPc hDc⟩ rfl rfl hl.1 rfl (lv_room (Nat.le_of_ble_eq_true rfl)) dL_is_4 ⟨Nat.zero_le _, Nat.zero_le _⟩) (wP_perm hP capps) (wD_perm hD capps) hS hA (fun cs' H1 locs1 hX hP1 hD1 hS1 _ _ => ?_)
  have hP1 : va_P E.1 vwCl (oC E o f :: cs') H1 := wP_perm hP1 capps.symm
  have hD1 : va_D A (oC E o f :: cs') := wD_perm hD1 capps.symm
  refine lv_i2l hx hb dL_is_7 rfl ?_
  refine va_last (D := E.1) (tys := tyL E) hx hb hE.1 hP1 hD1 hS1 0 3 rfl rfl (i := 0) (pk_in 0 1 (by decide)) dL_is_8 (fun H2 locs2 hP2 hD2 hS2 => ?_)
  have hP2 : va_P E.1 vwCl (oC E o (vp_updL f 0 v.toInt64) :: cs') H2 := hP2
  have hD2 : va_D A (oC E o (vp_updL f 0 v.toInt64) :: cs') := hD2
  refine lv_goto (tgt := 15) hx hb dL_is_9 (by decide) ?_
  refine lv_iconst (v := 0) hx hb dL_is_15 (by decide) ?_
  exact W.iret (v := 0) hx hb hr (fun t9 ht9 hW => ⟨⟨rfl, oC E o (vp_updL f 0 v.toInt64) :: cs', ⟨cs', hX, rfl⟩, by rw [ht9]; exact hP2, hD2⟩, hS2.F ht9⟩) hS2.2.2 dL_is_16
set_option maxHeartbeats 4000000 in
set_option maxRecDepth 100000 in
theorem bL_is {l : Launch} {E : GE} {sz lr : Nat} {cs : va_W} {rm : Room} {fs : List Value} (a : Int32) (o : Nat) (hM : txM l yX5_is (wsX5_is ++ tW) rm E sz [.ref lr, .int a] cs eA) (h0 : cs[0]? = some (lr, .inr (6, fs))) (hc : rm.cells = 1) (hs : rm.slots = 6) (hf : rm.frames ≤ 9) (hlo : rm.locals ≤ 200) : bdM l yL_is (wsL_is ++ tW) ({ frames := 10, cells := 1, slots := 6, locals := 222 }) E sz [.ref lr, .int a, .ref o] cs 1 := by
  refine met_ofWH (cc := cL_is) (maxL := 4) (ret := some .int) (hh := [(0, 9, 12, 13)]) (by decide) rfl ?_
  intro p e s m args below meth c s₁ B hml htab hv0
  obtain ⟨rfl, hsz, hE, hP, hT⟩ := hv0
  have hx := B.exec
  have hb := B.bytes
  have hr := B.returns
  have hts := atoms_spec (ws := wsL_is ++ tW) B.pre
  have hown : s.vm.findClass RL = some m.cls := findClass_of_methodNamed B.named
  have hlocks := B.notSynchronized
  subst hsz
  have hl := lv_entry ([.ref lr, .int a, .ref o]) (n := 4) (Nat.le_of_ble_eq_true rfl)
  rw [lg_entry_eq]
  generalize (lg_sl ([.ref lr, .int a, .ref o]) ++ List.replicate (4 - (lg_sl ([.ref lr, .int a, .ref o])).length) Slot.unset).toArray = ls at hl ⊢
  have hl : lv_has ls 4 [(0, .ref lr), (1, .int a), (2, .ref o)] := hl
  refine lv_aload_n hx hb dL_is_0 rfl (lv_at hl 2 rfl) ?_
  refine lv_iconst (v := 0) hx hb dL_is_1 (by decide) ?_
  refine lv_aload_n hx hb dL_is_2 rfl (lv_at hl 0 rfl) ?_
  refine lv_iload_n hx hb dL_is_3 rfl (lv_at hl 1 rfl) ?_
  refine tx_call (rest := [.int 0, .ref o]) (vx_runV (As := [.int a]) (rest := [.int 0, .ref o]) (g := F0 m 4 ls [.int a, .ref lr, .int 0, .ref o]) ⟨hx, hb, hml, hown, hts⟩ hM (cwV 1 hts (goodTV gL_is_X5_is) rfl hc hs (by decide +kernel) ⟨by show rm.frames + 1 ≤ 10; omega, by show 8 + (2 + 11) + rm.locals ≤ 222; omega⟩) ⟨tx_blind, va_recv hE.1 hP (ci := 6) (q0 := 0) rfl h0, tx_pre hE hP hT (fun q h => h)⟩ rfl rfl hl.1 rfl (lv_room (Nat.le_of_ble_eq_true rfl)) dL_is_4 ⟨Nat.le_refl _, Nat.le_refl _⟩) (fun q0 ce0 H1 L1 h1 h2 h3 h4 h5 h6 => ?_)
  refine vx_catch (name := eA) hown [] ⟨0, 9, 12, 13⟩ [] htab (fun z hz => by cases hz) (by decide) (by decide) (hts (.classLink RL 13 eA) (List.mem_append_right _ (t1_in (by decide +kernel)))) (tV_use (w := .castable eA eA) (by decide +kernel) (hT.2.2.1 _ (by decide +kernel))) h4 h5 h6 ?_
  refine lv_astore_n hx hb dL_is_12 rfl hl (by decide) rfl (fun ls' hl' => ?_)
  refine lv_iconst (v := 1) hx hb dL_is_13 (by decide) ?_
  exact W.iret (v := 1) hx hb hr (fun t9 ht9 hW => ⟨rfl, by rw [ht9]; exact h1, fun a ha _ => by rw [ht9]; exact h2 a ha⟩) h3 dL_is_14
set_option maxHeartbeats 4000000 in
set_option maxRecDepth 100000 in
theorem wL_reason {l : Launch} {E : GE} {sz lr : Nat} {cs : va_W} {X : va_W → Prop} {rm : Room} {fs : List Value} (a : Int32) {v : Int32} (o : Nat) (f : Nat → Int64) (hM : wrM l yX5_reason wsX5_reason rm E sz [.ref lr, .int a] cs (some (.int v)) X 0 0) (h0 : cs[0]? = some (lr, .inr (6, fs))) (hc : rm.cells = 0) (hs : rm.slots = 0) (hf : rm.frames ≤ 9) (hlo : rm.locals ≤ 200) : wrM l yL_reason wsL_reason ({ frames := 10, cells := 0, slots := 0, locals := 222 }) E sz [.ref lr, .int a, .ref o] (oC E o f :: cs) (some (.int 0)) (fun cs'' => ∃ cs', X cs' ∧ cs'' = oC E o (vp_updL f 0 v.toInt64) :: cs') 0 0 := by
  refine met_ofWH (cc := cL_reason) (maxL := 4) (ret := some .int) (hh := [(0, 9, 12, 13)]) (by decide) rfl ?_
  intro p e s m args below meth c s₁ B hml htab hv0
  obtain ⟨rfl, hsz, hE, hP, hD0⟩ := hv0
  have hx := B.exec
  have hb := B.bytes
  have hr := B.returns
  have hts := atoms_spec (ws := wsL_reason) B.pre
  have hown : s.vm.findClass RL = some m.cls := findClass_of_methodNamed B.named
  have hlocks := B.notSynchronized
  subst hsz
  have hl := lv_entry ([.ref lr, .int a, .ref o]) (n := 4) (Nat.le_of_ble_eq_true rfl)
  rw [lg_entry_eq]
  generalize (lg_sl ([.ref lr, .int a, .ref o]) ++ List.replicate (4 - (lg_sl ([.ref lr, .int a, .ref o])).length) Slot.unset).toArray = ls at hl ⊢
  have hl : lv_has ls 4 [(0, .ref lr), (1, .int a), (2, .ref o)] := hl
  refine lv_aload_n hx hb dL_reason_0 rfl (lv_at hl 2 rfl) ?_
  refine lv_iconst (v := 0) hx hb dL_reason_1 (by decide) ?_
  refine lv_aload_n hx hb dL_reason_2 rfl (lv_at hl 0 rfl) ?_
  refine lv_iload_n hx hb dL_reason_3 rfl (lv_at hl 1 rfl) ?_
  have hD := hD0.self (sz := s.heap.size)
  generalize hAe : va_A (oC E o f :: cs) s.heap.size = A at hD ⊢
  have hA : ∀ q : Nat, s.heap.size ≤ q → A q := fun q h => by rw [← hAe]; exact Or.inr h
  have hS : va_S A s.heap s.heap [] := va_S.rf
  have hPc : va_P E.1 vwCl cs s.heap := wP_mem.mpr (fun q hq => wP_mem.mp hP q (List.mem_cons_of_mem _ hq))
  have hDc : va_D A cs := by obtain ⟨n1, n2⟩ := wD_nd.mp hD; exact wD_nd.mpr ⟨(List.nodup_cons.mp n1).2, fun q hq => n2 q (List.mem_cons_of_mem _ hq)⟩
  refine wr_callP (rest := [.int 0, .ref o]) (va_runV (As := [.int a]) (rest := [.int 0, .ref o]) (g := F0 m 4 ls [.int a, .ref lr, .int 0, .ref o]) ⟨hx, hb, hml, hown, hts⟩ hM (cwV 1 hts gL_reason_X5_reason rfl hc hs (by decide +kernel) ⟨by show rm.frames + 1 ≤ 10; omega, by show 8 + (2 + 11) + rm.locals ≤ 222; omega⟩) ⟨wr_blind, va_recv hE.1 hPc (ci := 6) (q0 := 0) rfl h0, wr_pre hE hPc hDc⟩ rfl rfl hl.1 rfl (lv_room (Nat.le_of_ble_eq_true rfl)) dL_reason_4 ⟨Nat.zero_le _, Nat.zero_le _⟩) (wP_perm hP capps) (wD_perm hD capps) hS hA (fun cs' H1 locs1 hX hP1 hD1 hS1 _ _ => ?_)
  have hP1 : va_P E.1 vwCl (oC E o f :: cs') H1 := wP_perm hP1 capps.symm
  have hD1 : va_D A (oC E o f :: cs') := wD_perm hD1 capps.symm
  refine lv_i2l hx hb dL_reason_7 rfl ?_
  refine va_last (D := E.1) (tys := tyL E) hx hb hE.1 hP1 hD1 hS1 0 3 rfl rfl (i := 0) (pk_in 0 1 (by decide)) dL_reason_8 (fun H2 locs2 hP2 hD2 hS2 => ?_)
  have hP2 : va_P E.1 vwCl (oC E o (vp_updL f 0 v.toInt64) :: cs') H2 := hP2
  have hD2 : va_D A (oC E o (vp_updL f 0 v.toInt64) :: cs') := hD2
  refine lv_goto (tgt := 15) hx hb dL_reason_9 (by decide) ?_
  refine lv_iconst (v := 0) hx hb dL_reason_15 (by decide) ?_
  exact W.iret (v := 0) hx hb hr (fun t9 ht9 hW => ⟨⟨rfl, oC E o (vp_updL f 0 v.toInt64) :: cs', ⟨cs', hX, rfl⟩, by rw [ht9]; exact hP2, hD2⟩, hS2.F ht9⟩) hS2.2.2 dL_reason_16
set_option maxHeartbeats 4000000 in
set_option maxRecDepth 100000 in
theorem bL_reason {l : Launch} {E : GE} {sz lr : Nat} {cs : va_W} {rm : Room} {fs : List Value} (a : Int32) (o : Nat) (hM : txM l yX5_reason (wsX5_reason ++ tW) rm E sz [.ref lr, .int a] cs eA) (h0 : cs[0]? = some (lr, .inr (6, fs))) (hc : rm.cells = 1) (hs : rm.slots = 6) (hf : rm.frames ≤ 9) (hlo : rm.locals ≤ 200) : bdM l yL_reason (wsL_reason ++ tW) ({ frames := 10, cells := 1, slots := 6, locals := 222 }) E sz [.ref lr, .int a, .ref o] cs 1 := by
  refine met_ofWH (cc := cL_reason) (maxL := 4) (ret := some .int) (hh := [(0, 9, 12, 13)]) (by decide) rfl ?_
  intro p e s m args below meth c s₁ B hml htab hv0
  obtain ⟨rfl, hsz, hE, hP, hT⟩ := hv0
  have hx := B.exec
  have hb := B.bytes
  have hr := B.returns
  have hts := atoms_spec (ws := wsL_reason ++ tW) B.pre
  have hown : s.vm.findClass RL = some m.cls := findClass_of_methodNamed B.named
  have hlocks := B.notSynchronized
  subst hsz
  have hl := lv_entry ([.ref lr, .int a, .ref o]) (n := 4) (Nat.le_of_ble_eq_true rfl)
  rw [lg_entry_eq]
  generalize (lg_sl ([.ref lr, .int a, .ref o]) ++ List.replicate (4 - (lg_sl ([.ref lr, .int a, .ref o])).length) Slot.unset).toArray = ls at hl ⊢
  have hl : lv_has ls 4 [(0, .ref lr), (1, .int a), (2, .ref o)] := hl
  refine lv_aload_n hx hb dL_reason_0 rfl (lv_at hl 2 rfl) ?_
  refine lv_iconst (v := 0) hx hb dL_reason_1 (by decide) ?_
  refine lv_aload_n hx hb dL_reason_2 rfl (lv_at hl 0 rfl) ?_
  refine lv_iload_n hx hb dL_reason_3 rfl (lv_at hl 1 rfl) ?_
  refine tx_call (rest := [.int 0, .ref o]) (vx_runV (As := [.int a]) (rest := [.int 0, .ref o]) (g := F0 m 4 ls [.int a, .ref lr, .int 0, .ref o]) ⟨hx, hb, hml, hown, hts⟩ hM (cwV 1 hts (goodTV gL_reason_X5_reason) rfl hc hs (by decide +kernel) ⟨by show rm.frames + 1 ≤ 10; omega, by show 8 + (2 + 11) + rm.locals ≤ 222; omega⟩) ⟨tx_blind, va_recv hE.1 hP (ci := 6) (q0 := 0) rfl h0, tx_pre hE hP hT (fun q h => h)⟩ rfl rfl hl.1 rfl (lv_room (Nat.le_of_ble_eq_true rfl)) dL_reason_4 ⟨Nat.le_refl _, Nat.le_refl _⟩) (fun q0 ce0 H1 L1 h1 h2 h3 h4 h5 h6 => ?_)
  refine vx_catch (name := eA) hown [] ⟨0, 9, 12, 13⟩ [] htab (fun z hz => by cases hz) (by decide) (by decide) (hts (.classLink RL 13 eA) (List.mem_append_right _ (t1_in (by decide +kernel)))) (tV_use (w := .castable eA eA) (by decide +kernel) (hT.2.2.1 _ (by decide +kernel))) h4 h5 h6 ?_
  refine lv_astore_n hx hb dL_reason_12 rfl hl (by decide) rfl (fun ls' hl' => ?_)
  refine lv_iconst (v := 1) hx hb dL_reason_13 (by decide) ?_
  exact W.iret (v := 1) hx hb hr (fun t9 ht9 hW => ⟨rfl, by rw [ht9]; exact h1, fun a ha _ => by rw [ht9]; exact h2 a ha⟩) h3 dL_reason_14
set_option maxHeartbeats 4000000 in
set_option maxRecDepth 100000 in
theorem wL_edge {l : Launch} {E : GE} {sz lr : Nat} {cs : va_W} {X : va_W → Prop} {rm : Room} {fs : List Value} (a : Int32) (z : Int32) {v : Int32} (o : Nat) (f : Nat → Int64) (hM : wrM l yX5_edge wsX5_edge rm E sz [.ref lr, .int a, .int z] cs (some (.int v)) X 0 0) (h0 : cs[0]? = some (lr, .inr (6, fs))) (hc : rm.cells = 0) (hs : rm.slots = 0) (hf : rm.frames ≤ 9) (hlo : rm.locals ≤ 200) : wrM l yL_edge wsL_edge ({ frames := 10, cells := 0, slots := 0, locals := 222 }) E sz [.ref lr, .int a, .int z, .ref o] (oC E o f :: cs) (some (.int 0)) (fun cs'' => ∃ cs', X cs' ∧ cs'' = oC E o (vp_updL f 0 (if v = 0 then 0 else 1)) :: cs') 0 0 := by
  refine met_ofWH (cc := cL_edge) (maxL := 5) (ret := some .int) (hh := [(0, 17, 20, 13)]) (by decide) rfl ?_
  intro p e s m args below meth c s₁ B hml htab hv0
  obtain ⟨rfl, hsz, hE, hP, hD0⟩ := hv0
  have hx := B.exec
  have hb := B.bytes
  have hr := B.returns
  have hts := atoms_spec (ws := wsL_edge) B.pre
  have hown : s.vm.findClass RL = some m.cls := findClass_of_methodNamed B.named
  have hlocks := B.notSynchronized
  subst hsz
  have hl := lv_entry ([.ref lr, .int a, .int z, .ref o]) (n := 5) (Nat.le_of_ble_eq_true rfl)
  rw [lg_entry_eq]
  generalize (lg_sl ([.ref lr, .int a, .int z, .ref o]) ++ List.replicate (5 - (lg_sl ([.ref lr, .int a, .int z, .ref o])).length) Slot.unset).toArray = ls at hl ⊢
  have hl : lv_has ls 5 [(0, .ref lr), (1, .int a), (2, .int z), (3, .ref o)] := hl
  refine lv_aload_n hx hb dL_edge_0 rfl (lv_at hl 3 rfl) ?_
  refine lv_iconst (v := 0) hx hb dL_edge_1 (by decide) ?_
  refine lv_aload_n hx hb dL_edge_2 rfl (lv_at hl 0 rfl) ?_
  refine lv_iload_n hx hb dL_edge_3 rfl (lv_at hl 1 rfl) ?_
  refine lv_iload_n hx hb dL_edge_4 rfl (lv_at hl 2 rfl) ?_
  have hD := hD0.self (sz := s.heap.size)
  generalize hAe : va_A (oC E o f :: cs) s.heap.size = A at hD ⊢
  have hA : ∀ q : Nat, s.heap.size ≤ q → A q := fun q h => by rw [← hAe]; exact Or.inr h
  have hS : va_S A s.heap s.heap [] := va_S.rf
  have hPc : va_P E.1 vwCl cs s.heap := wP_mem.mpr (fun q hq => wP_mem.mp hP q (List.mem_cons_of_mem _ hq))
  have hDc : va_D A cs := by obtain ⟨n1, n2⟩ := wD_nd.mp hD; exact wD_nd.mpr ⟨(List.nodup_cons.mp n1).2, fun q hq => n2 q (List.mem_cons_of_mem _ hq)⟩
  refine wr_callP (rest := [.int 0, .ref o]) (va_runV (As := [.int a, .int z]) (rest := [.int 0, .ref o]) (g := F0 m 5 ls [.int z, .int a, .ref lr, .int 0, .ref o]) ⟨hx, hb, hml, hown, hts⟩ hM (cwV 2 hts gL_edge_X5_edge rfl hc hs (by decide +kernel) ⟨by show rm.frames + 1 ≤ 10; omega, by show 8 + (3 + 11) + rm.locals ≤ 222; omega⟩) ⟨wr_blind, va_recv hE.1 hPc (ci := 6) (q0 := 0) rfl h0, wr_pre hE hPc hDc⟩ rfl rfl hl.1 rfl (lv_room (Nat.le_of_ble_eq_true rfl)) dL_edge_5 ⟨Nat.zero_le _, Nat.zero_le _⟩) (wP_perm hP capps) (wD_perm hD capps) hS hA (fun cs' H1 locs1 hX hP1 hD1 hS1 _ _ => ?_)
  have hP1 : va_P E.1 vwCl (oC E o f :: cs') H1 := wP_perm hP1 capps.symm
  have hD1 : va_D A (oC E o f :: cs') := wD_perm hD1 capps.symm
  refine lv_if_eq (tgt := 15) hx hb dL_edge_8 (by decide) (fun c_8 => ?_) (fun c_8 => ?_)
  · refine lv_lconst (v := 0) hx hb dL_edge_15 (by decide) ?_
    refine va_last (D := E.1) (tys := tyL E) hx hb hE.1 hP1 hD1 hS1 0 3 rfl rfl (i := 0) (pk_in 0 1 (by decide)) dL_edge_16 (fun H2 locs2 hP2 hD2 hS2 => ?_)
    have e9 : (if v = 0 then (0 : Int64) else 1) = 0 := if_pos c_8
    have hP2 : va_P E.1 vwCl (oC E o (vp_updL f 0 (if v = 0 then 0 else 1)) :: cs') H2 := by rw [e9]; exact hP2
    have hD2 : va_D A (oC E o (vp_updL f 0 (if v = 0 then 0 else 1)) :: cs') := by rw [e9]; exact hD2
    refine lv_goto (tgt := 24) hx hb dL_edge_17 (by decide) ?_
    refine lv_iconst (v := 0) hx hb dL_edge_24 (by decide) ?_
    exact W.iret (v := 0) hx hb hr (fun t9 ht9 hW => ⟨⟨rfl, oC E o (vp_updL f 0 (if v = 0 then 0 else 1)) :: cs', ⟨cs', hX, rfl⟩, by rw [ht9]; exact hP2, hD2⟩, hS2.F ht9⟩) hS2.2.2 dL_edge_25
  · refine lv_lconst (v := 1) hx hb dL_edge_11 (by decide) ?_
    refine lv_goto (tgt := 16) hx hb dL_edge_12 (by decide) ?_
    refine va_last (D := E.1) (tys := tyL E) hx hb hE.1 hP1 hD1 hS1 0 3 rfl rfl (i := 0) (pk_in 0 1 (by decide)) dL_edge_16 (fun H2 locs2 hP2 hD2 hS2 => ?_)
    have e9 : (if v = 0 then (0 : Int64) else 1) = 1 := if_neg c_8
    have hP2 : va_P E.1 vwCl (oC E o (vp_updL f 0 (if v = 0 then 0 else 1)) :: cs') H2 := by rw [e9]; exact hP2
    have hD2 : va_D A (oC E o (vp_updL f 0 (if v = 0 then 0 else 1)) :: cs') := by rw [e9]; exact hD2
    refine lv_goto (tgt := 24) hx hb dL_edge_17 (by decide) ?_
    refine lv_iconst (v := 0) hx hb dL_edge_24 (by decide) ?_
    exact W.iret (v := 0) hx hb hr (fun t9 ht9 hW => ⟨⟨rfl, oC E o (vp_updL f 0 (if v = 0 then 0 else 1)) :: cs', ⟨cs', hX, rfl⟩, by rw [ht9]; exact hP2, hD2⟩, hS2.F ht9⟩) hS2.2.2 dL_edge_25
set_option maxHeartbeats 4000000 in
set_option maxRecDepth 100000 in
theorem bL_edge {l : Launch} {E : GE} {sz lr : Nat} {cs : va_W} {rm : Room} {fs : List Value} (a : Int32) (z : Int32) (o : Nat) (hM : txM l yX5_edge (wsX5_edge ++ tW) rm E sz [.ref lr, .int a, .int z] cs eA) (h0 : cs[0]? = some (lr, .inr (6, fs))) (hc : rm.cells = 1) (hs : rm.slots = 6) (hf : rm.frames ≤ 9) (hlo : rm.locals ≤ 200) : bdM l yL_edge (wsL_edge ++ tW) ({ frames := 10, cells := 1, slots := 6, locals := 222 }) E sz [.ref lr, .int a, .int z, .ref o] cs 1 := by
  refine met_ofWH (cc := cL_edge) (maxL := 5) (ret := some .int) (hh := [(0, 17, 20, 13)]) (by decide) rfl ?_
  intro p e s m args below meth c s₁ B hml htab hv0
  obtain ⟨rfl, hsz, hE, hP, hT⟩ := hv0
  have hx := B.exec
  have hb := B.bytes
  have hr := B.returns
  have hts := atoms_spec (ws := wsL_edge ++ tW) B.pre
  have hown : s.vm.findClass RL = some m.cls := findClass_of_methodNamed B.named
  have hlocks := B.notSynchronized
  subst hsz
  have hl := lv_entry ([.ref lr, .int a, .int z, .ref o]) (n := 5) (Nat.le_of_ble_eq_true rfl)
  rw [lg_entry_eq]
  generalize (lg_sl ([.ref lr, .int a, .int z, .ref o]) ++ List.replicate (5 - (lg_sl ([.ref lr, .int a, .int z, .ref o])).length) Slot.unset).toArray = ls at hl ⊢
  have hl : lv_has ls 5 [(0, .ref lr), (1, .int a), (2, .int z), (3, .ref o)] := hl
  refine lv_aload_n hx hb dL_edge_0 rfl (lv_at hl 3 rfl) ?_
  refine lv_iconst (v := 0) hx hb dL_edge_1 (by decide) ?_
  refine lv_aload_n hx hb dL_edge_2 rfl (lv_at hl 0 rfl) ?_
  refine lv_iload_n hx hb dL_edge_3 rfl (lv_at hl 1 rfl) ?_
  refine lv_iload_n hx hb dL_edge_4 rfl (lv_at hl 2 rfl) ?_
  refine tx_call (rest := [.int 0, .ref o]) (vx_runV (As := [.int a, .int z]) (rest := [.int 0, .ref o]) (g := F0 m 5 ls [.int z, .int a, .ref lr, .int 0, .ref o]) ⟨hx, hb, hml, hown, hts⟩ hM (cwV 2 hts (goodTV gL_edge_X5_edge) rfl hc hs (by decide +kernel) ⟨by show rm.frames + 1 ≤ 10; omega, by show 8 + (3 + 11) + rm.locals ≤ 222; omega⟩) ⟨tx_blind, va_recv hE.1 hP (ci := 6) (q0 := 0) rfl h0, tx_pre hE hP hT (fun q h => h)⟩ rfl rfl hl.1 rfl (lv_room (Nat.le_of_ble_eq_true rfl)) dL_edge_5 ⟨Nat.le_refl _, Nat.le_refl _⟩) (fun q0 ce0 H1 L1 h1 h2 h3 h4 h5 h6 => ?_)
  refine vx_catch (name := eA) hown [] ⟨0, 17, 20, 13⟩ [] htab (fun z hz => by cases hz) (by decide) (by decide) (hts (.classLink RL 13 eA) (List.mem_append_right _ (t1_in (by decide +kernel)))) (tV_use (w := .castable eA eA) (by decide +kernel) (hT.2.2.1 _ (by decide +kernel))) h4 h5 h6 ?_
  refine lv_astore hx hb dL_edge_20 hl (by decide) rfl (fun ls' hl' => ?_)
  refine lv_iconst (v := 1) hx hb dL_edge_22 (by decide) ?_
  exact W.iret (v := 1) hx hb hr (fun t9 ht9 hW => ⟨rfl, by rw [ht9]; exact h1, fun a ha _ => by rw [ht9]; exact h2 a ha⟩) h3 dL_edge_23
set_option maxHeartbeats 4000000 in
set_option maxRecDepth 100000 in
theorem wL_shade {l : Launch} {E : GE} {sz lr : Nat} {cs : va_W} {X : va_W → Prop} {rm : Room} {fs : List Value} (a : Int32) (z : Int32) {v : Int32} (o : Nat) (f : Nat → Int64) (hM : wrM l yX5_shade wsX5_shade rm E sz [.ref lr, .int a, .int z] cs (some (.int v)) X 0 0) (h0 : cs[0]? = some (lr, .inr (6, fs))) (hc : rm.cells = 0) (hs : rm.slots = 0) (hf : rm.frames ≤ 9) (hlo : rm.locals ≤ 200) : wrM l yL_shade wsL_shade ({ frames := 10, cells := 0, slots := 0, locals := 222 }) E sz [.ref lr, .int a, .int z, .ref o] (oC E o f :: cs) (some (.int 0)) (fun cs'' => ∃ cs', X cs' ∧ cs'' = oC E o (vp_updL f 0 (if v = 0 then 0 else 1)) :: cs') 0 0 := by
  refine met_ofWH (cc := cL_shade) (maxL := 5) (ret := some .int) (hh := [(0, 17, 20, 13)]) (by decide) rfl ?_
  intro p e s m args below meth c s₁ B hml htab hv0
  obtain ⟨rfl, hsz, hE, hP, hD0⟩ := hv0
  have hx := B.exec
  have hb := B.bytes
  have hr := B.returns
  have hts := atoms_spec (ws := wsL_shade) B.pre
  have hown : s.vm.findClass RL = some m.cls := findClass_of_methodNamed B.named
  have hlocks := B.notSynchronized
  subst hsz
  have hl := lv_entry ([.ref lr, .int a, .int z, .ref o]) (n := 5) (Nat.le_of_ble_eq_true rfl)
  rw [lg_entry_eq]
  generalize (lg_sl ([.ref lr, .int a, .int z, .ref o]) ++ List.replicate (5 - (lg_sl ([.ref lr, .int a, .int z, .ref o])).length) Slot.unset).toArray = ls at hl ⊢
  have hl : lv_has ls 5 [(0, .ref lr), (1, .int a), (2, .int z), (3, .ref o)] := hl
  refine lv_aload_n hx hb dL_shade_0 rfl (lv_at hl 3 rfl) ?_
  refine lv_iconst (v := 0) hx hb dL_shade_1 (by decide) ?_
  refine lv_aload_n hx hb dL_shade_2 rfl (lv_at hl 0 rfl) ?_
  refine lv_iload_n hx hb dL_shade_3 rfl (lv_at hl 1 rfl) ?_
  refine lv_iload_n hx hb dL_shade_4 rfl (lv_at hl 2 rfl) ?_
  have hD := hD0.self (sz := s.heap.size)
  generalize hAe : va_A (oC E o f :: cs) s.heap.size = A at hD ⊢
  have hA : ∀ q : Nat, s.heap.size ≤ q → A q := fun q h => by rw [← hAe]; exact Or.inr h
  have hS : va_S A s.heap s.heap [] := va_S.rf
  have hPc : va_P E.1 vwCl cs s.heap := wP_mem.mpr (fun q hq => wP_mem.mp hP q (List.mem_cons_of_mem _ hq))
  have hDc : va_D A cs := by obtain ⟨n1, n2⟩ := wD_nd.mp hD; exact wD_nd.mpr ⟨(List.nodup_cons.mp n1).2, fun q hq => n2 q (List.mem_cons_of_mem _ hq)⟩
  refine wr_callP (rest := [.int 0, .ref o]) (va_runV (As := [.int a, .int z]) (rest := [.int 0, .ref o]) (g := F0 m 5 ls [.int z, .int a, .ref lr, .int 0, .ref o]) ⟨hx, hb, hml, hown, hts⟩ hM (cwV 2 hts gL_shade_X5_shade rfl hc hs (by decide +kernel) ⟨by show rm.frames + 1 ≤ 10; omega, by show 8 + (3 + 11) + rm.locals ≤ 222; omega⟩) ⟨wr_blind, va_recv hE.1 hPc (ci := 6) (q0 := 0) rfl h0, wr_pre hE hPc hDc⟩ rfl rfl hl.1 rfl (lv_room (Nat.le_of_ble_eq_true rfl)) dL_shade_5 ⟨Nat.zero_le _, Nat.zero_le _⟩) (wP_perm hP capps) (wD_perm hD capps) hS hA (fun cs' H1 locs1 hX hP1 hD1 hS1 _ _ => ?_)
  have hP1 : va_P E.1 vwCl (oC E o f :: cs') H1 := wP_perm hP1 capps.symm
  have hD1 : va_D A (oC E o f :: cs') := wD_perm hD1 capps.symm
  refine lv_if_eq (tgt := 15) hx hb dL_shade_8 (by decide) (fun c_8 => ?_) (fun c_8 => ?_)
  · refine lv_lconst (v := 0) hx hb dL_shade_15 (by decide) ?_
    refine va_last (D := E.1) (tys := tyL E) hx hb hE.1 hP1 hD1 hS1 0 3 rfl rfl (i := 0) (pk_in 0 1 (by decide)) dL_shade_16 (fun H2 locs2 hP2 hD2 hS2 => ?_)
    have e9 : (if v = 0 then (0 : Int64) else 1) = 0 := if_pos c_8
    have hP2 : va_P E.1 vwCl (oC E o (vp_updL f 0 (if v = 0 then 0 else 1)) :: cs') H2 := by rw [e9]; exact hP2
    have hD2 : va_D A (oC E o (vp_updL f 0 (if v = 0 then 0 else 1)) :: cs') := by rw [e9]; exact hD2
    refine lv_goto (tgt := 24) hx hb dL_shade_17 (by decide) ?_
    refine lv_iconst (v := 0) hx hb dL_shade_24 (by decide) ?_
    exact W.iret (v := 0) hx hb hr (fun t9 ht9 hW => ⟨⟨rfl, oC E o (vp_updL f 0 (if v = 0 then 0 else 1)) :: cs', ⟨cs', hX, rfl⟩, by rw [ht9]; exact hP2, hD2⟩, hS2.F ht9⟩) hS2.2.2 dL_shade_25
  · refine lv_lconst (v := 1) hx hb dL_shade_11 (by decide) ?_
    refine lv_goto (tgt := 16) hx hb dL_shade_12 (by decide) ?_
    refine va_last (D := E.1) (tys := tyL E) hx hb hE.1 hP1 hD1 hS1 0 3 rfl rfl (i := 0) (pk_in 0 1 (by decide)) dL_shade_16 (fun H2 locs2 hP2 hD2 hS2 => ?_)
    have e9 : (if v = 0 then (0 : Int64) else 1) = 1 := if_neg c_8
    have hP2 : va_P E.1 vwCl (oC E o (vp_updL f 0 (if v = 0 then 0 else 1)) :: cs') H2 := by rw [e9]; exact hP2
    have hD2 : va_D A (oC E o (vp_updL f 0 (if v = 0 then 0 else 1)) :: cs') := by rw [e9]; exact hD2
    refine lv_goto (tgt := 24) hx hb dL_shade_17 (by decide) ?_
    refine lv_iconst (v := 0) hx hb dL_shade_24 (by decide) ?_
    exact W.iret (v := 0) hx hb hr (fun t9 ht9 hW => ⟨⟨rfl, oC E o (vp_updL f 0 (if v = 0 then 0 else 1)) :: cs', ⟨cs', hX, rfl⟩, by rw [ht9]; exact hP2, hD2⟩, hS2.F ht9⟩) hS2.2.2 dL_shade_25
set_option maxHeartbeats 4000000 in
set_option maxRecDepth 100000 in
theorem bL_shade {l : Launch} {E : GE} {sz lr : Nat} {cs : va_W} {rm : Room} {fs : List Value} (a : Int32) (z : Int32) (o : Nat) (hM : txM l yX5_shade (wsX5_shade ++ tW) rm E sz [.ref lr, .int a, .int z] cs eA) (h0 : cs[0]? = some (lr, .inr (6, fs))) (hc : rm.cells = 1) (hs : rm.slots = 6) (hf : rm.frames ≤ 9) (hlo : rm.locals ≤ 200) : bdM l yL_shade (wsL_shade ++ tW) ({ frames := 10, cells := 1, slots := 6, locals := 222 }) E sz [.ref lr, .int a, .int z, .ref o] cs 1 := by
  refine met_ofWH (cc := cL_shade) (maxL := 5) (ret := some .int) (hh := [(0, 17, 20, 13)]) (by decide) rfl ?_
  intro p e s m args below meth c s₁ B hml htab hv0
  obtain ⟨rfl, hsz, hE, hP, hT⟩ := hv0
  have hx := B.exec
  have hb := B.bytes
  have hr := B.returns
  have hts := atoms_spec (ws := wsL_shade ++ tW) B.pre
  have hown : s.vm.findClass RL = some m.cls := findClass_of_methodNamed B.named
  have hlocks := B.notSynchronized
  subst hsz
  have hl := lv_entry ([.ref lr, .int a, .int z, .ref o]) (n := 5) (Nat.le_of_ble_eq_true rfl)
  rw [lg_entry_eq]
  generalize (lg_sl ([.ref lr, .int a, .int z, .ref o]) ++ List.replicate (5 - (lg_sl ([.ref lr, .int a, .int z, .ref o])).length) Slot.unset).toArray = ls at hl ⊢
  have hl : lv_has ls 5 [(0, .ref lr), (1, .int a), (2, .int z), (3, .ref o)] := hl
  refine lv_aload_n hx hb dL_shade_0 rfl (lv_at hl 3 rfl) ?_
  refine lv_iconst (v := 0) hx hb dL_shade_1 (by decide) ?_
  refine lv_aload_n hx hb dL_shade_2 rfl (lv_at hl 0 rfl) ?_
  refine lv_iload_n hx hb dL_shade_3 rfl (lv_at hl 1 rfl) ?_
  refine lv_iload_n hx hb dL_shade_4 rfl (lv_at hl 2 rfl) ?_
  refine tx_call (rest := [.int 0, .ref o]) (vx_runV (As := [.int a, .int z]) (rest := [.int 0, .ref o]) (g := F0 m 5 ls [.int z, .int a, .ref lr, .int 0, .ref o]) ⟨hx, hb, hml, hown, hts⟩ hM (cwV 2 hts (goodTV gL_shade_X5_shade) rfl hc hs (by decide +kernel) ⟨by show rm.frames + 1 ≤ 10; omega, by show 8 + (3 + 11) + rm.locals ≤ 222; omega⟩) ⟨tx_blind, va_recv hE.1 hP (ci := 6) (q0 := 0) rfl h0, tx_pre hE hP hT (fun q h => h)⟩ rfl rfl hl.1 rfl (lv_room (Nat.le_of_ble_eq_true rfl)) dL_shade_5 ⟨Nat.le_refl _, Nat.le_refl _⟩) (fun q0 ce0 H1 L1 h1 h2 h3 h4 h5 h6 => ?_)
  refine vx_catch (name := eA) hown [] ⟨0, 17, 20, 13⟩ [] htab (fun z hz => by cases hz) (by decide) (by decide) (hts (.classLink RL 13 eA) (List.mem_append_right _ (t1_in (by decide +kernel)))) (tV_use (w := .castable eA eA) (by decide +kernel) (hT.2.2.1 _ (by decide +kernel))) h4 h5 h6 ?_
  refine lv_astore hx hb dL_shade_20 hl (by decide) rfl (fun ls' hl' => ?_)
  refine lv_iconst (v := 1) hx hb dL_shade_22 (by decide) ?_
  exact W.iret (v := 1) hx hb hr (fun t9 ht9 hW => ⟨rfl, by rw [ht9]; exact h1, fun a ha _ => by rw [ht9]; exact h2 a ha⟩) h3 dL_shade_23
set_option maxHeartbeats 4000000 in
set_option maxRecDepth 100000 in
theorem wL_duty {l : Launch} {E : GE} {sz lr : Nat} {cs : va_W} {X : va_W → Prop} {rm : Room} {fs : List Value} (a : Int32) (z : Int32) {v : Int32} (o : Nat) (f : Nat → Int64) (hM : wrM l yX5_duty wsX5_duty rm E sz [.ref lr, .int a, .int z] cs (some (.int v)) X 0 0) (h0 : cs[0]? = some (lr, .inr (6, fs))) (hc : rm.cells = 0) (hs : rm.slots = 0) (hf : rm.frames ≤ 9) (hlo : rm.locals ≤ 200) : wrM l yL_duty wsL_duty ({ frames := 10, cells := 0, slots := 0, locals := 222 }) E sz [.ref lr, .int a, .int z, .ref o] (oC E o f :: cs) (some (.int 0)) (fun cs'' => ∃ cs', X cs' ∧ cs'' = oC E o (vp_updL f 0 (if v = 0 then 0 else 1)) :: cs') 0 0 := by
  refine met_ofWH (cc := cL_duty) (maxL := 5) (ret := some .int) (hh := [(0, 17, 20, 13), (0, 17, 24, 23)]) (by decide) rfl ?_
  intro p e s m args below meth c s₁ B hml htab hv0
  obtain ⟨rfl, hsz, hE, hP, hD0⟩ := hv0
  have hx := B.exec
  have hb := B.bytes
  have hr := B.returns
  have hts := atoms_spec (ws := wsL_duty) B.pre
  have hown : s.vm.findClass RL = some m.cls := findClass_of_methodNamed B.named
  have hlocks := B.notSynchronized
  subst hsz
  have hl := lv_entry ([.ref lr, .int a, .int z, .ref o]) (n := 5) (Nat.le_of_ble_eq_true rfl)
  rw [lg_entry_eq]
  generalize (lg_sl ([.ref lr, .int a, .int z, .ref o]) ++ List.replicate (5 - (lg_sl ([.ref lr, .int a, .int z, .ref o])).length) Slot.unset).toArray = ls at hl ⊢
  have hl : lv_has ls 5 [(0, .ref lr), (1, .int a), (2, .int z), (3, .ref o)] := hl
  refine lv_aload_n hx hb dL_duty_0 rfl (lv_at hl 3 rfl) ?_
  refine lv_iconst (v := 0) hx hb dL_duty_1 (by decide) ?_
  refine lv_aload_n hx hb dL_duty_2 rfl (lv_at hl 0 rfl) ?_
  refine lv_iload_n hx hb dL_duty_3 rfl (lv_at hl 1 rfl) ?_
  refine lv_iload_n hx hb dL_duty_4 rfl (lv_at hl 2 rfl) ?_
  have hD := hD0.self (sz := s.heap.size)
  generalize hAe : va_A (oC E o f :: cs) s.heap.size = A at hD ⊢
  have hA : ∀ q : Nat, s.heap.size ≤ q → A q := fun q h => by rw [← hAe]; exact Or.inr h
  have hS : va_S A s.heap s.heap [] := va_S.rf
  have hPc : va_P E.1 vwCl cs s.heap := wP_mem.mpr (fun q hq => wP_mem.mp hP q (List.mem_cons_of_mem _ hq))
  have hDc : va_D A cs := by obtain ⟨n1, n2⟩ := wD_nd.mp hD; exact wD_nd.mpr ⟨(List.nodup_cons.mp n1).2, fun q hq => n2 q (List.mem_cons_of_mem _ hq)⟩
  refine wr_callP (rest := [.int 0, .ref o]) (va_runV (As := [.int a, .int z]) (rest := [.int 0, .ref o]) (g := F0 m 5 ls [.int z, .int a, .ref lr, .int 0, .ref o]) ⟨hx, hb, hml, hown, hts⟩ hM (cwV 2 hts gL_duty_X5_duty rfl hc hs (by decide +kernel) ⟨by show rm.frames + 1 ≤ 10; omega, by show 8 + (3 + 11) + rm.locals ≤ 222; omega⟩) ⟨wr_blind, va_recv hE.1 hPc (ci := 6) (q0 := 0) rfl h0, wr_pre hE hPc hDc⟩ rfl rfl hl.1 rfl (lv_room (Nat.le_of_ble_eq_true rfl)) dL_duty_5 ⟨Nat.zero_le _, Nat.zero_le _⟩) (wP_perm hP capps) (wD_perm hD capps) hS hA (fun cs' H1 locs1 hX hP1 hD1 hS1 _ _ => ?_)
  have hP1 : va_P E.1 vwCl (oC E o f :: cs') H1 := wP_perm hP1 capps.symm
  have hD1 : va_D A (oC E o f :: cs') := wD_perm hD1 capps.symm
  refine lv_if_eq (tgt := 15) hx hb dL_duty_8 (by decide) (fun c_8 => ?_) (fun c_8 => ?_)
  · refine lv_lconst (v := 0) hx hb dL_duty_15 (by decide) ?_
    refine va_last (D := E.1) (tys := tyL E) hx hb hE.1 hP1 hD1 hS1 0 3 rfl rfl (i := 0) (pk_in 0 1 (by decide)) dL_duty_16 (fun H2 locs2 hP2 hD2 hS2 => ?_)
    have e9 : (if v = 0 then (0 : Int64) else 1) = 0 := if_pos c_8
    have hP2 : va_P E.1 vwCl (oC E o (vp_updL f 0 (if v = 0 then 0 else 1)) :: cs') H2 := by rw [e9]; exact hP2
    have hD2 : va_D A (oC E o (vp_updL f 0 (if v = 0 then 0 else 1)) :: cs') := by rw [e9]; exact hD2
    refine lv_goto (tgt := 28) hx hb dL_duty_17 (by decide) ?_
    refine lv_iconst (v := 0) hx hb dL_duty_28 (by decide) ?_
    exact W.iret (v := 0) hx hb hr (fun t9 ht9 hW => ⟨⟨rfl, oC E o (vp_updL f 0 (if v = 0 then 0 else 1)) :: cs', ⟨cs', hX, rfl⟩, by rw [ht9]; exact hP2, hD2⟩, hS2.F ht9⟩) hS2.2.2 dL_duty_29
  · refine lv_lconst (v := 1) hx hb dL_duty_11 (by decide) ?_
    refine lv_goto (tgt := 16) hx hb dL_duty_12 (by decide) ?_
    refine va_last (D := E.1) (tys := tyL E) hx hb hE.1 hP1 hD1 hS1 0 3 rfl rfl (i := 0) (pk_in 0 1 (by decide)) dL_duty_16 (fun H2 locs2 hP2 hD2 hS2 => ?_)
    have e9 : (if v = 0 then (0 : Int64) else 1) = 1 := if_neg c_8
    have hP2 : va_P E.1 vwCl (oC E o (vp_updL f 0 (if v = 0 then 0 else 1)) :: cs') H2 := by rw [e9]; exact hP2
    have hD2 : va_D A (oC E o (vp_updL f 0 (if v = 0 then 0 else 1)) :: cs') := by rw [e9]; exact hD2
    refine lv_goto (tgt := 28) hx hb dL_duty_17 (by decide) ?_
    refine lv_iconst (v := 0) hx hb dL_duty_28 (by decide) ?_
    exact W.iret (v := 0) hx hb hr (fun t9 ht9 hW => ⟨⟨rfl, oC E o (vp_updL f 0 (if v = 0 then 0 else 1)) :: cs', ⟨cs', hX, rfl⟩, by rw [ht9]; exact hP2, hD2⟩, hS2.F ht9⟩) hS2.2.2 dL_duty_29
set_option maxHeartbeats 4000000 in
set_option maxRecDepth 100000 in
theorem bL_duty {l : Launch} {E : GE} {sz lr : Nat} {cs : va_W} {rm : Room} {fs : List Value} (a : Int32) (z : Int32) (o : Nat) (hM : txM l yX5_duty (wsX5_duty ++ tW) rm E sz [.ref lr, .int a, .int z] cs eA) (h0 : cs[0]? = some (lr, .inr (6, fs))) (hc : rm.cells = 1) (hs : rm.slots = 6) (hf : rm.frames ≤ 9) (hlo : rm.locals ≤ 200) : bdM l yL_duty (wsL_duty ++ tW) ({ frames := 10, cells := 1, slots := 6, locals := 222 }) E sz [.ref lr, .int a, .int z, .ref o] cs 1 := by
  refine met_ofWH (cc := cL_duty) (maxL := 5) (ret := some .int) (hh := [(0, 17, 20, 13), (0, 17, 24, 23)]) (by decide) rfl ?_
  intro p e s m args below meth c s₁ B hml htab hv0
  obtain ⟨rfl, hsz, hE, hP, hT⟩ := hv0
  have hx := B.exec
  have hb := B.bytes
  have hr := B.returns
  have hts := atoms_spec (ws := wsL_duty ++ tW) B.pre
  have hown : s.vm.findClass RL = some m.cls := findClass_of_methodNamed B.named
  have hlocks := B.notSynchronized
  subst hsz
  have hl := lv_entry ([.ref lr, .int a, .int z, .ref o]) (n := 5) (Nat.le_of_ble_eq_true rfl)
  rw [lg_entry_eq]
  generalize (lg_sl ([.ref lr, .int a, .int z, .ref o]) ++ List.replicate (5 - (lg_sl ([.ref lr, .int a, .int z, .ref o])).length) Slot.unset).toArray = ls at hl ⊢
  have hl : lv_has ls 5 [(0, .ref lr), (1, .int a), (2, .int z), (3, .ref o)] := hl
  refine lv_aload_n hx hb dL_duty_0 rfl (lv_at hl 3 rfl) ?_
  refine lv_iconst (v := 0) hx hb dL_duty_1 (by decide) ?_
  refine lv_aload_n hx hb dL_duty_2 rfl (lv_at hl 0 rfl) ?_
  refine lv_iload_n hx hb dL_duty_3 rfl (lv_at hl 1 rfl) ?_
  refine lv_iload_n hx hb dL_duty_4 rfl (lv_at hl 2 rfl) ?_
  refine tx_call (rest := [.int 0, .ref o]) (vx_runV (As := [.int a, .int z]) (rest := [.int 0, .ref o]) (g := F0 m 5 ls [.int z, .int a, .ref lr, .int 0, .ref o]) ⟨hx, hb, hml, hown, hts⟩ hM (cwV 2 hts (goodTV gL_duty_X5_duty) rfl hc hs (by decide +kernel) ⟨by show rm.frames + 1 ≤ 10; omega, by show 8 + (3 + 11) + rm.locals ≤ 222; omega⟩) ⟨tx_blind, va_recv hE.1 hP (ci := 6) (q0 := 0) rfl h0, tx_pre hE hP hT (fun q h => h)⟩ rfl rfl hl.1 rfl (lv_room (Nat.le_of_ble_eq_true rfl)) dL_duty_5 ⟨Nat.le_refl _, Nat.le_refl _⟩) (fun q0 ce0 H1 L1 h1 h2 h3 h4 h5 h6 => ?_)
  refine vx_catch (name := eA) hown [] ⟨0, 17, 20, 13⟩ [⟨0, 17, 24, 23⟩] htab (fun z hz => by cases hz) (by decide) (by decide) (hts (.classLink RL 13 eA) (List.mem_append_right _ (t1_in (by decide +kernel)))) (tV_use (w := .castable eA eA) (by decide +kernel) (hT.2.2.1 _ (by decide +kernel))) h4 h5 h6 ?_
  refine lv_astore hx hb dL_duty_20 hl (by decide) rfl (fun ls' hl' => ?_)
  refine lv_iconst (v := 1) hx hb dL_duty_22 (by decide) ?_
  exact W.iret (v := 1) hx hb hr (fun t9 ht9 hW => ⟨rfl, by rw [ht9]; exact h1, fun a ha _ => by rw [ht9]; exact h2 a ha⟩) h3 dL_duty_23
set_option maxHeartbeats 4000000 in
set_option maxRecDepth 100000 in
theorem bL_duty2 {l : Launch} {E : GE} {sz lr : Nat} {cs : va_W} {rm : Room} {fs : List Value} (a : Int32) (z : Int32) (o : Nat) (hM : txM l yX5_duty (wsX5_duty ++ tW) rm E sz [.ref lr, .int a, .int z] cs eI) (h0 : cs[0]? = some (lr, .inr (6, fs))) (hc : rm.cells = 1) (hs : rm.slots = 6) (hf : rm.frames ≤ 9) (hlo : rm.locals ≤ 200) : bdM l yL_duty (wsL_duty ++ tW) ({ frames := 10, cells := 1, slots := 6, locals := 222 }) E sz [.ref lr, .int a, .int z, .ref o] cs 2 := by
  refine met_ofWH (cc := cL_duty) (maxL := 5) (ret := some .int) (hh := [(0, 17, 20, 13), (0, 17, 24, 23)]) (by decide) rfl ?_
  intro p e s m args below meth c s₁ B hml htab hv0
  obtain ⟨rfl, hsz, hE, hP, hT⟩ := hv0
  have hx := B.exec
  have hb := B.bytes
  have hr := B.returns
  have hts := atoms_spec (ws := wsL_duty ++ tW) B.pre
  have hown : s.vm.findClass RL = some m.cls := findClass_of_methodNamed B.named
  have hlocks := B.notSynchronized
  subst hsz
  have hl := lv_entry ([.ref lr, .int a, .int z, .ref o]) (n := 5) (Nat.le_of_ble_eq_true rfl)
  rw [lg_entry_eq]
  generalize (lg_sl ([.ref lr, .int a, .int z, .ref o]) ++ List.replicate (5 - (lg_sl ([.ref lr, .int a, .int z, .ref o])).length) Slot.unset).toArray = ls at hl ⊢
  have hl : lv_has ls 5 [(0, .ref lr), (1, .int a), (2, .int z), (3, .ref o)] := hl
  refine lv_aload_n hx hb dL_duty_0 rfl (lv_at hl 3 rfl) ?_
  refine lv_iconst (v := 0) hx hb dL_duty_1 (by decide) ?_
  refine lv_aload_n hx hb dL_duty_2 rfl (lv_at hl 0 rfl) ?_
  refine lv_iload_n hx hb dL_duty_3 rfl (lv_at hl 1 rfl) ?_
  refine lv_iload_n hx hb dL_duty_4 rfl (lv_at hl 2 rfl) ?_
  refine tx_call (rest := [.int 0, .ref o]) (vx_runV (As := [.int a, .int z]) (rest := [.int 0, .ref o]) (g := F0 m 5 ls [.int z, .int a, .ref lr, .int 0, .ref o]) ⟨hx, hb, hml, hown, hts⟩ hM (cwV 2 hts (goodTV gL_duty_X5_duty) rfl hc hs (by decide +kernel) ⟨by show rm.frames + 1 ≤ 10; omega, by show 8 + (3 + 11) + rm.locals ≤ 222; omega⟩) ⟨tx_blind, va_recv hE.1 hP (ci := 6) (q0 := 0) rfl h0, tx_pre hE hP hT (fun q h => h)⟩ rfl rfl hl.1 rfl (lv_room (Nat.le_of_ble_eq_true rfl)) dL_duty_5 ⟨Nat.le_refl _, Nat.le_refl _⟩) (fun q0 ce0 H1 L1 h1 h2 h3 h4 h5 h6 => ?_)
  refine vx_catch (name := eI) hown [⟨0, 17, 20, 13⟩] ⟨0, 17, 24, 23⟩ [] htab (fun z hz => Or.inr (by rw [List.mem_singleton.mp hz]; exact ⟨by decide, eA, hts (.classLink RL 13 eA) (List.mem_append_right _ (t1_in (by decide +kernel))), hT.2.2.2.1⟩)) (by decide) (by decide) (hts (.classLink RL 23 eI) (List.mem_append_right _ (t1_in (by decide +kernel)))) (tV_use (w := .castable eI eI) (by decide +kernel) (hT.2.2.1 _ (by decide +kernel))) h4 h5 h6 ?_
  refine lv_astore hx hb dL_duty_24 hl (by decide) rfl (fun ls' hl' => ?_)
  refine lv_iconst (v := 2) hx hb dL_duty_26 (by decide) ?_
  exact W.iret (v := 2) hx hb hr (fun t9 ht9 hW => ⟨rfl, by rw [ht9]; exact h1, fun a ha _ => by rw [ht9]; exact h2 a ha⟩) h3 dL_duty_27
set_option maxHeartbeats 4000000 in
set_option maxRecDepth 100000 in
theorem wL_told {l : Launch} {E : GE} {sz lr : Nat} {cs : va_W} {X : va_W → Prop} {rm : Room} {fs : List Value} (a : Int32) (hM : wrM l yX5_told wsX5_told rm E sz [.ref lr, .int a] cs (none) X 0 0) (h0 : cs[0]? = some (lr, .inr (6, fs))) (hc : rm.cells = 0) (hs : rm.slots = 0) (hf : rm.frames ≤ 9) (hlo : rm.locals ≤ 200) : wrM l yL_told wsL_told ({ frames := 10, cells := 0, slots := 0, locals := 222 }) E sz [.ref lr, .int a] cs (some (.int 0)) X 0 0 := by
  refine met_ofWH (cc := cL_told) (maxL := 3) (ret := some .int) (hh := [(0, 5, 8, 23)]) (by decide) rfl ?_
  intro p e s m args below meth c s₁ B hml htab hv0
  obtain ⟨rfl, hsz, hE, hP, hD0⟩ := hv0
  have hx := B.exec
  have hb := B.bytes
  have hr := B.returns
  have hts := atoms_spec (ws := wsL_told) B.pre
  have hown : s.vm.findClass RL = some m.cls := findClass_of_methodNamed B.named
  have hlocks := B.notSynchronized
  subst hsz
  have hl := lv_entry ([.ref lr, .int a]) (n := 3) (Nat.le_of_ble_eq_true rfl)
  rw [lg_entry_eq]
  generalize (lg_sl ([.ref lr, .int a]) ++ List.replicate (3 - (lg_sl ([.ref lr, .int a])).length) Slot.unset).toArray = ls at hl ⊢
  have hl : lv_has ls 3 [(0, .ref lr), (1, .int a)] := hl
  refine lv_aload_n hx hb dL_told_0 rfl (lv_at hl 0 rfl) ?_
  refine lv_iload_n hx hb dL_told_1 rfl (lv_at hl 1 rfl) ?_
  have hD := hD0.self (sz := s.heap.size)
  generalize hAe : va_A cs s.heap.size = A at hD ⊢
  have hA : ∀ q : Nat, s.heap.size ≤ q → A q := fun q h => by rw [← hAe]; exact Or.inr h
  have hS : va_S A s.heap s.heap [] := va_S.rf
  have hPc : va_P E.1 vwCl cs s.heap := hP
  have hDc : va_D A cs := hD
  refine wr_callP (rest := []) (va_runV (As := [.int a]) (rest := []) (g := F0 m 2 ls [.int a, .ref lr]) ⟨hx, hb, hml, hown, hts⟩ hM (cwV 1 hts gL_told_X5_told rfl hc hs (by decide +kernel) ⟨by show rm.frames + 1 ≤ 10; omega, by show 8 + (2 + 11) + rm.locals ≤ 222; omega⟩) ⟨wr_blind, va_recv hE.1 hPc (ci := 6) (q0 := 0) rfl h0, wr_pre hE hPc hDc⟩ rfl rfl hl.1 rfl (lv_room (Nat.le_of_ble_eq_true rfl)) dL_told_2 ⟨Nat.zero_le _, Nat.zero_le _⟩) (wr := []) (by rw [List.append_nil]; exact hP) (by rw [List.append_nil]; exact hD) hS hA (fun cs' H1 locs1 hX hP1 hD1 hS1 _ _ => ?_)
  rw [List.append_nil] at hP1 hD1
  refine lv_goto (tgt := 11) hx hb dL_told_5 (by decide) ?_
  refine lv_iconst (v := 0) hx hb dL_told_11 (by decide) ?_
  exact W.iret (v := 0) hx hb hr (fun t9 ht9 hW => ⟨⟨rfl, cs', hX, by rw [ht9]; exact hP1, hD1⟩, hS1.F ht9⟩) hS1.2.2 dL_told_12
set_option maxHeartbeats 4000000 in
set_option maxRecDepth 100000 in
theorem bL_told {l : Launch} {E : GE} {sz lr : Nat} {cs : va_W} {rm : Room} {fs : List Value} (a : Int32) (hM : txM l yX5_told (wsX5_told ++ tW) rm E sz [.ref lr, .int a] cs eI) (h0 : cs[0]? = some (lr, .inr (6, fs))) (hc : rm.cells = 1) (hs : rm.slots = 6) (hf : rm.frames ≤ 9) (hlo : rm.locals ≤ 200) : bdM l yL_told (wsL_told ++ tW) ({ frames := 10, cells := 1, slots := 6, locals := 222 }) E sz [.ref lr, .int a] cs 1 := by
  refine met_ofWH (cc := cL_told) (maxL := 3) (ret := some .int) (hh := [(0, 5, 8, 23)]) (by decide) rfl ?_
  intro p e s m args below meth c s₁ B hml htab hv0
  obtain ⟨rfl, hsz, hE, hP, hT⟩ := hv0
  have hx := B.exec
  have hb := B.bytes
  have hr := B.returns
  have hts := atoms_spec (ws := wsL_told ++ tW) B.pre
  have hown : s.vm.findClass RL = some m.cls := findClass_of_methodNamed B.named
  have hlocks := B.notSynchronized
  subst hsz
  have hl := lv_entry ([.ref lr, .int a]) (n := 3) (Nat.le_of_ble_eq_true rfl)
  rw [lg_entry_eq]
  generalize (lg_sl ([.ref lr, .int a]) ++ List.replicate (3 - (lg_sl ([.ref lr, .int a])).length) Slot.unset).toArray = ls at hl ⊢
  have hl : lv_has ls 3 [(0, .ref lr), (1, .int a)] := hl
  refine lv_aload_n hx hb dL_told_0 rfl (lv_at hl 0 rfl) ?_
  refine lv_iload_n hx hb dL_told_1 rfl (lv_at hl 1 rfl) ?_
  refine tx_call (rest := []) (vx_runV (As := [.int a]) (rest := []) (g := F0 m 2 ls [.int a, .ref lr]) ⟨hx, hb, hml, hown, hts⟩ hM (cwV 1 hts (goodTV gL_told_X5_told) rfl hc hs (by decide +kernel) ⟨by show rm.frames + 1 ≤ 10; omega, by show 8 + (2 + 11) + rm.locals ≤ 222; omega⟩) ⟨tx_blind, va_recv hE.1 hP (ci := 6) (q0 := 0) rfl h0, tx_pre hE hP hT (fun q h => h)⟩ rfl rfl hl.1 rfl (lv_room (Nat.le_of_ble_eq_true rfl)) dL_told_2 ⟨Nat.le_refl _, Nat.le_refl _⟩) (fun q0 ce0 H1 L1 h1 h2 h3 h4 h5 h6 => ?_)
  refine vx_catch (name := eI) hown [] ⟨0, 5, 8, 23⟩ [] htab (fun z hz => by cases hz) (by decide) (by decide) (hts (.classLink RL 23 eI) (List.mem_append_right _ (t1_in (by decide +kernel)))) (tV_use (w := .castable eI eI) (by decide +kernel) (hT.2.2.1 _ (by decide +kernel))) h4 h5 h6 ?_
  refine lv_astore_n hx hb dL_told_8 rfl hl (by decide) rfl (fun ls' hl' => ?_)
  refine lv_iconst (v := 1) hx hb dL_told_9 (by decide) ?_
  exact W.iret (v := 1) hx hb hr (fun t9 ht9 hW => ⟨rfl, by rw [ht9]; exact h1, fun a ha _ => by rw [ht9]; exact h2 a ha⟩) h3 dL_told_10
