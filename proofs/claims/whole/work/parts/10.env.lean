/-! THE SURROUNDINGS that every contract takes as given: the tables (va_K) with the four array kinds, and the eight links of the nest. -/
abbrev GE : Type := va_G × (Nat → ClassId)
def NWs : List Cond := [.methodLinkNest RX0 55 yX5_holds RX5, .methodLinkNest RX0 34 yX5_only RX5, .methodLinkNest RX1 36 yX5_only RX5, .methodLinkNest RX2 130 yX5_least RX5, .methodLinkNest RX2 145 yX5_only RX5, .methodLinkNest RX2 184 yX5_holds RX5, .methodLinkNest RX3 60 yX5_holds RX5, .methodLinkNest RX3 64 yX5_only RX5, .arrayOver (.object RX3)]
def nw (U : State) : Prop := ∀ w ∈ NWs, va_Nw w U
abbrev tyL (E : GE) : List (ClassId × FieldType) := [(E.2 0, .int), (E.2 1, .boolean), (E.2 2, .object RX3), (E.2 3, .long)]
def ev (E : GE) (U : State) : Prop := va_K E.1 vwCl (tyL E) U ∧ nw U
theorem nw_warm {s U : State} (hW : s.WarmedH U.vm) (h : nw s) : nw U := by
  intro w hw
  have h0 := h w hw
  simp only [NWs, List.mem_cons, List.not_mem_nil, or_false] at hw
  rcases hw with rfl | rfl | rfl | rfl | rfl | rfl | rfl | rfl | rfl <;> first | exact va_Nw.warmM hW h0 | exact va_AO.moved hW.alike h0
theorem nw_same {u U : State} (hv : u.vm = U.vm) (h : nw u) : nw U := by
  intro w hw
  have h0 := h w hw
  simp only [NWs, List.mem_cons, List.not_mem_nil, or_false] at hw
  rcases hw with rfl | rfl | rfl | rfl | rfl | rfl | rfl | rfl | rfl <;> first | exact va_Nw.same rfl hv h0 | exact va_AO.moved (hv ▸ Vm.Alike.refl u.vm) h0
theorem ev_warm {E : GE} {s U : State} (hW : s.WarmedH U.vm) (h : ev E s) : ev E U := ⟨va_K.moved hW.alike h.1, nw_warm hW h.2⟩
theorem ev_calling {E : GE} {U : State} {g : JFrame} {mk : MethodId} {a : Array Value} (h : ev E U) : ev E (U.calling g mk a) := ⟨va_K.moved (u := U) (U := U.calling g mk a) (Vm.Alike.refl U.vm) h.1, nw_same (u := U) (U := U.calling g mk a) rfl h.2⟩
/-! READERS: methods that change nothing. What they need: the surroundings, and the cells cs in the heap (in any number, apart or not). -/
def rdP (E : GE) (cs : va_W) (U : State) : Prop := ev E U ∧ va_P E.1 vwCl cs U.heap
abbrev rdI (l : Launch) (y : MethodName) (ws : List Cond) (rm : Room) (E : GE) (av : List Value) (cs : va_W) (v : Int32) : Prop := Met l y ws rm (va_Pc av (rdP E cs)) (vp_Si (fun r => r = v)) 0 0 (fun _ => False)
abbrev rdL (l : Launch) (y : MethodName) (ws : List Cond) (rm : Room) (E : GE) (av : List Value) (cs : va_W) (v : Int64) : Prop := Met l y ws rm (va_Pc av (rdP E cs)) (vp_Sl (fun r => r = v)) 0 0 (fun _ => False)
theorem rd_blind {E : GE} {av : List Value} {cs : va_W} : FrameBlind (va_Pc av (rdP E cs)) := fun a U g mk q => ⟨q.1, ev_calling q.2.1, q.2.2⟩
section RD
variable {p : Program} {l : Launch} {e : Env} {R : Room} {s : State} {m : MethodId} {args : Array Value} {below : List Frame} {meth : Method} {c : Code} {H : Heap} {locs : List Loc} {cells slots : Nat} {Q : State → Prop}
variable {y : MethodName} {bytes cc : ByteArray} {maxL nL n index pc : Nat} {ret : Option FieldType} {ws : List Cond} {rm : Room} {Ts : List Cond} {own C host : String} {b : Addr} {As rest st0 : List Value} {ls : Array Slot} {E : GE} {cs : va_W}
theorem crVi {v : Int32} (S : CallFix p m c cc nL s args Ts own) (hE : ev E s) (hM : rdI l y ws rm E (.ref b :: As) cs v) (cw : CallW R s args own C index y bytes maxL ret ws rm 0 0 n) (hPc : va_P E.1 vwCl cs H) (hr : ∃ cellB : Cell, H[b]? = some cellB ∧ cellB.vm.isStatics = false ∧ s.vm.findClass C = some cellB.cls)
    (hn : As.length = n) (hsize : ls.size = nL) (hstack : st0 = As.reverse ++ .ref b :: rest) (hW : (rest.map fun v => v.category).sum ≤ 8) (hdg : decode cc pc = .ok (.invokevirtual index, 3)) (hf : cells ≤ R.cells ∧ slots ≤ R.slots)
    (kk : W p l e R s m args below meth c H locs cells slots Q (F0 m (pc + 3) ls (.int v :: rest))) : W p l e R s m args below meth c H locs cells slots Q (F0 m pc ls st0) :=
  vp_callSi (va_Run.run (va_runV (As := As) (rest := rest) (g := F0 m pc ls st0) S hM cw ⟨rd_blind, hr, fun U hU hW => ⟨rfl, ev_warm hW hE, by rw [hU]; exact hPc⟩⟩ rfl hn hsize hstack (lv_room hW) hdg hf)) (fun r hr => by subst hr; exact kk)
theorem crVl {v : Int64} (S : CallFix p m c cc nL s args Ts own) (hE : ev E s) (hM : rdL l y ws rm E (.ref b :: As) cs v) (cw : CallW R s args own C index y bytes maxL ret ws rm 0 0 n) (hPc : va_P E.1 vwCl cs H) (hr : ∃ cellB : Cell, H[b]? = some cellB ∧ cellB.vm.isStatics = false ∧ s.vm.findClass C = some cellB.cls)
    (hn : As.length = n) (hsize : ls.size = nL) (hstack : st0 = As.reverse ++ .ref b :: rest) (hW : (rest.map fun v => v.category).sum ≤ 8) (hdg : decode cc pc = .ok (.invokevirtual index, 3)) (hf : cells ≤ R.cells ∧ slots ≤ R.slots)
    (kk : W p l e R s m args below meth c H locs cells slots Q (F0 m (pc + 3) ls (.long v :: rest))) : W p l e R s m args below meth c H locs cells slots Q (F0 m pc ls st0) :=
  vp_callSl (va_Run.run (va_runV (As := As) (rest := rest) (g := F0 m pc ls st0) S hM cw ⟨rd_blind, hr, fun U hU hW => ⟨rfl, ev_warm hW hE, by rw [hU]; exact hPc⟩⟩ rfl hn hsize hstack (lv_room hW) hdg hf)) (fun r hr => by subst hr; exact kk)
theorem crSi {v : Int32} (S : CallFix p m c cc nL s args Ts own) (hE : ev E s) (hM : rdI l y ws rm E As cs v) (cw : CallB R s args own index y bytes maxL ret ws rm 0 0 n ∧ (Cond.static y).before args s = true) (hPc : va_P E.1 vwCl cs H)
    (hn : As.length = n) (hsize : ls.size = nL) (hstack : st0 = As.reverse ++ rest) (hW : (rest.map fun v => v.category).sum ≤ 8) (hdg : decode cc pc = .ok (.invokestatic index, 3)) (hf : cells ≤ R.cells ∧ slots ≤ R.slots)
    (kk : W p l e R s m args below meth c H locs cells slots Q (F0 m (pc + 3) ls (.int v :: rest))) : W p l e R s m args below meth c H locs cells slots Q (F0 m pc ls st0) :=
  vp_callSi (va_Run.run (va_runS (As := As) (rest := rest) (g := F0 m pc ls st0) S hM cw ⟨rd_blind, fun U hU hW => ⟨rfl, ev_warm hW hE, by rw [hU]; exact hPc⟩⟩ rfl hn hsize hstack (lv_room hW) hdg hf)) (fun r hr => by subst hr; exact kk)
theorem crSl {v : Int64} (S : CallFix p m c cc nL s args Ts own) (hE : ev E s) (hM : rdL l y ws rm E As cs v) (cw : CallB R s args own index y bytes maxL ret ws rm 0 0 n ∧ (Cond.static y).before args s = true) (hPc : va_P E.1 vwCl cs H)
    (hn : As.length = n) (hsize : ls.size = nL) (hstack : st0 = As.reverse ++ rest) (hW : (rest.map fun v => v.category).sum ≤ 8) (hdg : decode cc pc = .ok (.invokestatic index, 3)) (hf : cells ≤ R.cells ∧ slots ≤ R.slots)
    (kk : W p l e R s m args below meth c H locs cells slots Q (F0 m (pc + 3) ls (.long v :: rest))) : W p l e R s m args below meth c H locs cells slots Q (F0 m pc ls st0) :=
  vp_callSl (va_Run.run (va_runS (As := As) (rest := rest) (g := F0 m pc ls st0) S hM cw ⟨rd_blind, fun U hU hW => ⟨rfl, ev_warm hW hE, by rw [hU]; exact hPc⟩⟩ rfl hn hsize hstack (lv_room hW) hdg hf)) (fun r hr => by subst hr; exact kk)
theorem crNi {v : Int32} (S : CallFix p m c cc nL s args Ts own) (hE : ev E s) (hM : rdI l y ws rm E As cs v) (cw : va_CN R s args own index y host bytes maxL ret ws rm 0 0 n ∧ (Cond.static y).before args s = true ∧ True) (hPc : va_P E.1 vwCl cs H)
    (hn : As.length = n) (hsize : ls.size = nL) (hstack : st0 = As.reverse ++ rest) (hW : (rest.map fun v => v.category).sum ≤ 8) (hdg : decode cc pc = .ok (.invokestatic index, 3)) (hf : cells ≤ R.cells ∧ slots ≤ R.slots)
    (kk : W p l e R s m args below meth c H locs cells slots Q (F0 m (pc + 3) ls (.int v :: rest))) : W p l e R s m args below meth c H locs cells slots Q (F0 m pc ls st0) :=
  vp_callSi (va_Run.run (va_runSN (As := As) (rest := rest) (g := F0 m pc ls st0) S hM cw ⟨rd_blind, fun U hU hW => ⟨rfl, ev_warm hW hE, by rw [hU]; exact hPc⟩⟩ rfl hn hsize hstack (lv_room hW) hdg hf)) (fun r hr => by subst hr; exact kk)
theorem crNl {v : Int64} (S : CallFix p m c cc nL s args Ts own) (hE : ev E s) (hM : rdL l y ws rm E As cs v) (cw : va_CN R s args own index y host bytes maxL ret ws rm 0 0 n ∧ (Cond.static y).before args s = true ∧ True) (hPc : va_P E.1 vwCl cs H)
    (hn : As.length = n) (hsize : ls.size = nL) (hstack : st0 = As.reverse ++ rest) (hW : (rest.map fun v => v.category).sum ≤ 8) (hdg : decode cc pc = .ok (.invokestatic index, 3)) (hf : cells ≤ R.cells ∧ slots ≤ R.slots)
    (kk : W p l e R s m args below meth c H locs cells slots Q (F0 m (pc + 3) ls (.long v :: rest))) : W p l e R s m args below meth c H locs cells slots Q (F0 m pc ls st0) :=
  vp_callSl (va_Run.run (va_runSN (As := As) (rest := rest) (g := F0 m pc ls st0) S hM cw ⟨rd_blind, fun U hU hW => ⟨rfl, ev_warm hW hE, by rw [hU]; exact hPc⟩⟩ rfl hn hsize hstack (lv_room hW) hdg hf)) (fun r hr => by subst hr; exact kk)
end RD
/-! CELLS -/
abbrev cEd (q : Nat) (w : Int32) (r b : Int64) : Nat × va_E := (q, .inr (1, [.int w, .long r, .long b]))
abbrev cGr (q : Nat) (w h cc ec en : Int32) (ce : Int64) (al : Nat) : Nat × va_E := (q, .inr (2, [.int w, .int h, .int cc, .int ec, .int en, .long ce, .ref al]))
abbrev cSt (q on off : Nat) (mu ba bl wh : Int64) (to wr : Int32) : Nat × va_E := (q, .inr (4, [.ref on, .ref off, .long mu, .long ba, .long bl, .long wh, .int to, .int wr]))
abbrev cLg (q nu pl ce ch : Nat) (ct : Int32) : Nat × va_E := (q, .inr (5, [.ref nu, .ref pl, .ref ce, .ref ch, .int ct]))
abbrev cRu (q gr no lo op nf : Nat) (so tw one ne : Int64) (sp : Nat) : Nat × va_E := (q, .inr (3, [.ref gr, .ref no, .ref lo, .ref op, .ref nf, .long so, .long tw, .long one, .long ne, .ref sp]))
abbrev cLR (q gr no lo ru ma sa : Nat) (st : Int32) : Nat × va_E := (q, .inr (6, [.ref gr, .ref no, .ref lo, .ref ru, .ref ma, .ref sa, .int st]))
abbrev cIA (E : GE) (q n : Nat) (f : Nat → Int32) : Nat × va_E := (q, .inl (E.2 0, n, .inl f))
abbrev cZA (E : GE) (q n : Nat) (f : Nat → Int32) : Nat × va_E := (q, .inl (E.2 1, n, .inl f))
abbrev cSA (E : GE) (q n : Nat) (f : Nat → Option Nat) : Nat × va_E := (q, .inl (E.2 2, n, .inr (.inr (.inr (.inr f)))))
abbrev cJA (E : GE) (q n : Nat) (f : Nat → Int64) : Nat × va_E := (q, .inl (E.2 3, n, .inr (.inl f)))
def b2i (b : Bool) : Int32 := if b then 1 else 0
theorem b2i_t : b2i true = 1 := rfl
theorem b2i_f : b2i false = 0 := rfl
theorem b2i_nar (b : Bool) : narrow .boolean (.int (b2i b)) = .int (b2i b) := by cases b <;> rfl
theorem b2i_eq0 {b : Bool} : b2i b = 0 ↔ b = false := by cases b <;> simp [b2i]
section JN
variable {p : Program} {l : Launch} {e : Env} {R : Room} {s : State} {m : MethodId} {args : Array Value} {below : List Frame} {meth : Method} {c : Code} {H : Heap} {locs : List Loc} {cells slots : Nat} {Q : State → Prop}
variable {pc : Nat} {ls : Array Slot} {st0 : List Value}
/-- two roads that meet again at J with an int on the stack, of which P holds -/
theorem W_joinI {J : Nat} {rest : List Value} (P : Int32 → Prop) (K : ∀ v, P v → W p l e R s m args below meth c H locs cells slots Q (F0 m J ls (.int v :: rest))) (h : (∀ v, P v → W p l e R s m args below meth c H locs cells slots Q (F0 m J ls (.int v :: rest))) → W p l e R s m args below meth c H locs cells slots Q (F0 m pc ls st0)) : W p l e R s m args below meth c H locs cells slots Q (F0 m pc ls st0) := h K
theorem W_joinL {J : Nat} {rest : List Value} (P : Int64 → Prop) (K : ∀ v, P v → W p l e R s m args below meth c H locs cells slots Q (F0 m J ls (.long v :: rest))) (h : (∀ v, P v → W p l e R s m args below meth c H locs cells slots Q (F0 m J ls (.long v :: rest))) → W p l e R s m args below meth c H locs cells slots Q (F0 m pc ls st0)) : W p l e R s m args below meth c H locs cells slots Q (F0 m pc ls st0) := h K
/-- a loop whose body writes nothing: I n σ at its head with n rounds left at most, the locals as L σ says -/
theorem W_loopR {σ : Type} {J nL : Nat} (I : Nat → σ → Prop) (L : σ → List (Nat × Value)) (h0 : ∀ x, ¬ I 0 x)
    (body : ∀ n, (∀ x ls, I n x → lv_has ls nL (L x) → W p l e R s m args below meth c H locs cells slots Q (F0 m J ls [])) → ∀ x ls, I (n + 1) x → lv_has ls nL (L x) → W p l e R s m args below meth c H locs cells slots Q (F0 m J ls []))
    (n : Nat) (x : σ) (hI : I n x) (hl : lv_has ls nL (L x)) : W p l e R s m args below meth c H locs cells slots Q (F0 m J ls []) := by
  suffices h : ∀ n x ls, I n x → lv_has ls nL (L x) → W p l e R s m args below meth c H locs cells slots Q (F0 m J ls []) from h n x ls hI hl
  intro n
  induction n with
  | zero => exact fun x ls hI _ => absurd hI (h0 x)
  | succ n ih => exact fun x ls hI hl => body n ih x ls hI hl
/-- a loop whose body writes: the heap, too, is the loop's own -/
theorem W_loopW {σ : Type} {J nL : Nat} (I : Nat → σ → Heap → List Loc → Prop) (L : σ → List (Nat × Value)) (h0 : ∀ x H locs, ¬ I 0 x H locs)
    (body : ∀ n, (∀ x H locs ls, I n x H locs → lv_has ls nL (L x) → W p l e R s m args below meth c H locs cells slots Q (F0 m J ls [])) → ∀ x H locs ls, I (n + 1) x H locs → lv_has ls nL (L x) → W p l e R s m args below meth c H locs cells slots Q (F0 m J ls []))
    (n : Nat) (x : σ) (hI : I n x H locs) (hl : lv_has ls nL (L x)) : W p l e R s m args below meth c H locs cells slots Q (F0 m J ls []) := by
  suffices h : ∀ n x H locs ls, I n x H locs → lv_has ls nL (L x) → W p l e R s m args below meth c H locs cells slots Q (F0 m J ls []) from h n x H locs ls hI hl
  intro n
  induction n with
  | zero => exact fun x H locs ls hI _ => absurd hI (h0 x H locs)
  | succ n ih => exact fun x H locs ls hI hl => body n ih x H locs ls hI hl
end JN
/-! WRITERS: the cells cs become cells cs' of which X holds; the answer is r (none: void); nothing else that was there changes. -/
def wrP (E : GE) (sz : Nat) (cs : va_W) (U : State) : Prop := U.heap.size = sz ∧ ev E U ∧ va_P E.1 vwCl cs U.heap ∧ va_D (fun _ => True) cs
def wrQ (E : GE) (A : Nat → Prop) (r : Option Value) (X : va_W → Prop) : Array Value → State → Outcome → State → Prop := fun _ st oc t => (oc = .returned r ∧ ∃ cs' : va_W, X cs' ∧ va_P E.1 vwCl cs' t.heap ∧ va_D A cs') ∧ va_F A st t
abbrev wrM (l : Launch) (y : MethodName) (ws : List Cond) (rm : Room) (E : GE) (sz : Nat) (av : List Value) (cs : va_W) (r : Option Value) (X : va_W → Prop) (mc ms : Nat) : Prop := Met l y ws rm (va_Pc av (wrP E sz cs)) (wrQ E (va_A cs sz) r X) mc ms (va_A cs sz)
theorem wr_blind {E : GE} {sz : Nat} {av : List Value} {cs : va_W} : FrameBlind (va_Pc av (wrP E sz cs)) := fun a U g mk q => ⟨q.1, q.2.1, ev_calling q.2.2.1, q.2.2.2⟩
theorem wr_pre {E : GE} {cs : va_W} {av : List Value} {s : State} {H : Heap} {A : Nat → Prop} (hE : ev E s) (hP : va_P E.1 vwCl cs H) (hD : va_D A cs) : ∀ U : State, U.heap = H → s.WarmedH U.vm → va_Pc av (wrP E H.size cs) av.toArray U :=
  fun U hU hW => ⟨rfl, by rw [hU], ev_warm hW hE, by rw [hU]; exact hP, hD.weaken (fun _ _ _ _ => trivial)⟩
section WR
variable {p : Program} {l : Launch} {e : Env} {R : Room} {s : State} {m : MethodId} {args : Array Value} {below : List Frame} {meth : Method} {c : Code} {H : Heap} {locs : List Loc} {cells slots : Nat} {Q : State → Prop}
variable {y : MethodName} {bytes cc : ByteArray} {maxL nL n index pc mc ms : Nat} {ret : Option FieldType} {ws : List Cond} {rm : Room} {Ts : List Cond} {own C host : String} {b : Addr} {As rest st0 : List Value} {ls : Array Slot} {E : GE} {cs wr ww : va_W} {r : Option Value} {X : va_W → Prop} {A : Nat → Prop} {H0 : Heap}
theorem wr_call {a : Array Value} (hr : va_Run p l e R s m args below meth c H locs cells slots mc ms (F0 m pc ls st0) rest (wrQ E (va_A cs H.size) r X a) (va_A cs H.size)) (hP : va_P E.1 vwCl ww H) (hD : va_D A ww) (hS : va_S A H0 H locs) (hA : ∀ q, H0.size ≤ q → A q)
    (isC isR : List Nat) (hC : isC.map (fun i => ww[i]?) = cs.map some) (hR : isR.map (fun i => ww[i]?) = wr.map some) (hn : va_nd isR = true) (hdis : ∀ i ∈ isR, i ∉ isC)
    (kk : ∀ (cs' : va_W) (H1 : Heap) (locs1 : List Loc), X cs' → va_P E.1 vwCl (wr ++ cs') H1 → va_D A (wr ++ cs') → va_S A H0 H1 locs1 → W p l e R s m args below meth c H1 locs1 (cells + mc) (slots + ms) Q (F0 m (pc + 3) ls (r.toList ++ rest))) : W p l e R s m args below meth c H locs cells slots Q (F0 m pc ls st0) := by
  have hF := va_free (wc := cs) hD hS hA isC hC
  intro T hT XX
  obtain ⟨v, st₀, t, T', L, h0, X', hL, e1, e2, ⟨⟨hv, cs', hX, hP1, hD1⟩, hz, hk⟩, st⟩ := hr T hT XX
  cases hv
  rw [h0] at hz hk
  rw [← e1] at hz hk hP1
  obtain ⟨hP2, hD2⟩ := va_join (wr := wr) (w1 := cs') hP hD isC isR hC hR hn hdis hk hF hP1 hD1
  obtain ⟨t2, a1, b1⟩ := kk cs' T'.heap (locs ++ L) hX hP2 hD2
    ⟨Nat.le_trans hS.1 hz, fun q h1 h2 => by rw [hk q (Nat.lt_of_lt_of_le h1 hS.1) (fun z => h2 (hF q z))]; exact hS.2.1 q h1 h2, fun q hq => by
      rcases List.mem_append.mp hq with h | h
      · exact hS.2.2 q h
      · exact hF _ (hL q h)⟩ T' rfl X'
  exact ⟨t2, st t2 a1, b1⟩
theorem wrV (S : CallFix p m c cc nL s args Ts own) (hE : ev E s) (hM : wrM l y ws rm E H.size (.ref b :: As) cs r X mc ms) (cw : CallW R s args own C index y bytes maxL ret ws rm mc ms n) (hP : va_P E.1 vwCl ww H) (hD : va_D A ww) (hS : va_S A H0 H locs) (hA : ∀ q, H0.size ≤ q → A q)
    (isC isR : List Nat) (hC : isC.map (fun i => ww[i]?) = cs.map some) (hR : isR.map (fun i => ww[i]?) = wr.map some) (hn1 : va_nd isR = true) (hdis : ∀ i ∈ isR, i ∉ isC) (hPc : va_P E.1 vwCl cs H) (hDc : va_D A cs) (hr : ∃ cellB : Cell, H[b]? = some cellB ∧ cellB.vm.isStatics = false ∧ s.vm.findClass C = some cellB.cls)
    (hn : As.length = n) (hsize : ls.size = nL) (hstack : st0 = As.reverse ++ .ref b :: rest) (hW : (rest.map fun v => v.category).sum ≤ 8) (hdg : decode cc pc = .ok (.invokevirtual index, 3)) (hf : cells + mc ≤ R.cells ∧ slots + ms ≤ R.slots)
    (kk : ∀ (cs' : va_W) (H1 : Heap) (locs1 : List Loc), X cs' → va_P E.1 vwCl (wr ++ cs') H1 → va_D A (wr ++ cs') → va_S A H0 H1 locs1 → W p l e R s m args below meth c H1 locs1 (cells + mc) (slots + ms) Q (F0 m (pc + 3) ls (r.toList ++ rest))) : W p l e R s m args below meth c H locs cells slots Q (F0 m pc ls st0) :=
  wr_call (va_runV (As := As) (rest := rest) (g := F0 m pc ls st0) S hM cw ⟨wr_blind, hr, wr_pre hE hPc hDc⟩ rfl hn hsize hstack (lv_room hW) hdg hf) hP hD hS hA isC isR hC hR hn1 hdis kk
theorem wrI (S : CallFix p m c cc nL s args Ts own) (hE : ev E s) (hM : wrM l y ws rm E H.size (.ref b :: As) cs r X mc ms) (cw : CallB R s args own index y bytes maxL none ws rm mc ms n ∧ y.name = "<init>" ∧ (Cond.instanceMethod y).before args s = true) (hP : va_P E.1 vwCl ww H) (hD : va_D A ww) (hS : va_S A H0 H locs) (hA : ∀ q, H0.size ≤ q → A q)
    (isC isR : List Nat) (hC : isC.map (fun i => ww[i]?) = cs.map some) (hR : isR.map (fun i => ww[i]?) = wr.map some) (hn1 : va_nd isR = true) (hdis : ∀ i ∈ isR, i ∉ isC) (hPc : va_P E.1 vwCl cs H) (hDc : va_D A cs)
    (hn : As.length = n) (hsize : ls.size = nL) (hstack : st0 = As.reverse ++ .ref b :: rest) (hW : (rest.map fun v => v.category).sum ≤ 8) (hdg : decode cc pc = .ok (.invokespecial index, 3)) (hf : cells + mc ≤ R.cells ∧ slots + ms ≤ R.slots)
    (kk : ∀ (cs' : va_W) (H1 : Heap) (locs1 : List Loc), X cs' → va_P E.1 vwCl (wr ++ cs') H1 → va_D A (wr ++ cs') → va_S A H0 H1 locs1 → W p l e R s m args below meth c H1 locs1 (cells + mc) (slots + ms) Q (F0 m (pc + 3) ls (r.toList ++ rest))) : W p l e R s m args below meth c H locs cells slots Q (F0 m pc ls st0) :=
  wr_call (va_runI (As := As) (rest := rest) (g := F0 m pc ls st0) S hM cw ⟨wr_blind, wr_pre hE hPc hDc⟩ rfl hn hsize hstack (lv_room hW) hdg hf) hP hD hS hA isC isR hC hR hn1 hdis kk
end WR
