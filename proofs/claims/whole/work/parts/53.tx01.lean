/-! THE THROWS OF THE CLASS: their words, and what of the machine they look at. -/
abbrev eA : String := "java/lang/ArrayIndexOutOfBoundsException"
abbrev eI : String := "java/lang/IllegalArgumentException"
abbrev eO : String := "java/lang/IndexOutOfBoundsException"
abbrev nmA : List String := ["java/lang/IndexOutOfBoundsException", "java/lang/RuntimeException", "java/lang/Exception"]
abbrev nmB : List String := ["java/lang/RuntimeException", "java/lang/Exception"]
def atA : List Cond := vx_atS RX5 184 eA nmA
def atI : List Cond := vx_atS RX5 94 eI nmB
def atO : List Cond := vx_atS RX5 129 eO nmB
def tW1 : List Cond := [.classLink RX5 180 eA, .initialized eA, .classLink RX5 90 eI, .initialized eI, .classLink RX5 125 eO, .initialized eO, .classLink RL 13 eA, .classLink RL 23 eI, .classLink RL 36 eO]
def tS : List (Nat × String) := [(182, "there is no such edge"), (188, "there is no such cell"), (92, "a duty is 0 to 2"), (109, "what is told is -1 to 64"), (127, "there is no such step"), (130, "nothing of a step is below 0")]
def tW : List Cond := (atA.filter goodWord ++ (atI.filter goodWord ++ atO.filter goodWord)) ++ tW1
def tV : List Cond := (atA.filter (fun w => !goodWord w) ++ (atI.filter (fun w => !goodWord w) ++ atO.filter (fun w => !goodWord w))) ++ [.castable eA eA, .castable eI eI, .castable eO eO]
theorem tW_good : tW.all goodWord = true := by decide +kernel
def isDC : Cond → Bool
  | .declares _ => true
  | .castable _ _ => true
  | _ => false
theorem tV_dc : tV.all isDC = true := by decide +kernel
theorem tV_warm {w : Cond} (hw : w ∈ tV) {s U : State} (hW : s.WarmedH U.vm) (h : va_Nw w s) : va_Nw w U := by
  have := List.all_eq_true.mp tV_dc w hw
  match w, this with
  | .declares _, _ => exact va_Nw.warmD hW h
  | .castable _ _, _ => exact va_Nw.warmC hW h
theorem tV_use {w : Cond} (hw : w ∈ tV) {A : Array Value} {U : State} (h : va_Nw w U) : w.before A U = true := by
  have := List.all_eq_true.mp tV_dc w hw
  match w, this with
  | .declares _, _ => exact va_Nw.use rfl h
  | .castable _ _, _ => exact va_Nw.use rfl h
def tx (A : Nat → Prop) (U : State) (H : Heap) : Prop := vx_Zq Bundle.tN "UNASSIGNED_STACK" Bundle.steD A U H ∧ vx_Zq Bundle.tN "SUPPRESSED_SENTINEL" Bundle.listD A U H ∧ (∀ w ∈ tV, va_Nw w U) ∧ va_Nc eI eA U ∧ ∀ x ∈ tS, ∃ sa, vk_R RX5 x.1 x.2 sa U
theorem tx_warm {A : Nat → Prop} {s U : State} {H : Heap} (hW : s.WarmedH U.vm) (h : tx A s H) : tx A U H := ⟨h.1.moved hW.alike, h.2.1.moved hW.alike, fun w hw => tV_warm hw hW (h.2.2.1 w hw), h.2.2.2.1.moved hW.alike, fun x hx => (h.2.2.2.2 x hx).imp (fun _ q => vk_R.warm hW q)⟩
theorem tx_kept {A : Nat → Prop} {U : State} {H H1 : Heap} (h : tx A U H) (hq : ∀ a : Nat, a < H.size → ¬ A a → H1[a]? = H[a]?) : tx A U H1 := ⟨h.1.kept hq, h.2.1.kept hq, h.2.2⟩
theorem tx_narrow {A B : Nat → Prop} {U : State} {H : Heap} (h : tx A U H) (hAB : ∀ q, B q → A q) : tx B U H := ⟨h.1.narrow hAB, h.2.1.narrow hAB, h.2.2⟩
def txP (E : GE) (sz : Nat) (cs : va_W) (U : State) : Prop := U.heap.size = sz ∧ ev E U ∧ va_P E.1 vwCl cs U.heap ∧ tx (fun q => sz ≤ q) U U.heap
def txX (cls : String) (sz : Nat) : String → State → State → Prop := fun Ec st t => Ec = cls ∧ va_F (fun q => sz ≤ q) st t
abbrev txM (l : Launch) (y : MethodName) (ws : List Cond) (rm : Room) (E : GE) (sz : Nat) (av : List Value) (cs : va_W) (cls : String) : Prop := vx_Met l y ws rm (va_Pc av (txP E sz cs)) (fun _ _ _ _ => False) (txX cls sz) 1 6 (fun q => sz ≤ q)
theorem tx_blind {E : GE} {sz : Nat} {av : List Value} {cs : va_W} : FrameBlind (va_Pc av (txP E sz cs)) := fun a U g mk q => ⟨q.1, q.2.1, ev_calling q.2.2.1, q.2.2.2.1, tx_warm (s := U) (U := U.calling g mk a) (State.WarmedH.refl U) q.2.2.2.2⟩
theorem tx_pre {E : GE} {cs : va_W} {av : List Value} {s : State} {H : Heap} {A : Nat → Prop} (hE : ev E s) (hP : va_P E.1 vwCl cs H) (hT : tx A s H) (hA : ∀ q, H.size ≤ q → A q) : ∀ U : State, U.heap = H → s.WarmedH U.vm → va_Pc av (txP E H.size cs) av.toArray U :=
  fun U hU hW => ⟨rfl, by rw [hU], ev_warm hW hE, by rw [hU]; exact hP, by rw [hU]; exact tx_narrow (tx_warm hW hT) hA⟩
theorem goodT {a x t : List Cond} (h : GoodIn a x) (ht : t.all goodWord = true) : GoodIn (a ++ t) (x ++ t) := goodIn_app (fun w hw => ⟨List.mem_append_left _ (h w hw).1, (h w hw).2⟩) (goodIn_sub (fun w hw => List.mem_append_right _ hw) ht)
theorem wsV_app {own C : String} {i : Nat} {y : MethodName} {b t : List Cond} : wsV own i C y (b ++ t) = wsV own i C y b ++ t := by unfold wsV; rw [List.append_assoc]
theorem goodTV {own C : String} {i : Nat} {y : MethodName} {a b : List Cond} (h : GoodIn a (wsV own i C y b)) : GoodIn (a ++ tW) (wsV own i C y (b ++ tW)) := by rw [wsV_app]; exact goodT h tW_good
section TX
variable {p : Program} {l : Launch} {e : Env} {R : Room} {s : State} {m : MethodId} {args : Array Value} {below : List Frame} {meth : Method} {c : Code} {H : Heap} {locs : List Loc} {cells slots : Nat} {Q : State → Prop}
/-- a callee that throws, whatever comes then -/
theorem tx_call {pc : Nat} {ls : Array Slot} {st0 rest : List Value} {cls : String} (hr : vx_Run p l e R s m args below meth c H locs cells slots 1 6 (F0 m pc ls st0) rest (fun _ _ _ => False) (txX cls H.size) (fun q => H.size ≤ q))
    (kk : ∀ (q : Addr) (ce : Cell) (H1 : Heap) (L : List Loc), H.size ≤ H1.size → (∀ a : Nat, a < H.size → H1[a]? = H[a]?) → (∀ z ∈ L, H.size ≤ z.base) → H1[q]? = some ce → ce.vm = .none → s.vm.findClass cls = some ce.cls → vx_W p l e R s m args below meth c H1 (locs ++ L) (cells + 1) (slots + 6) Q (F0 m pc ls rest) q) : W p l e R s m args below meth c H locs cells slots Q (F0 m pc ls st0) := by
  intro T hT X
  rcases hr T hT X with ⟨v, st₀, t, T', L, -, -, -, -, -, hF, -⟩ | ⟨q, st₀, t, T', L, Ec, ce, h0, X', hL, e1, e2, ⟨rfl, hz, hk⟩, hc, hv, hcl, st⟩
  · exact hF.elim
  · rw [h0] at hz hk
    obtain ⟨t2, a1, b1⟩ := kk q ce T'.heap L (by rw [e1]; exact hz) (fun a ha => by rw [e1]; exact hk a ha (by omega)) hL (by rw [e1]; exact hc) hv hcl T' rfl X'
    exact ⟨t2, st.trans a1, b1⟩
end TX
