/-! THE METHODS OF THE CLASS WHERE THEY THROW. -/
section TXT
variable {p : Program} {l : Launch} {e : Env} {R : Room} {s : State} {m : MethodId} {args : Array Value} {below : List Frame} {meth : Method} {c : Code}
theorem tx_throw {cc : ByteArray} {pc : Nat} {ls : Array Slot} {rest : List Value} {ws : List Cond} {cls text : String} {names : List String} {ik is ic : Nat} (hx : p.tables.exec = Jvm.exec) (hb : c.code = cc) (hl0 : l.stackTraces = false) (hown : s.vm.findClass RX5 = some m.cls) (hts : ∀ w ∈ ws ++ tW, w.before args s = true) (hT : tx (fun q => s.heap.size ≤ q) s s.heap)
    (hat : ∀ w ∈ vx_atS RX5 ic cls names, w ∈ tW ∨ w ∈ tV) (hk : Cond.classLink RX5 ik cls ∈ tW) (hi : Cond.initialized cls ∈ tW) (hs : (is, text) ∈ tS) (hcls : Bundle.fit cls = true) (hnames : ∀ n ∈ names, Bundle.fit n = true) (hgood : ∀ w ∈ Cond.classLink RX5 ik cls :: Cond.initialized cls :: vx_atS RX5 ic cls names, vx_ot w = true)
    (hsize : ls.size = c.maxLocals) (d0 : decode cc pc = .ok (.new ik, 3)) (d3 : decode cc (pc + 3) = .ok (.dup, 1)) (d4 : decode cc (pc + 4) = .ok (.ldc is, 2)) (d6 : decode cc (pc + 6) = .ok (.invokespecial ic, 3)) (d9 : decode cc (pc + 9) = .ok (.athrow, 1))
    (htab : ∀ x ∈ c.exceptionTable.toList, False) (hRframes : names.length + 3 < R.frames) (hRlocals : (rest.map fun v => v.category).sum + (13 * (names.length + 1) + 43) ≤ R.locals) (hRcells : 1 ≤ R.cells) (hRslots : 6 ≤ R.slots) (hlocks : meth.locks = false) :
    W p l e R s m args below meth c s.heap [] 0 0 (vx_MQ below (fun _ _ _ _ => False) (txX cls s.heap.size) args s 1 6 (fun q => s.heap.size ≤ q)) (F0 m pc ls rest) := by
  obtain ⟨sa, hstr⟩ := hT.2.2.2.2 _ hs
  refine vx_throwS (A := fun q => s.heap.size ≤ q) (text := text) (sa := sa) (is := is) (ik := ik) (ic := ic) (cls := cls) (names := names) hx hb hl0 hown hcls hnames (hts _ (List.mem_append_right ws hk)) (hts _ (List.mem_append_right ws hi)) hstr (fun w hw => ?_) hgood hT.1 hT.2.1 va_S.rf hsize d0 d3 d4 d6 d9 (fun x hx => (htab x hx).elim) hRframes hRlocals (by omega) (by omega) hlocks (fun t _ hz hk => ⟨rfl, hz, fun q hq _ => hk q hq⟩) (fun z hz => by cases hz) (Nat.le_refl _) (Nat.le_refl _)
  rcases hat w hw with h | h
  · exact hts w (List.mem_append_right ws h)
  · exact tV_use h (hT.2.2.1 w h)
end TXT
theorem inT {L : List Cond} (h1 : ∀ w ∈ L.filter goodWord, w ∈ tW) (h2 : ∀ w ∈ L.filter (fun w => !goodWord w), w ∈ tV) : ∀ w ∈ L, w ∈ tW ∨ w ∈ tV := by
  intro w hw
  by_cases g : goodWord w = true
  · exact Or.inl (h1 w (List.mem_filter.mpr ⟨hw, g⟩))
  · refine Or.inr (h2 w (List.mem_filter.mpr ⟨hw, ?_⟩))
    simpa using g
theorem tA_in : ∀ w ∈ vx_atS RX5 184 eA nmA, w ∈ tW ∨ w ∈ tV := inT (fun w hw => List.mem_append_left _ (List.mem_append_left _ hw)) (fun w hw => List.mem_append_left _ (List.mem_append_left _ hw))
theorem tI_in : ∀ w ∈ vx_atS RX5 94 eI nmB, w ∈ tW ∨ w ∈ tV := inT (fun w hw => List.mem_append_left _ (List.mem_append_right _ (List.mem_append_left _ hw))) (fun w hw => List.mem_append_left _ (List.mem_append_right _ (List.mem_append_left _ hw)))
theorem tO_in : ∀ w ∈ vx_atS RX5 129 eO nmB, w ∈ tW ∨ w ∈ tV := inT (fun w hw => List.mem_append_left _ (List.mem_append_right _ (List.mem_append_right _ hw))) (fun w hw => List.mem_append_left _ (List.mem_append_right _ (List.mem_append_right _ hw)))
theorem tA_ok : ∀ w ∈ Cond.classLink RX5 180 eA :: Cond.initialized eA :: vx_atS RX5 184 eA nmA, vx_ot w = true := by decide +kernel
theorem tI_ok : ∀ w ∈ Cond.classLink RX5 90 eI :: Cond.initialized eI :: vx_atS RX5 94 eI nmB, vx_ot w = true := by decide +kernel
theorem tO_ok : ∀ w ∈ Cond.classLink RX5 125 eO :: Cond.initialized eO :: vx_atS RX5 129 eO nmB, vx_ot w = true := by decide +kernel
theorem t1_in {w : Cond} (h : w ∈ tW1) : w ∈ tW := List.mem_append_right _ h
theorem eA_fit : Bundle.fit eA = true ∧ ∀ n ∈ nmA, Bundle.fit n = true := by decide +kernel
theorem eI_fit : Bundle.fit eI = true ∧ ∀ n ∈ nmB, Bundle.fit n = true := by decide +kernel
theorem eO_fit : Bundle.fit eO = true ∧ ∀ n ∈ nmB, Bundle.fit n = true := by decide +kernel
