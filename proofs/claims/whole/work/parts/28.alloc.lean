/-! NEW ARRAYS, their class being the one that the surroundings name. -/
theorem al_cls {E : GE} {cA : ClassId} {ty : FieldType} {k : Nat} {s : State} (h : va_K E.1 vwCl (tyL E ++ [(cA, ty)]) s) (hk : (tyL E)[k]? = some (E.2 k, ty)) (hty : ∀ C, ty ≠ .object C) : cA = E.2 k := by
  have h1 := (h.2 4 (cA, ty) rfl).2
  have hlt : k < (tyL E).length := (List.getElem?_eq_some_iff.mp hk).1
  have h2 := (h.2 k (E.2 k, ty) (by rw [List.getElem?_append_left hlt]; exact hk)).2
  have e1 : s.vm.findClass ("[" ++ ty.toString) = some cA := by
    cases ty <;> first | exact h1 | exact absurd rfl (hty _)
  have e2 : s.vm.findClass ("[" ++ ty.toString) = some (E.2 k) := by
    cases ty <;> first | exact h2 | exact absurd rfl (hty _)
  rw [e1] at e2
  exact Option.some.inj e2
theorem al_clsO {E : GE} {cA : ClassId} {s : State} (h : va_K E.1 vwCl (tyL E ++ [(cA, .object RX3)]) s) : cA = E.2 2 := by
  obtain ⟨-, -, -, -, -, e1⟩ := (h.2 4 (cA, .object RX3) rfl).2
  obtain ⟨-, -, -, -, -, e2⟩ := (h.2 2 (E.2 2, .object RX3) rfl).2
  rw [e1] at e2
  exact Option.some.inj e2
section AL
variable {p : Program} {l : Launch} {e : Env} {R : Room} {s : State} {m : MethodId} {args : Array Value} {below : List Frame} {meth : Method} {c : Code} {H : Heap} {locs : List Loc} {cells slots : Nat} {Q : State → Prop}
variable {cc : ByteArray} {pc : Nat} {ls : Array Slot} {rest : List Value} {A : Nat → Prop} {ws : va_W} {H0 : Heap} {E : GE}
theorem al_newI (hexec : p.tables.exec = Jvm.exec) (hb : c.code = cc) (harr : (Cond.arrayClass .int).before args s = true) (hE : ev E s) (hP : va_P E.1 vwCl ws H) (hD : va_D A ws) (hS : va_S A H0 H locs) (hA : ∀ q, H0.size ≤ q → A q) {n : Int32} {N' : Nat} (hn : ¬ n < 0) (hN : n.toNatClampNeg = N') (hbytes : N' * 4 ≤ 536870912) (hcells : cells + 1 ≤ R.cells) (hslots : slots + N' ≤ R.slots) (hdg : decode cc pc = .ok (.newarray .int, 2))
    (kk : ∀ (q : Nat) (H1 : Heap), va_P E.1 vwCl (ws ++ [cIA E q N' (fun _ => 0)]) H1 → va_D A (ws ++ [cIA E q N' (fun _ => 0)]) → va_S A H0 H1 locs → W p l e R s m args below meth c H1 locs (cells + 1) (slots + N') Q (F0 m (pc + 2) ls (.ref q :: rest))) : W p l e R s m args below meth c H locs cells slots Q (F0 m pc ls (.int n :: rest)) :=
  va_newa (atype := .int) (ty := .int) (a0 := (N', .inl (fun _ => 0))) hexec hb harr rfl hE.1 hP hD hS hA (fun _ => rfl) hn hN hbytes hcells hslots hdg (fun q cA H1 hK h1 h2 h3 => by obtain rfl := al_cls (k := 0) hK rfl (fun C h => by cases h); exact kk q H1 h1 h2 h3)
theorem al_newZ (hexec : p.tables.exec = Jvm.exec) (hb : c.code = cc) (harr : (Cond.arrayClass .boolean).before args s = true) (hE : ev E s) (hP : va_P E.1 vwCl ws H) (hD : va_D A ws) (hS : va_S A H0 H locs) (hA : ∀ q, H0.size ≤ q → A q) {n : Int32} {N' : Nat} (hn : ¬ n < 0) (hN : n.toNatClampNeg = N') (hbytes : N' * componentBytes .boolean ≤ 536870912) (hcells : cells + 1 ≤ R.cells) (hslots : slots + N' ≤ R.slots) (hdg : decode cc pc = .ok (.newarray .boolean, 2))
    (kk : ∀ (q : Nat) (H1 : Heap), va_P E.1 vwCl (ws ++ [cZA E q N' (fun _ => 0)]) H1 → va_D A (ws ++ [cZA E q N' (fun _ => 0)]) → va_S A H0 H1 locs → W p l e R s m args below meth c H1 locs (cells + 1) (slots + N') Q (F0 m (pc + 2) ls (.ref q :: rest))) : W p l e R s m args below meth c H locs cells slots Q (F0 m pc ls (.int n :: rest)) :=
  va_newa (atype := .boolean) (ty := .boolean) (a0 := (N', .inl (fun _ => 0))) hexec hb harr rfl hE.1 hP hD hS hA (fun _ => rfl) hn hN hbytes hcells hslots hdg (fun q cA H1 hK h1 h2 h3 => by obtain rfl := al_cls (k := 1) hK rfl (fun C h => by cases h); exact kk q H1 h1 h2 h3)
theorem al_newJ (hexec : p.tables.exec = Jvm.exec) (hb : c.code = cc) (harr : (Cond.arrayClass .long).before args s = true) (hE : ev E s) (hP : va_P E.1 vwCl ws H) (hD : va_D A ws) (hS : va_S A H0 H locs) (hA : ∀ q, H0.size ≤ q → A q) {n : Int32} {N' : Nat} (hn : ¬ n < 0) (hN : n.toNatClampNeg = N') (hbytes : N' * componentBytes .long ≤ 536870912) (hcells : cells + 1 ≤ R.cells) (hslots : slots + N' ≤ R.slots) (hdg : decode cc pc = .ok (.newarray .long, 2))
    (kk : ∀ (q : Nat) (H1 : Heap), va_P E.1 vwCl (ws ++ [cJA E q N' (fun _ => 0)]) H1 → va_D A (ws ++ [cJA E q N' (fun _ => 0)]) → va_S A H0 H1 locs → W p l e R s m args below meth c H1 locs (cells + 1) (slots + N') Q (F0 m (pc + 2) ls (.ref q :: rest))) : W p l e R s m args below meth c H locs cells slots Q (F0 m pc ls (.int n :: rest)) :=
  va_newa (atype := .long) (ty := .long) (a0 := (N', .inr (.inl (fun _ => 0)))) hexec hb harr rfl hE.1 hP hD hS hA (fun _ => rfl) hn hN hbytes hcells hslots hdg (fun q cA H1 hK h1 h2 h3 => by obtain rfl := al_cls (k := 3) hK rfl (fun C h => by cases h); exact kk q H1 h1 h2 h3)
theorem al_newS (hexec : p.tables.exec = Jvm.exec) (hb : c.code = cc) {own : String} {index : Nat} (hown : s.vm.findClass own = some m.cls) (hclink : (Cond.classLink own index RX3).before args s = true) (hE : ev E s) (hP : va_P E.1 vwCl ws H) (hD : va_D A ws) (hS : va_S A H0 H locs) (hA : ∀ q, H0.size ≤ q → A q) {n : Int32} {N' : Nat} (hn : ¬ n < 0) (hN : n.toNatClampNeg = N') (hbytes : N' * 4 ≤ 536870912) (hcells : cells + 1 ≤ R.cells) (hslots : slots + N' ≤ R.slots) (hdg : decode cc pc = .ok (.anewarray index, 3))
    (kk : ∀ (q : Nat) (H1 : Heap), va_P E.1 vwCl (ws ++ [cSA E q N' (fun _ => none)]) H1 → va_D A (ws ++ [cSA E q N' (fun _ => none)]) → va_S A H0 H1 locs → W p l e R s m args below meth c H1 locs (cells + 1) (slots + N') Q (F0 m (pc + 3) ls (.ref q :: rest))) : W p l e R s m args below meth c H locs cells slots Q (F0 m pc ls (.int n :: rest)) :=
  va_newq hexec hb hown hclink (hE.2 _ (List.mem_of_getElem? (i := 8) rfl)) hE.1 hP hD hS hA hn hN hbytes hcells hslots hdg (fun q cA H1 hK h1 h2 h3 => by obtain rfl := al_clsO hK; exact kk q H1 h1 h2 h3)
end AL
