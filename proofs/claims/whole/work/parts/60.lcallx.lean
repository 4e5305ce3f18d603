/-! CALLS OF THE LAW: a part X of the world by places. -/
theorem fm_map {α β : Type} (f : α → Option β) (is : List α) : is.filterMap f = (is.map f).filterMap id := by
  rw [List.filterMap_map]; rfl
theorem fm_some {α : Type} {Y : List α} : (Y.map some).filterMap id = Y := by
  rw [List.filterMap_map]; simp
theorem perm_x {α : Type} {B X Y rest : List α} (isC isR : List Nat) (hC : isC.map (fun i => X[i]?) = Y.map some) (hp : (isC ++ isR).Perm (List.range X.length)) : (B ++ (X ++ rest)).Perm (Y ++ (isR.filterMap (fun i => X[i]?) ++ (B ++ rest))) := by
  have h1 : X.Perm (Y ++ isR.filterMap (fun i => X[i]?)) := by
    have e : (List.range X.length).map (fun i => X[i]?) = X.map some := by
      apply List.ext_getElem?
      intro i
      rw [List.getElem?_map, List.getElem?_map]
      by_cases q : i < X.length
      · rw [List.getElem?_range q, List.getElem?_eq_getElem q]; show some (X[i]?) = some (some X[i]); rw [List.getElem?_eq_getElem q]
      · rw [List.getElem?_eq_none (by rw [List.length_range]; omega), List.getElem?_eq_none (by omega)]; rfl
    have h := ((hp.symm.map (fun i => X[i]?)).filterMap id)
    rw [e, fm_some, List.map_append, List.filterMap_append, hC, fm_some, ← fm_map] at h
    exact h
  have h2 : (B ++ (X ++ rest)).Perm (X ++ (B ++ rest)) := by
    rw [← List.append_assoc, ← List.append_assoc]
    exact List.perm_append_comm.append_right rest
  refine h2.trans ?_
  rw [← List.append_assoc Y]
  exact h1.append_right _
section LWX
variable {p : Program} {l : Launch} {e : Env} {R : Room} {s : State} {m : MethodId} {args : Array Value} {below : List Frame} {meth : Method} {c : Code} {H : Heap} {locs : List Loc} {cells slots : Nat} {Q : State → Prop}
variable {y : MethodName} {bytes cc : ByteArray} {maxL nL n index pc mc ms : Nat} {ret : Option FieldType} {ws : List Cond} {rm : Room} {Ts : List Cond} {own C : String} {b : Addr} {As rest st0 : List Value} {ls : Array Slot} {E : GE} {cs F T X : va_W} {r : Option Value} {Xp : va_W → Prop} {A : Nat → Prop} {H0 : Heap} {hh : List (Nat × Nat × Nat × Nat)}
/-- the world behind, with X' in X's place -/
abbrev bhX (E : GE) (A : Nat → Prop) (F X T cs' : va_W) (isC isR : List Nat) (H1 : Heap) : Prop := ∀ X' : va_W, isC.map (fun i => X'[i]?) = cs'.map some → isR.map (fun i => X'[i]?) = isR.map (fun i => X[i]?) → X'.length = X.length → va_P E.1 vwCl (F ++ (X' ++ T)) H1 ∧ va_D A (F ++ (X' ++ T))
theorem bh_of {cs' : va_W} {isC isR : List Nat} {H1 : Heap} (hp : (isC ++ isR).Perm (List.range X.length)) (hP1 : va_P E.1 vwCl (cs' ++ (isR.filterMap (fun i => X[i]?) ++ (F ++ T))) H1) (hD1 : va_D A (cs' ++ (isR.filterMap (fun i => X[i]?) ++ (F ++ T)))) : bhX E A F X T cs' isC isR H1 := by
  intro X' h1 h2 h3
  have e : isR.filterMap (fun i => X'[i]?) = isR.filterMap (fun i => X[i]?) := by rw [fm_map, h2, ← fm_map]
  have hq := perm_x (B := F) (rest := T) isC isR h1 (by rw [h3]; exact hp)
  rw [e] at hq
  exact ⟨wP_perm hP1 hq.symm, wD_perm hD1 hq.symm⟩
theorem lwVX (S : CallFix p m c cc nL s args Ts own) (hE : ev E s) (hM : wrM l y ws rm E H.size (.ref b :: As) cs r Xp mc ms) (cw : CallW R s args own C index y bytes maxL ret ws rm mc ms n) (hP : va_P E.1 vwCl (F ++ (X ++ T)) H) (hD : va_D A (F ++ (X ++ T))) (hS : va_S A H0 H locs) (hA : ∀ q, H0.size ≤ q → A q) (isC isR : List Nat) (hC : isC.map (fun i => X[i]?) = cs.map some) (hp : (isC ++ isR).Perm (List.range X.length))
    (ci : Nat) {vc : vw_C} {fs : List Value} (h0 : cs[0]? = some (b, .inr (ci, fs))) (hci : vwCl[ci]? = some vc) (hC2 : vc.1 = C)
    (hn : As.length = n) (hsize : ls.size = nL) (hstack : st0 = As.reverse ++ .ref b :: rest) (hW : (rest.map fun v => v.category).sum ≤ 8) (hdg : decode cc pc = .ok (.invokevirtual index, 3)) (hf : cells + mc ≤ R.cells ∧ slots + ms ≤ R.slots)
    (kk : ∀ (cs' : va_W) (H1 : Heap) (locs1 : List Loc), Xp cs' → bhX E A F X T cs' isC isR H1 → va_S A H0 H1 locs1 → W p l e R s m args below meth c H1 locs1 (cells + mc) (slots + ms) Q (F0 m (pc + 3) ls (r.toList ++ rest))) : W p l e R s m args below meth c H locs cells slots Q (F0 m pc ls st0) :=
  lwV S hE hM cw hP hD hS hA (perm_x isC isR hC hp) h0 hci hC2 hn hsize hstack hW hdg hf (fun cs' H1 locs1 a1 a2 a3 a4 => kk cs' H1 locs1 a1 (bh_of hp a2 a3) a4)
theorem lwSX (S : CallFix p m c cc nL s args Ts own) (hE : ev E s) (hM : wrM l y ws rm E H.size As cs r Xp mc ms) (cw : vx_CSW R s args own index y bytes maxL ret hh ws rm mc ms n) (hP : va_P E.1 vwCl (F ++ (X ++ T)) H) (hD : va_D A (F ++ (X ++ T))) (hS : va_S A H0 H locs) (hA : ∀ q, H0.size ≤ q → A q) (isC isR : List Nat) (hC : isC.map (fun i => X[i]?) = cs.map some) (hp : (isC ++ isR).Perm (List.range X.length))
    (hn : As.length = n) (hsize : ls.size = nL) (hstack : st0 = As.reverse ++ rest) (hW : (rest.map fun v => v.category).sum ≤ 8) (hdg : decode cc pc = .ok (.invokestatic index, 3)) (hf : cells + mc ≤ R.cells ∧ slots + ms ≤ R.slots)
    (kk : ∀ (cs' : va_W) (H1 : Heap) (locs1 : List Loc), Xp cs' → bhX E A F X T cs' isC isR H1 → va_S A H0 H1 locs1 → W p l e R s m args below meth c H1 locs1 (cells + mc) (slots + ms) Q (F0 m (pc + 3) ls (r.toList ++ rest))) : W p l e R s m args below meth c H locs cells slots Q (F0 m pc ls st0) :=
  lwS S hE hM cw hP hD hS hA (perm_x isC isR hC hp) hn hsize hstack hW hdg hf (fun cs' H1 locs1 a1 a2 a3 a4 => kk cs' H1 locs1 a1 (bh_of hp a2 a3) a4)
theorem lwBX {k : Int32} (S : CallFix p m c cc nL s args Ts own) (hE : ev E s) (hM : bdM l y ws rm E H.size As cs k) (cw : vx_CSW R s args own index y bytes maxL ret hh ws rm 1 6 n) (hP : va_P E.1 vwCl (F ++ (X ++ T)) H) (hD : va_D A (F ++ (X ++ T))) (hS : va_S A H0 H locs) (hA : ∀ q, H0.size ≤ q → A q) (isC isR : List Nat) (hC : isC.map (fun i => X[i]?) = cs.map some) (hp : (isC ++ isR).Perm (List.range X.length)) (hT : tx A s H0)
    (hn : As.length = n) (hsize : ls.size = nL) (hstack : st0 = As.reverse ++ rest) (hW : (rest.map fun v => v.category).sum ≤ 8) (hdg : decode cc pc = .ok (.invokestatic index, 3)) (hf : cells + 1 ≤ R.cells ∧ slots + 6 ≤ R.slots)
    (kk : ∀ (H1 : Heap) (locs1 : List Loc), va_P E.1 vwCl (F ++ (X ++ T)) H1 → va_S A H0 H1 locs1 → W p l e R s m args below meth c H1 locs1 (cells + 1) (slots + 6) Q (F0 m (pc + 3) ls (.int k :: rest))) : W p l e R s m args below meth c H locs cells slots Q (F0 m pc ls st0) :=
  lwB S hE hM cw hP hD hS hA (perm_x isC isR hC hp) hT hn hsize hstack hW hdg hf kk
end LWX
