/-! THE RECORDS OF THE MARKS. -/
def wHi (d : Nat → Nat × Nat × Nat) (gw : Nat) (rc : Nat → CSt) (i mx : Nat) : va_W := (List.range' (i + 1) (mx - i - 1)).flatMap (fun j => wRec (d j) gw (rc j))
theorem pool_split (d : Nat → Nat × Nat × Nat) (gw : Nat) (rc : Nat → CSt) {i mx : Nat} (h : i < mx) : wPool d gw rc mx = wPool d gw rc i ++ (wRec (d i) gw (rc i) ++ wHi d gw rc i mx) := by
  have e : List.range mx = List.range i ++ (i :: List.range' (i + 1) (mx - i - 1)) := by
    rw [List.range_eq_range', List.range_eq_range', ← List.range'_succ]
    have := List.range'_append_1 (s := 0) (m := i) (n := mx - i - 1 + 1)
    rw [Nat.zero_add] at this
    rw [this]
    congr 1; omega
  unfold wPool wHi
  rw [e, List.flatMap_append, List.flatMap_cons]
theorem pool_succ (d : Nat → Nat × Nat × Nat) (gw : Nat) (rc : Nat → CSt) (mx : Nat) : wPool d gw rc (mx + 1) = wPool d gw rc mx ++ wRec (d mx) gw (rc mx) := by
  unfold wPool
  rw [List.range_succ, List.flatMap_append]
  simp
theorem fmap_congr {α β : Type} {l : List α} {f g : α → List β} (h : ∀ x ∈ l, f x = g x) : l.flatMap f = l.flatMap g := by
  induction l with
  | nil => rfl
  | cons x l ih => rw [List.flatMap_cons, List.flatMap_cons, h x (List.mem_cons_self ..), ih (fun y hy => h y (List.mem_cons_of_mem _ hy))]
theorem pool_congr {d d' : Nat → Nat × Nat × Nat} {gw : Nat} {rc rc' : Nat → CSt} {mx : Nat} (h : ∀ i, i < mx → d' i = d i ∧ rc' i = rc i) : wPool d' gw rc' mx = wPool d gw rc mx :=
  fmap_congr (fun x hx => by rw [(h x (List.mem_range.mp hx)).1, (h x (List.mem_range.mp hx)).2])
theorem hi_congr {d : Nat → Nat × Nat × Nat} {gw : Nat} {rc rc' : Nat → CSt} {i mx : Nat} (h : ∀ j, i < j → rc' j = rc j) : wHi d gw rc' i mx = wHi d gw rc i mx :=
  fmap_congr (fun x hx => by rw [h x (by have := (List.mem_range'_1.mp hx).1; omega)])
theorem perm_rec {α : Type} {X cC T0 lo rec hi : List α} (isC isR : List Nat) (hC : isC.map (fun i => X[i]?) = cC.map some) (hp : (isC ++ isR).Perm (List.range X.length)) : (X ++ (T0 ++ (lo ++ (rec ++ hi)))).Perm ((cC ++ rec) ++ (isR.filterMap (fun i => X[i]?) ++ (T0 ++ (lo ++ hi)))) := by
  have h1 : (T0 ++ (lo ++ (rec ++ hi))).Perm (rec ++ (T0 ++ (lo ++ hi))) := ((List.perm_append_comm_assoc lo rec hi).append_left T0).trans (List.perm_append_comm_assoc T0 rec (lo ++ hi))
  have h2 := perm_x (B := []) (rest := rec ++ (T0 ++ (lo ++ hi))) isC isR hC hp
  refine (h1.append_left X).trans (h2.trans ?_)
  rw [List.append_assoc]
  exact (List.perm_append_comm_assoc _ rec _).append_left cC
theorem perm_ext {α : Type} {c1 ex Z F T : List α} : ((c1 ++ ex) ++ (Z ++ (F ++ T))).Perm (c1 ++ (Z ++ (F ++ (T ++ ex)))) := by
  rw [List.append_assoc]
  refine List.Perm.append_left c1 ?_
  rw [show Z ++ (F ++ (T ++ ex)) = (Z ++ (F ++ T)) ++ ex by simp]
  exact List.perm_append_comm
section LWR
variable {p : Program} {l : Launch} {e : Env} {R : Room} {s : State} {m : MethodId} {args : Array Value} {below : List Frame} {meth : Method} {c : Code} {H : Heap} {locs : List Loc} {cells slots : Nat} {Q : State → Prop}
variable {y : MethodName} {bytes cc : ByteArray} {maxL nL n index pc mc ms : Nat} {ret : Option FieldType} {ws : List Cond} {rm : Room} {Ts : List Cond} {own C : String} {b : Addr} {As rest st0 : List Value} {ls : Array Slot} {E : GE} {cC T0 lo rec hi T X : va_W} {r : Option Value} {Xp : va_W → Prop} {A : Nat → Prop} {H0 : Heap}
/-- a virtual call upon a part of X and one record -/
theorem lwVR (S : CallFix p m c cc nL s args Ts own) (hE : ev E s) (hM : wrM l y ws rm E H.size (.ref b :: As) (cC ++ rec) r Xp mc ms) (cw : CallW R s args own C index y bytes maxL ret ws rm mc ms n) (hP : va_P E.1 vwCl (X ++ (T0 ++ (lo ++ (rec ++ hi)))) H) (hD : va_D A (X ++ (T0 ++ (lo ++ (rec ++ hi))))) (hS : va_S A H0 H locs) (hA : ∀ q, H0.size ≤ q → A q) (isC isR : List Nat) (hC : isC.map (fun i => X[i]?) = cC.map some) (hp : (isC ++ isR).Perm (List.range X.length))
    (ci : Nat) {vc : vw_C} {fs : List Value} (h0 : (cC ++ rec)[0]? = some (b, .inr (ci, fs))) (hci : vwCl[ci]? = some vc) (hC2 : vc.1 = C)
    (hn : As.length = n) (hsize : ls.size = nL) (hstack : st0 = As.reverse ++ .ref b :: rest) (hW : (rest.map fun v => v.category).sum ≤ 8) (hdg : decode cc pc = .ok (.invokevirtual index, 3)) (hf : cells + mc ≤ R.cells ∧ slots + ms ≤ R.slots)
    (kk : ∀ (cs' : va_W) (H1 : Heap) (locs1 : List Loc), Xp cs' → (∀ (X' cC' rec' : va_W), cs' = cC' ++ rec' → isC.map (fun i => X'[i]?) = cC'.map some → isR.map (fun i => X'[i]?) = isR.map (fun i => X[i]?) → X'.length = X.length → va_P E.1 vwCl (X' ++ (T0 ++ (lo ++ (rec' ++ hi)))) H1 ∧ va_D A (X' ++ (T0 ++ (lo ++ (rec' ++ hi))))) → va_S A H0 H1 locs1 → W p l e R s m args below meth c H1 locs1 (cells + mc) (slots + ms) Q (F0 m (pc + 3) ls (r.toList ++ rest))) : W p l e R s m args below meth c H locs cells slots Q (F0 m pc ls st0) := by
  refine lwV S hE hM cw hP hD hS hA (perm_rec isC isR hC hp) h0 hci hC2 hn hsize hstack hW hdg hf (fun cs' H1 locs1 a1 a2 a3 a4 => kk cs' H1 locs1 a1 (fun X' cC' rec' e1 h1 h2 h3 => ?_) a4)
  subst e1
  have e : isR.filterMap (fun i => X'[i]?) = isR.filterMap (fun i => X[i]?) := by rw [fm_map, h2, ← fm_map]
  have hq := perm_rec (T0 := T0) (lo := lo) (rec := rec') (hi := hi) isC isR h1 (by rw [h3]; exact hp)
  rw [e] at hq
  exact ⟨wP_perm a2 hq.symm, wD_perm a3 hq.symm⟩
/-- a virtual call upon a part of X that makes cells -/
theorem lwVN (S : CallFix p m c cc nL s args Ts own) (hE : ev E s) (hM : wrM l y ws rm E H.size (.ref b :: As) cC r Xp mc ms) (cw : CallW R s args own C index y bytes maxL ret ws rm mc ms n) (hP : va_P E.1 vwCl (X ++ T) H) (hD : va_D A (X ++ T)) (hS : va_S A H0 H locs) (hA : ∀ q, H0.size ≤ q → A q) (isC isR : List Nat) (hC : isC.map (fun i => X[i]?) = cC.map some) (hp : (isC ++ isR).Perm (List.range X.length))
    (ci : Nat) {vc : vw_C} {fs : List Value} (h0 : cC[0]? = some (b, .inr (ci, fs))) (hci : vwCl[ci]? = some vc) (hC2 : vc.1 = C)
    (hn : As.length = n) (hsize : ls.size = nL) (hstack : st0 = As.reverse ++ .ref b :: rest) (hW : (rest.map fun v => v.category).sum ≤ 8) (hdg : decode cc pc = .ok (.invokevirtual index, 3)) (hf : cells + mc ≤ R.cells ∧ slots + ms ≤ R.slots)
    (kk : ∀ (cs' : va_W) (H1 : Heap) (locs1 : List Loc), Xp cs' → (∀ (X' cC' ex : va_W), cs' = cC' ++ ex → isC.map (fun i => X'[i]?) = cC'.map some → isR.map (fun i => X'[i]?) = isR.map (fun i => X[i]?) → X'.length = X.length → va_P E.1 vwCl (X' ++ (T ++ ex)) H1 ∧ va_D A (X' ++ (T ++ ex))) → va_S A H0 H1 locs1 → W p l e R s m args below meth c H1 locs1 (cells + mc) (slots + ms) Q (F0 m (pc + 3) ls (r.toList ++ rest))) : W p l e R s m args below meth c H locs cells slots Q (F0 m pc ls st0) := by
  refine lwV S hE hM cw hP hD hS hA (perm_x (B := []) isC isR hC hp) h0 hci hC2 hn hsize hstack hW hdg hf (fun cs' H1 locs1 a1 a2 a3 a4 => kk cs' H1 locs1 a1 (fun X' cC' ex e1 h1 h2 h3 => ?_) a4)
  subst e1
  exact bh_of (F := []) (T := T ++ ex) hp (wP_perm a2 perm_ext) (wD_perm a3 perm_ext) X' h1 h2 h3
end LWR
