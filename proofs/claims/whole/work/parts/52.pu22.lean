/-! WORLDS UP TO THEIR ORDER. -/
theorem wP_mem {D : va_G} {cl : List vw_C} {ws : va_W} {H : Heap} : va_P D cl ws H ↔ ∀ q ∈ ws, va_at D cl q H :=
  ⟨fun h q hq => by obtain ⟨k, hk⟩ := List.getElem?_of_mem hq; exact h k q hk, fun h k q hk => h q (List.mem_of_getElem? hk)⟩
theorem wD_nd {A : Nat → Prop} {ws : va_W} : va_D A ws ↔ (ws.map Prod.fst).Nodup ∧ ∀ q ∈ ws, A q.1 := by
  constructor
  · rintro ⟨h1, h2⟩
    refine ⟨?_, fun q hq => by obtain ⟨k, hk⟩ := List.getElem?_of_mem hq; exact h2 k q hk⟩
    unfold List.Nodup
    rw [List.pairwise_iff_getElem]
    intro i j hi hj hij he
    rw [List.length_map] at hi hj
    rw [List.getElem_map, List.getElem_map] at he
    have := h1 i j ws[i] ws[j] (List.getElem?_eq_getElem hi) (List.getElem?_eq_getElem hj) he
    omega
  · rintro ⟨h1, h2⟩
    refine ⟨fun i j p q hp hq he => ?_, fun k q hk => h2 q (List.mem_of_getElem? hk)⟩
    unfold List.Nodup at h1
    rw [List.pairwise_iff_getElem] at h1
    have hi : i < ws.length := (List.getElem?_eq_some_iff.mp hp).1
    have hj : j < ws.length := (List.getElem?_eq_some_iff.mp hq).1
    have ne : ∀ a b (x y : Nat × va_E), a < b → b < ws.length → ws[a]? = some x → ws[b]? = some y → x.1 ≠ y.1 := by
      intro a b x y hab hb hx hy hxy
      obtain ⟨ha, rfl⟩ := List.getElem?_eq_some_iff.mp hx
      obtain ⟨hb', rfl⟩ := List.getElem?_eq_some_iff.mp hy
      refine h1 a b (by rw [List.length_map]; exact ha) (by rw [List.length_map]; exact hb) hab ?_
      rw [List.getElem_map, List.getElem_map]; exact hxy
    rcases Nat.lt_trichotomy i j with q' | q' | q'
    · exact absurd he (ne i j p q q' hj hp hq)
    · exact q'
    · exact absurd he.symm (ne j i q p q' hi hq hp)
theorem wP_perm {D : va_G} {cl : List vw_C} {ws ws' : va_W} {H : Heap} (h : va_P D cl ws H) (hp : ws.Perm ws') : va_P D cl ws' H := wP_mem.mpr (fun q hq => wP_mem.mp h q (hp.mem_iff.mpr hq))
theorem wD_perm {A : Nat → Prop} {ws ws' : va_W} (h : va_D A ws) (hp : ws.Perm ws') : va_D A ws' := wD_nd.mpr ⟨(hp.map Prod.fst).nodup_iff.mp (wD_nd.mp h).1, fun q hq => (wD_nd.mp h).2 q (hp.mem_iff.mpr hq)⟩
theorem perm_idx {α : Type} {X Y : List α} (is : List Nat) (h : is.map (fun i => X[i]?) = Y.map some) (hp : is.Perm (List.range X.length)) : X.Perm Y := by
  have e : (List.range X.length).map (fun i => X[i]?) = X.map some := by
    apply List.ext_getElem?
    intro i
    rw [List.getElem?_map, List.getElem?_map]
    by_cases q : i < X.length
    · rw [List.getElem?_range q, List.getElem?_eq_getElem q]; show some (X[i]?) = some (some X[i]); rw [List.getElem?_eq_getElem q]
    · rw [List.getElem?_eq_none (by rw [List.length_range]; omega), List.getElem?_eq_none (by omega)]; rfl
  have h1 : (X.map some).Perm (Y.map some) := by rw [← e, ← h]; exact (hp.map _).symm
  have h2 := h1.filterMap id
  rw [List.filterMap_map, List.filterMap_map] at h2
  simpa using h2
section WRP
variable {p : Program} {l : Launch} {e : Env} {R : Room} {s : State} {m : MethodId} {args : Array Value} {below : List Frame} {meth : Method} {c : Code} {H : Heap} {locs : List Loc} {cells slots : Nat} {Q : State → Prop}
variable {pc mc ms : Nat} {rest st0 : List Value} {ls : Array Slot} {E : GE} {cs wr : va_W} {r : Option Value} {X : va_W → Prop} {A : Nat → Prop} {H0 : Heap}
theorem wr_join {cs' : va_W} {H1 : Heap} (hP : va_P E.1 vwCl (cs ++ wr) H) (hD : va_D A (cs ++ wr)) (hA : ∀ q, H.size ≤ q → A q) (hP1 : va_P E.1 vwCl cs' H1) (hD1 : va_D (va_A cs H.size) cs') (hk : ∀ q : Nat, q < H.size → ¬ va_A cs H.size q → H1[q]? = H[q]?) : va_P E.1 vwCl (cs' ++ wr) H1 ∧ va_D A (cs' ++ wr) := by
  rw [wP_mem] at hP hP1
  obtain ⟨n1, a1⟩ := wD_nd.mp hD
  obtain ⟨n2, a2⟩ := wD_nd.mp hD1
  rw [List.map_append, List.nodup_append] at n1
  have inA : ∀ q : Nat, va_A cs H.size q → A q := by
    rintro q (⟨k, ee, hq⟩ | hq)
    · exact a1 (q, ee) (List.mem_append_left _ (List.mem_of_getElem? hq))
    · exact hA q hq
  have lt : ∀ x ∈ wr, x.1 < H.size := fun x hx => (hP x (List.mem_append_right _ hx)).lt
  have out : ∀ x ∈ wr, ¬ va_A cs H.size x.1 := by
    rintro x hx (⟨k, ee, hq⟩ | hq)
    · exact n1.2.2 x.1 (List.mem_map.mpr ⟨(x.1, ee), List.mem_of_getElem? hq, rfl⟩) x.1 (List.mem_map.mpr ⟨x, hx, rfl⟩) rfl
    · have := lt x hx; omega
  refine ⟨wP_mem.mpr (fun x hx => ?_), wD_nd.mpr ⟨?_, fun x hx => ?_⟩⟩
  · rcases List.mem_append.mp hx with h | h
    · exact hP1 x h
    · exact (hP x (List.mem_append_right _ h)).kept (hk _ (lt x h) (out x h))
  · rw [List.map_append, List.nodup_append]
    refine ⟨n2, n1.2.1, ?_⟩
    intro a ha b hb hab
    obtain ⟨x, hx, rfl⟩ := List.mem_map.mp ha
    obtain ⟨y, hy, rfl⟩ := List.mem_map.mp hb
    exact out y hy (hab ▸ a2 x hx)
  · rcases List.mem_append.mp hx with h | h
    · exact inA _ (a2 x h)
    · exact a1 x (List.mem_append_right _ h)
/-- a call upon the cells cs, the others in any order -/
theorem wr_callP {a : Array Value} (hr : va_Run p l e R s m args below meth c H locs cells slots mc ms (F0 m pc ls st0) rest (wrQ E (va_A cs H.size) r X a) (va_A cs H.size)) (hP : va_P E.1 vwCl (cs ++ wr) H) (hD : va_D A (cs ++ wr)) (hS : va_S A H0 H locs) (hA : ∀ q, H0.size ≤ q → A q)
    (kk : ∀ (cs' : va_W) (H1 : Heap) (locs1 : List Loc), X cs' → va_P E.1 vwCl (cs' ++ wr) H1 → va_D A (cs' ++ wr) → va_S A H0 H1 locs1 → H.size ≤ H1.size → (∀ q : Nat, q < H.size → ¬ A q → H1[q]? = H[q]?) → W p l e R s m args below meth c H1 locs1 (cells + mc) (slots + ms) Q (F0 m (pc + 3) ls (r.toList ++ rest))) : W p l e R s m args below meth c H locs cells slots Q (F0 m pc ls st0) := by
  have inA : ∀ q : Nat, va_A cs H.size q → A q := by
    rintro q (⟨k, ee, hq⟩ | hq)
    · exact (wD_nd.mp hD).2 (q, ee) (List.mem_append_left _ (List.mem_of_getElem? hq))
    · exact hA q (Nat.le_trans hS.1 hq)
  intro T hT XX
  obtain ⟨v, st₀, t, T', L, h0, X', hL, e1, e2, ⟨⟨hv, cs', hX, hP1, hD1⟩, hz, hk⟩, st⟩ := hr T hT XX
  cases hv
  rw [h0] at hz hk
  rw [← e1] at hz hk hP1
  obtain ⟨hP2, hD2⟩ := wr_join hP hD (fun q h => hA q (Nat.le_trans hS.1 h)) hP1 hD1 hk
  obtain ⟨t2, a1, b1⟩ := kk cs' T'.heap (locs ++ L) hX hP2 hD2
    ⟨Nat.le_trans hS.1 hz, fun q h1 h2 => by rw [hk q (Nat.lt_of_lt_of_le h1 hS.1) (fun z => h2 (inA q z))]; exact hS.2.1 q h1 h2, fun q hq => by
      rcases List.mem_append.mp hq with h | h
      · exact hS.2.2 q h
      · exact inA _ (hL q h)⟩ hz (fun q h1 h2 => hk q h1 (fun z => h2 (inA q z))) T' rfl X'
  exact ⟨t2, st t2 a1, b1⟩
end WRP
