/-! THE LAW FROM ITS ENTRY. -/
theorem fSide_n (v : Int32) : ∃ g : Nat, 1 ≤ g ∧ g ≤ 8 ∧ fSide v = nI g := by
  by_cases h1 : 1 ≤ v
  · by_cases h8 : v ≤ 8
    · rw [fS_a h1 h8]
      rw [Int32.le_iff_toInt_le] at h1 h8
      have e1 : (1 : Int32).toInt = 1 := rfl
      have e8 : (8 : Int32).toInt = 8 := rfl
      refine ⟨v.toInt.toNat, by omega, by omega, Int32.toInt_inj.mp ?_⟩
      rw [nI_toInt (by omega)]; omega
    · rw [fS_8 h1 h8]; exact ⟨8, by omega, by omega, rfl⟩
  · rw [fS_1 h1]; exact ⟨1, by omega, by omega, rfl⟩
def aOf (l : List Nat) : Nat → Nat := fun i => (l[i]?).getD 0
theorem arrT {s : State} {args : Array Value} {ty : FieldType} (h : (Cond.arrayClass ty).before args s = true) (hty : ∀ C, ty ≠ .object C) : ∃ cA : ClassId, ArrOfT s cA ty ∧ va_RA s cA ty := by
  obtain ⟨cA, kA, comp, h1, h2, h3⟩ := Cond.arrayClass_spec h
  refine ⟨cA, fun n z => ⟨fun k h => (by cases h), kA, h2, comp, h3⟩, ?_⟩
  cases ty with
  | object C => exact absurd rfl (hty C)
  | _ => exact h1
theorem arrO {s : State} {args : Array Value} {C : String} (h : (Cond.arrayOver (.object C)).before args s = true) : ∃ cA : ClassId, ArrOfT s cA (.object C) ∧ va_RA s cA (.object C) := by
  obtain ⟨comp, cA, kA, h1, _, h2, h3, h4⟩ := Cond.arrayOver_spec h
  exact ⟨cA, fun n z => ⟨fun k h => (by cases h), kA, h2, comp, h3⟩, kA, comp, h2, h3, h1, h4⟩
set_option maxHeartbeats 4000000 in
set_option maxRecDepth 100000 in
theorem law_env {s : State} {args : Array Value} (hts : ∀ w ∈ lw_tbl, w.before args s = true) : ∃ E : GE, ev E s := by
  obtain ⟨c0, i0, k0⟩ := u_known (C := RJx00060) (T := TJx00060) (N := 6) (n := 6) hts inJx00060 (hts (.instantiable RJx00060 6) (List.mem_of_getElem? (i := 580) rfl))
  obtain ⟨c1, i1, k1⟩ := u_known (C := RX0) (T := TX0) (N := 3) (n := 3) hts inX0 (hts (.instantiable RX0 3) (List.mem_of_getElem? (i := 106) rfl))
  obtain ⟨c2, i2, k2⟩ := u_known (C := RX1) (T := TX1) (N := 7) (n := 7) hts inX1 (hts (.instantiable RX1 7) (List.mem_of_getElem? (i := 91) rfl))
  obtain ⟨c3, i3, k3⟩ := u_known (C := RX2) (T := TX2) (N := 10) (n := 10) hts inX2 (hts (.instantiable RX2 10) (List.mem_of_getElem? (i := 234) rfl))
  obtain ⟨c4, i4, k4⟩ := u_known (C := RX3) (T := TX3) (N := 8) (n := 8) hts inX3 (hts (.instantiable RX3 8) (List.mem_of_getElem? (i := 165) rfl))
  obtain ⟨c5, i5, k5⟩ := u_known (C := RX4) (T := TX4) (N := 5) (n := 5) hts inX4 (hts (.instantiable RX4 5) (List.mem_of_getElem? (i := 210) rfl))
  obtain ⟨c6, i6, k6⟩ := u_known (C := RX5) (T := TX5) (N := 7) (n := 7) hts inX5 (hts (.instantiable RX5 7) (List.mem_of_getElem? (i := 83) rfl))
  obtain ⟨c7, i7, k7⟩ := u_known (C := RX6) (T := TX6) (N := 25) (n := 25) hts inX6 (hts (.instantiable RX6 25) (List.mem_of_getElem? (i := 806) rfl))
  obtain ⟨d0, a0, b0⟩ := arrT (hts (.arrayClass .int) (List.mem_of_getElem? (i := 232) rfl)) (fun C h => by cases h)
  obtain ⟨d1, a1, b1⟩ := arrT (hts (.arrayClass .boolean) (List.mem_of_getElem? (i := 887) rfl)) (fun C h => by cases h)
  obtain ⟨d3, a3, b3⟩ := arrT (hts (.arrayClass .long) (List.mem_of_getElem? (i := 1076) rfl)) (fun C h => by cases h)
  obtain ⟨d2, a2, b2⟩ := arrO (hts (.arrayOver (.object RX3)) (List.mem_of_getElem? (i := 272) rfl))
  refine ⟨((fun k => match k with | 0 => c0 | 1 => c1 | 2 => c2 | 3 => c3 | 4 => c4 | 5 => c5 | 6 => c6 | _ => c7, fun k => match k with | 0 => i0 | 1 => i1 | 2 => i2 | 3 => i3 | 4 => i4 | 5 => i5 | 6 => i6 | _ => i7), fun k => match k with | 0 => d0 | 1 => d1 | 2 => d2 | _ => d3), ⟨?_, ?_⟩, ?_⟩
  · intro k q hq
    match k, hq with
    | 0, hq => cases hq; exact k0
    | 1, hq => cases hq; exact k1
    | 2, hq => cases hq; exact k2
    | 3, hq => cases hq; exact k3
    | 4, hq => cases hq; exact k4
    | 5, hq => cases hq; exact k5
    | 6, hq => cases hq; exact k6
    | 7, hq => cases hq; exact k7
    | k + 8, hq => simp [vwCl] at hq
  · intro k q hq
    match k, hq with
    | 0, hq => cases hq; exact ⟨a0, b0⟩
    | 1, hq => cases hq; exact ⟨a1, b1⟩
    | 2, hq => cases hq; exact ⟨a2, b2⟩
    | 3, hq => cases hq; exact ⟨a3, b3⟩
    | k + 4, hq => simp [tyL] at hq
  · intro w hw
    have h0 := hts w (NW_in w hw)
    simp only [NWs, List.mem_cons, List.not_mem_nil, or_false] at hw
    rcases hw with rfl | rfl | rfl | rfl | rfl | rfl | rfl | rfl | rfl <;> first | exact va_Nw.of rfl h0 | exact h0
set_option maxHeartbeats 4000000 in
set_option maxRecDepth 100000 in
theorem law_tx {s : State} {b : Nat} (hts : ∀ w ∈ lw_tbl, w.before #[Value.ref b] s = true) (hgv : (Jvm.Cond.and given_1 narrow_1).before #[Value.ref b] s = true) : tx (fun q => s.heap.size ≤ q) s s.heap := by
  have hq := flat_of_before _ hgv
  obtain ⟨c6, i6, k6⟩ := u_known (C := RX5) (T := TX5) (N := 7) (n := 7) hts inX5 (hts (.instantiable RX5 7) (List.mem_of_getElem? (i := 83) rfl))
  have hA : ∀ a : Nat, a < s.heap.size → ¬ (fun q => s.heap.size ≤ q) a := fun a h q => by
    have q : s.heap.size ≤ a := q
    omega
  have hin := hts (.initialized Bundle.tN) (List.mem_of_getElem? (i := 75) rfl)
  refine ⟨vx_Zqof (hts (.laysStatic Bundle.tN "UNASSIGNED_STACK" Bundle.steD) (List.mem_of_getElem? (i := 608) rfl)) hin (hq (.isRef (.static Bundle.tN "UNASSIGNED_STACK" Bundle.steD)) (List.mem_of_getElem? (i := 4) rfl)) hA, vx_Zqof (hts (.laysStatic Bundle.tN "SUPPRESSED_SENTINEL" Bundle.listD) (List.mem_of_getElem? (i := 610) rfl)) hin (hq (.isRef (.static Bundle.tN "SUPPRESSED_SENTINEL" Bundle.listD)) (List.mem_of_getElem? (i := 5) rfl)) hA, fun w hw => ?_, va_Nc.of (hq (.not (.castable eI eA)) (List.mem_of_getElem? (i := 13) rfl)), fun x hx => ?_⟩
  · have h0 := hts w (tV_in w hw)
    have := List.all_eq_true.mp tV_dc w hw
    match w, this with
    | .declares _, _ => exact va_Nw.of rfl h0
    | .castable _ _, _ => exact va_Nw.of rfl h0
  · have h1 : (Cond.stringRef RX5 x.1 x.2).before #[Value.ref b] s = true := by
      refine hts _ ?_
      simp only [tS, List.mem_cons, List.not_mem_nil, or_false] at hx
      rcases hx with rfl | rfl | rfl | rfl | rfl | rfl
      · exact List.mem_of_getElem? (i := 622) rfl
      · exact List.mem_of_getElem? (i := 683) rfl
      · exact List.mem_of_getElem? (i := 693) rfl
      · exact List.mem_of_getElem? (i := 729) rfl
      · exact List.mem_of_getElem? (i := 747) rfl
      · exact List.mem_of_getElem? (i := 751) rfl
    obtain ⟨-, -, -, sa, -, -, -, -, -, hev⟩ := Cond.stringRef_spec k6.2.1 h1
    exact ⟨sa, vk_R.of h1 hev⟩
