/-! WHAT A STEP CHANGES: free edges or free cells, each once. -/
def Its (Q : Nat → Prop) (is : List Int32) : Prop := ∃ L : List Nat, is = L.map nI ∧ L.Nodup ∧ (∀ i ∈ L, Q i) ∧ L ≠ []
def dOK (gw gh : Nat) (ed sh : Nat → Int32) : DE → Prop
  | (_, _, 0, _, is) => is = []
  | (no, _, 1, _, is) => no < 10 ∧ Its (fun i => isEn gw gh i = true ∧ ed i = 0) is
  | (no, _, _, _, is) => ¬ no < 10 ∧ Its (fun c => c < gw * gh ∧ sh c = 0) is
theorem rL_so {P : Nat → DEC} {N : Nat} {d : DE} : ∀ k, k ≤ N → rL P N k = some d → ∃ i, i < N ∧ P i = some d := by
  intro k
  induction k with
  | zero => intro _ h; cases h
  | succ k ih =>
    intro hk h
    rcases e : P (N - (k + 1)) with _ | d'
    · rw [rL_no rfl e] at h; exact ih (by omega) h
    · rw [rL_yes rfl e] at h; exact ⟨_, by omega, e.trans h⟩
theorem dOr_some {a b : DEC} {d : DE} (h : dOr a b = some d) : a = some d ∨ b = some d := by
  cases a with
  | none => exact Or.inr h
  | some x => exact Or.inl h
theorem ite_some {p : Prop} [Decidable p] {x d : DE} (h : (if p then some x else none) = some d) : p ∧ x = d := by
  by_cases q : p
  · rw [if_pos q] at h; exact ⟨q, Option.some.inj h⟩
  · rw [if_neg q] at h; cases h
theorem its_one {Q : Nat → Prop} {i : Nat} (h : Q i) : Its Q [nI i] := ⟨[i], rfl, by simp, by simpa using h, by simp⟩
theorem rOp_its {gw gh : Nat} (G : GG gw gh) {z : Bool} {ed : Nat → Int32} {c : Nat} (hc : c < 64) (h0 : ¬ cnt gw gh ed c 0 = 0) : Its (fun i => isEn gw gh i = true ∧ ed i = 0) (rOp gw gh z c 4 ed) := by
  have key : ∀ k, k ≤ 4 → ∃ L : List Nat, rOp gw gh z c k ed = L.map nI ∧ L.Nodup ∧ (∀ i ∈ L, ∃ d, 4 - k ≤ d ∧ d < 4 ∧ un gw gh (fun e => decide (ed e = 0)) c d = true ∧ i = dI gw c d) ∧ (∀ d, 4 - k ≤ d → d < 4 → un gw gh (fun e => decide (ed e = 0)) c d = true → L ≠ []) := by
    intro k
    induction k with
    | zero => intro _; exact ⟨[], rfl, List.nodup_nil, fun i hi => absurd hi List.not_mem_nil, fun d h1 h2 => by omega⟩
    | succ k ih =>
      intro hk
      obtain ⟨L, h1, h2, h3, h4⟩ := ih (by omega)
      rw [rOp_step G hc (by omega), h1]
      by_cases q : un gw gh (fun e => decide (ed e = 0)) c (4 - (k + 1)) = true
      · rw [if_pos q]
        refine ⟨dI gw c (4 - (k + 1)) :: L, rfl, List.nodup_cons.mpr ⟨fun hm => ?_, h2⟩, fun i hi => ?_, fun _ _ _ _ => by simp⟩
        · obtain ⟨d, a1, a2, a3, a4⟩ := h3 _ hm
          have x1 : dX gw c d = true := (Bool.and_eq_true _ _ ▸ a3 : _ ∧ _).1
          have x2 : dX gw c (4 - (k + 1)) = true := (Bool.and_eq_true _ _ ▸ q : _ ∧ _).1
          exact dI_ne G.w1 x2 x1 (by omega) a2 (by omega) a4
        · rcases List.mem_cons.mp hi with rfl | hi
          · exact ⟨_, Nat.le_refl _, by omega, q, rfl⟩
          · obtain ⟨d, a1, a2, a3, a4⟩ := h3 _ hi
            exact ⟨d, by omega, a2, a3, a4⟩
      · rw [if_neg q]
        refine ⟨L, rfl, h2, fun i hi => ?_, fun d a1 a2 a3 => ?_⟩
        · obtain ⟨d, a1, a2, a3, a4⟩ := h3 _ hi
          exact ⟨d, by omega, a2, a3, a4⟩
        · by_cases e : d = 4 - (k + 1)
          · subst e; exact absurd a3 q
          · exact h4 d (by omega) a2 a3
  obtain ⟨L, h1, h2, h3, h4⟩ := key 4 (Nat.le_refl _)
  refine ⟨L, h1, h2, fun i hi => ?_, ?_⟩
  · obtain ⟨d, _, _, a3, a4⟩ := h3 i hi
    simp only [un, Bool.and_eq_true, decide_eq_true_eq] at a3
    rw [a4]; exact a3.2
  · rw [cnt_eq G hc] at h0
    unfold cn at h0
    rcases q0 : un gw gh (fun e => decide (ed e = 0)) c 0 with _ | _
    · rcases q1 : un gw gh (fun e => decide (ed e = 0)) c 1 with _ | _
      · rcases q2 : un gw gh (fun e => decide (ed e = 0)) c 2 with _ | _
        · rcases q3 : un gw gh (fun e => decide (ed e = 0)) c 3 with _ | _
          · rw [q0, q1, q2, q3] at h0; exact absurd rfl h0
          · exact h4 3 (by omega) (by omega) q3
        · exact h4 2 (by omega) (by omega) q2
      · exact h4 1 (by omega) (by omega) q1
    · exact h4 0 (by omega) (by omega) q0
theorem rSh_its {N : Nat} {z : Bool} {sh : Nat → Int32} (h0 : ¬ rCt (fun i => decide (sh i = 0)) N N = 0) : Its (fun c => c < N ∧ sh c = 0) (rSh z N N sh) := by
  have key : ∀ k, k ≤ N → ∀ s' : Nat → Int32, (∀ i, N - k ≤ i → s' i = sh i) → ∃ L : List Nat, rSh z N k s' = L.map nI ∧ L.Nodup ∧ (∀ i ∈ L, N - k ≤ i ∧ i < N ∧ sh i = 0) ∧ (∀ i, N - k ≤ i → i < N → sh i = 0 → L ≠ []) := by
    intro k
    induction k with
    | zero => intro _ _ _; exact ⟨[], rfl, List.nodup_nil, fun i hi => absurd hi List.not_mem_nil, fun d h1 h2 => by omega⟩
    | succ k ih =>
      intro hk s' hs
      by_cases q : sh (N - (k + 1)) = 0
      · rw [rSh_take rfl ((hs _ (Nat.le_refl _)).trans q)]
        obtain ⟨L, h1, h2, h3, h4⟩ := ih (by omega) (upd s' (N - (k + 1)) (sv z)) (fun i hi => by
          unfold upd
          rw [if_neg (by omega)]; exact hs i (by omega))
        rw [h1]
        refine ⟨(N - (k + 1)) :: L, rfl, List.nodup_cons.mpr ⟨fun hm => ?_, h2⟩, fun i hi => ?_, fun _ _ _ _ => by simp⟩
        · have := h3 _ hm; omega
        · rcases List.mem_cons.mp hi with rfl | hi
          · exact ⟨Nat.le_refl _, by omega, q⟩
          · obtain ⟨a1, a2, a3⟩ := h3 _ hi
            exact ⟨by omega, a2, a3⟩
      · rw [rSh_not rfl (fun w => q ((hs _ (Nat.le_refl _)).symm.trans w))]
        obtain ⟨L, h1, h2, h3, h4⟩ := ih (by omega) s' (fun i hi => hs i (by omega))
        refine ⟨L, h1, h2, fun i hi => ?_, fun i a1 a2 a3 => ?_⟩
        · obtain ⟨a1, a2, a3⟩ := h3 _ hi
          exact ⟨by omega, a2, a3⟩
        · by_cases e : i = N - (k + 1)
          · subst e; exact absurd a3 q
          · exact h4 i (by omega) a2 a3
  obtain ⟨L, h1, h2, h3, h4⟩ := key N (Nat.le_refl _) sh (fun _ _ => rfl)
  refine ⟨L, h1, h2, fun i hi => (h3 i hi).2, fun hL => h0 ?_⟩
  rw [rCt_sm]
  refine sm_0.mpr (fun i hi => ?_)
  by_cases q : sh i = 0
  · exact absurd hL (h4 i (by omega) hi q)
  · rw [decide_eq_false q]; rfl
theorem next_ok {gw gh : Nat} (G : GG gw gh) {to : Int32} {ed du sh : Nat → Int32} (h3 : ∀ e, isEn gw gh e = true → ed e = 0 ∨ ed e = 1 ∨ ed e = 2) {d : DE} (h : dNext gw gh to ed du sh = some d) : dOK gw gh ed sh d := by
  have hN := G.N
  unfold dNext at h
  rcases dOr_some h with h | h
  · rcases dOr_some h with h | h
    · obtain ⟨i, hi, h⟩ := rL_so _ (Nat.le_refl _) h
      obtain ⟨_, rfl⟩ := ite_some h; rfl
    · rcases dOr_some h with h | h
      · obtain ⟨i, hi, h⟩ := rL_so _ (Nat.le_refl _) h
        obtain ⟨a, rfl⟩ := ite_some h
        exact ⟨by decide, rOp_its G (by omega) (by omega)⟩
      · rcases dOr_some h with h | h
        · obtain ⟨i, hi, h⟩ := rL_so _ (Nat.le_refl _) h
          obtain ⟨a, rfl⟩ := ite_some h
          exact ⟨by decide, rOp_its G (by omega) (by omega)⟩
        · obtain ⟨i, hi, h⟩ := rL_so _ (Nat.le_refl _) h
          obtain ⟨a, rfl⟩ := ite_some h
          exact ⟨by decide, rOp_its G (by omega) (by omega)⟩
  · rcases dOr_some h with h | h
    · rcases dOr_some h with h | h
      · obtain ⟨i, hi, h⟩ := rL_so _ (Nat.le_refl _) h
        obtain ⟨_, rfl⟩ := ite_some h; rfl
      · obtain ⟨i, hi, h⟩ := rL_so _ (Nat.le_refl _) h
        obtain ⟨a, rfl⟩ := ite_some h
        exact ⟨by decide, its_one ⟨a.1, a.2.1⟩⟩
    · rcases dOr_some h with h | h
      · obtain ⟨b, hb, h⟩ := rL_so _ (Nat.le_refl _) h
        unfold pBo at h
        split at h
        · cases h; rfl
        · split at h
          · rename_i _ h1
            cases h
            refine ⟨by decide, ?_⟩
            obtain ⟨_, e2, _, e4⟩ := bR_eq (gw := gw) (gh := gh) (ed := ed) (b := b) (2 * (gw * gh)) (Nat.le_refl _) 0 0 (-1)
            rw [h1, Nat.sub_self] at e2
            obtain ⟨e, a1, a2, a3, a4⟩ := e4 (by
              refine Classical.byContradiction (fun hn => ?_)
              have : sm (fun e => b01 (Bd gw gh b e && decide (ed e = 0))) (2 * (gw * gh)) = 0 := sm_0.mpr (fun i hi => by
                cases q1 : Bd gw gh b i
                · rfl
                · by_cases q2 : ed i = 0
                  · exact absurd ⟨i, by omega, hi, q1, q2⟩ hn
                  · rw [decide_eq_false q2]; rfl)
              rw [this] at e2
              have e3 : sm (fun e => b01 (Bd gw gh b e && decide (ed e = 0))) 0 = 0 := rfl
              omega)
            rw [a4]
            unfold Bd at a2
            exact its_one ⟨(Bool.and_eq_true _ _ ▸ a2 : _ ∧ _).1, a3⟩
          · cases h
      · rcases dOr_some h with h | h
        · obtain ⟨i, hi, h⟩ := rL_so _ (Nat.le_refl _) h
          unfold pBr at h
          split at h
          · rename_i a
            split at h
            · cases h; rfl
            · rename_i b
              cases h
              refine ⟨by decide, its_one ⟨a.1, ?_⟩⟩
              rcases h3 i a.1 with q | q | q
              · exact q
              · exact absurd q b
              · exact absurd q a.2.1
          · cases h
        · rcases dOr_some h with h | h
          · unfold dAp at h
            split at h
            · cases h
            · rcases dOr_some h with h | h
              · obtain ⟨i, hi, h⟩ := rL_so _ (Nat.le_refl _) h
                obtain ⟨_, rfl⟩ := ite_some h; rfl
              · obtain ⟨i, hi, h⟩ := rL_so _ (Nat.le_refl _) h
                obtain ⟨a, rfl⟩ := ite_some h
                exact ⟨by decide, its_one ⟨a.1, a.2.1⟩⟩
          · rcases dOr_some h with h | h
            · unfold dMa at h
              split at h
              · cases h
              · split at h
                · cases h; rfl
                · split at h
                  · split at h
                    · cases h
                    · rename_i hz
                      split at h
                      · cases h
                        exact ⟨by decide, rSh_its hz⟩
                      · cases h
                  · cases h; rfl
            · unfold dSp at h
              split at h
              · cases h
              · rcases dOr_some h with h | h
                · obtain ⟨i, hi, h⟩ := rL_so _ (Nat.le_refl _) h
                  obtain ⟨_, rfl⟩ := ite_some h; rfl
                · rcases dOr_some h with h | h
                  · obtain ⟨i, hi, h⟩ := rL_so _ (Nat.le_refl _) h
                    obtain ⟨a, rfl⟩ := ite_some h
                    exact ⟨by decide, its_one ⟨hi, a.1⟩⟩
                  · obtain ⟨i, hi, h⟩ := rL_so _ (Nat.le_refl _) h
                    obtain ⟨a, rfl⟩ := ite_some h
                    exact ⟨by decide, its_one ⟨hi, a.1⟩⟩
