/-! WHAT BOTH SIDES ANSWER. -/
section ANS
variable {gw gh : Nat} {onr onb ofr ofb mu ba bl wh : Int64} {ed du sh : Nat → Int32}
theorem isE_eq (G : GG gw gh) (a : Int32) : fHasEdge (nI (2 * (gw * gh))) (gAr gw gh) (gAb gw gh) a = rIsE gw gh a := by
  by_cases h : a < 0
  · rw [hasEdge_neg h, rIsE_neg h]
  · obtain ⟨j, hj, rfl⟩ := nI_of h
    rw [hasEdge_n G hj, rIsE_nI hj]
theorem isC_eq (a : Int32) : fHasCell (nI (gw * gh)) a = rIsC gw gh a := rfl
theorem rIsE_spec (G : GG gw gh) {a : Int32} (h : rIsE gw gh a = true) : ∃ e, isEn gw gh e = true ∧ a = nI e ∧ a.toNatClampNeg = e := by
  by_cases q : a < 0
  · rw [rIsE_neg q] at h; cases h
  · obtain ⟨j, hj, rfl⟩ := nI_of q
    rw [rIsE_nI hj] at h
    exact ⟨j, h, rfl, nI_clamp hj⟩
theorem rIsC_spec (G : GG gw gh) {a : Int32} (h : rIsC gw gh a = true) : ∃ c, c < gw * gh ∧ a = nI c ∧ a.toNatClampNeg = c := by
  have hN := G.N
  simp only [rIsC, Bool.and_eq_true, decide_eq_true_eq] at h
  obtain ⟨j, hj, rfl⟩ := nI_of h.1
  refine ⟨j, ?_, rfl, nI_clamp hj⟩
  have := h.2
  rw [nI_leI (by omega) hj] at this
  omega
theorem state_eq (G : GG gw gh) (R : Rel gw gh onr onb ofr ofb mu ba bl wh ed du sh) {e : Nat} (he : isEn gw gh e = true) : fState onr onb ofr ofb (nI e) = ed e := by
  unfold fState
  rw [Rp_has R.on (isEn_128 G he), Rp_has R.off (isEn_128 G he), he, Bool.true_and, Bool.true_and]
  rcases R.e3 e he with h | h | h <;> rw [h] <;> rfl
theorem tri_eq {x y : Int64} {N : Nat} (hN : N ≤ 64) {f : Nat → Int32} (h1 : ∀ c, c < 64 → bt x c = (decide (c < N) && decide (f c = 1))) (h2 : ∀ c, c < 64 → bt y c = (decide (c < N) && decide (f c = 2))) (h3 : ∀ c, c < N → f c = 0 ∨ f c = 1 ∨ f c = 2) {c : Nat} (hc : c < N) : fTri x y (nI c) = f c := by
  unfold fTri
  rw [holds_bt (by omega), holds_bt (by omega), h1 c (by omega), h2 c (by omega), decide_eq_true hc, Bool.true_and, Bool.true_and]
  rcases h3 c hc with h | h | h <;> rw [h] <;> rfl
theorem sh_eq (G : GG gw gh) (R : Rel gw gh onr onb ofr ofb mu ba bl wh ed du sh) {c : Nat} (hc : c < gw * gh) : fTri bl wh (nI c) = sh c := tri_eq G.N R.bl R.wh R.s3 hc
theorem du_eq (G : GG gw gh) (R : Rel gw gh onr onb ofr ofb mu ba bl wh ed du sh) {c : Nat} (hc : c < gw * gh) : fTri mu ba (nI c) = du c := tri_eq G.N R.mu R.ba R.d3 hc
theorem cnt_onA (G : GG gw gh) (R : Rel gw gh onr onb ofr ofb mu ba bl wh ed du sh) {c : Nat} (hc : c < gw * gh) : fCount (nI gw) onr onb (nI c) = nI (cnt gw gh ed c 1) := by
  have hN := G.N
  rw [count_n G R.on (by omega), cnt_eq G (by omega)]
theorem un_all (R : Rel gw gh onr onb ofr ofb mu ba bl wh ed du sh) (c d : Nat) : b01 (un gw gh (fun _ => true) c d) = b01 (un gw gh (fun e => decide (ed e = 1)) c d) + b01 (un gw gh (fun e => decide (ed e = 2)) c d) + b01 (un gw gh (fun e => decide (ed e = 0)) c d) := by
  unfold un
  dsimp only
  cases q : isEn gw gh (dI gw c d)
  · cases dX gw c d <;> rfl
  · rcases R.e3 _ q with h | h | h <;> rw [h] <;> cases dX gw c d <;> rfl
theorem cnt_opA (G : GG gw gh) (R : Rel gw gh onr onb ofr ofb mu ba bl wh ed du sh) {c : Nat} (hc : c < gw * gh) : fCount (nI gw) (gAr gw gh) (gAb gw gh) (nI c) - fCount (nI gw) onr onb (nI c) - fCount (nI gw) ofr ofb (nI c) = nI (cnt gw gh ed c 0) := by
  have hN := G.N
  rw [count_n G (Rp_all G) (by omega), count_n G R.on (by omega), count_n G R.off (by omega), cnt_eq G (by omega)]
  have : cn gw gh (fun _ => true) c = cn gw gh (fun e => decide (ed e = 1)) c + cn gw gh (fun e => decide (ed e = 2)) c + cn gw gh (fun e => decide (ed e = 0)) c := by
    unfold cn
    rw [un_all R, un_all R, un_all R, un_all R]
    omega
  rw [this, pk_sub (by omega), pk_sub (by omega)]
  congr 1
  omega
theorem end_eq (G : GG gw gh) {e : Nat} (he : isEn gw gh e = true) (z : Bool) : (if z then fGreater (nI gw) (nI e) else fLess (nI e)) = (if z then nI (oth gw e) else nI (e / 2)) := by
  have h := isEn_128 G he
  have h8 := G.w8
  rw [greater_n e h gw (by omega), less_n e h]
end ANS
/-! THE STATE OF BOTH SIDES WITH ITS MARKS. -/
abbrev CSt : Type := Int64 × Int64 × Int64 × Int64 × Int64 × Int64 × Int64 × Int64 × Int32 × Bool
abbrev CSt.onr (C : CSt) : Int64 := C.1
abbrev CSt.onb (C : CSt) : Int64 := C.2.1
abbrev CSt.ofr (C : CSt) : Int64 := C.2.2.1
abbrev CSt.ofb (C : CSt) : Int64 := C.2.2.2.1
abbrev CSt.mu (C : CSt) : Int64 := C.2.2.2.2.1
abbrev CSt.ba (C : CSt) : Int64 := C.2.2.2.2.2.1
abbrev CSt.bl (C : CSt) : Int64 := C.2.2.2.2.2.2.1
abbrev CSt.wh (C : CSt) : Int64 := C.2.2.2.2.2.2.2.1
abbrev CSt.to (C : CSt) : Int32 := C.2.2.2.2.2.2.2.2.1
abbrev CSt.wr (C : CSt) : Bool := C.2.2.2.2.2.2.2.2.2
abbrev CLg : Type := (Nat → Int32) × (Nat → Int32) × (Nat → Int32) × (Nat → Int32)
abbrev CLg.nu (C : CLg) : Nat → Int32 := C.1
abbrev CLg.pl (C : CLg) : Nat → Int32 := C.2.1
abbrev CLg.en (C : CLg) : Nat → Int32 := C.2.2.1
abbrev CLg.ch (C : CLg) : Nat → Int32 := C.2.2.2
abbrev RSt : Type := (Nat → Int32) × (Nat → Int32) × (Nat → Int32) × (Nat → Int32) × (Nat → Int32)
abbrev RSt.ed (C : RSt) : Nat → Int32 := C.1
abbrev RSt.du (C : RSt) : Nat → Int32 := C.2.1
abbrev RSt.sh (C : RSt) : Nat → Int32 := C.2.2.1
abbrev RSt.eb (C : RSt) : Nat → Int32 := C.2.2.2.1
abbrev RSt.sb (C : RSt) : Nat → Int32 := C.2.2.2.2
abbrev RLg : Type := (Nat → Int32) × (Nat → Int32) × (Nat → Int32) × (Nat → Int32)
abbrev RLg.nu (C : RLg) : Nat → Int32 := C.1
abbrev RLg.pl (C : RLg) : Nat → Int32 := C.2.1
abbrev RLg.bg (C : RLg) : Nat → Int32 := C.2.2.1
abbrev RLg.ch (C : RLg) : Nat → Int32 := C.2.2.2
abbrev RMk : Type := (Nat → Int32) × (Nat → Int32) × (Nat → Int32) × (Nat → Int32) × (Nat → Int32) × (Nat → Int32) × (Nat → Int32) × (Nat → Int32)
abbrev RMk.v1 (C : RMk) : Nat → Int32 := C.1
abbrev RMk.v2 (C : RMk) : Nat → Int32 := C.2.1
abbrev RMk.v3 (C : RMk) : Nat → Int32 := C.2.2.1
abbrev RMk.v4 (C : RMk) : Nat → Int32 := C.2.2.2.1
abbrev RMk.v5 (C : RMk) : Nat → Int32 := C.2.2.2.2.1
abbrev RMk.v6 (C : RMk) : Nat → Int32 := C.2.2.2.2.2.1
abbrev RMk.v7 (C : RMk) : Nat → Int32 := C.2.2.2.2.2.2.1
abbrev RMk.v8 (C : RMk) : Nat → Int32 := C.2.2.2.2.2.2.2
abbrev SnapC (gw gh mm calls : Nat) (nu : Nat → Int32) (B : Nat → Nat) (ch : Nat → Int32) (k : Nat) (C : CSt) (R : RSt) : Prop := Snap gw gh mm calls nu B ch k C.onr C.onb C.ofr C.ofb C.mu C.ba C.bl C.wh C.to C.wr R.ed R.du R.sh R.eb R.sb
abbrev LogC (L : CLg) (M : RLg) (B : Nat → Nat) (k : Nat) : Prop := LogR L.nu L.pl L.en L.ch M.nu M.pl M.bg M.ch B k
def mkS (V : RMk) (i : Nat) : RSt := ⟨fun e => V.v1 (128 * i + e), fun e => V.v2 (64 * i + e), fun e => V.v3 (64 * i + e), fun e => V.v4 (128 * i + e), fun e => V.v5 (64 * i + e)⟩
abbrev IV (gw gh mm calls : Nat) (C : CSt) (L : CLg) (k : Nat) (R : RSt) (M : RLg) (mk : Nat) (sf : Nat → Int32) (rc : Nat → CSt) (V : RMk) (B ks : Nat → Nat) : Prop := (LogC L M B k) ∧ (SnapC gw gh mm calls L.nu B L.ch k C R) ∧ (∀ i, i < mk → ks i ≤ k) ∧ (∀ i, i < mk → sf i = nI (ks i)) ∧ (∀ i, i < mk → V.v6 i = (rc i).to) ∧ (∀ i, i < mk → V.v7 i = nI (ks i)) ∧ (∀ i, i < mk → V.v8 i = b2i (rc i).wr) ∧ (∀ i j, i ≤ j → j < mk → ks i ≤ ks j) ∧ (∀ i, i < mk → SnapC gw gh mm calls L.nu B L.ch (ks i) (rc i) (mkS V i))
theorem IV.log {gw gh mm calls : Nat} {C : CSt} {L : CLg} {k : Nat} {R : RSt} {M : RLg} {mk : Nat} {sf : Nat → Int32} {rc : Nat → CSt} {V : RMk} {B ks : Nat → Nat} (h9 : IV gw gh mm calls C L k R M mk sf rc V B ks) : LogC L M B k := h9.1
theorem IV.now {gw gh mm calls : Nat} {C : CSt} {L : CLg} {k : Nat} {R : RSt} {M : RLg} {mk : Nat} {sf : Nat → Int32} {rc : Nat → CSt} {V : RMk} {B ks : Nat → Nat} (h9 : IV gw gh mm calls C L k R M mk sf rc V B ks) : SnapC gw gh mm calls L.nu B L.ch k C R := h9.2.1
theorem IV.le {gw gh mm calls : Nat} {C : CSt} {L : CLg} {k : Nat} {R : RSt} {M : RLg} {mk : Nat} {sf : Nat → Int32} {rc : Nat → CSt} {V : RMk} {B ks : Nat → Nat} (h9 : IV gw gh mm calls C L k R M mk sf rc V B ks) : ∀ i, i < mk → ks i ≤ k := h9.2.2.1
theorem IV.sf {gw gh mm calls : Nat} {C : CSt} {L : CLg} {k : Nat} {R : RSt} {M : RLg} {mk : Nat} {sf : Nat → Int32} {rc : Nat → CSt} {V : RMk} {B ks : Nat → Nat} (h9 : IV gw gh mm calls C L k R M mk sf rc V B ks) : ∀ i, i < mk → sf i = nI (ks i) := h9.2.2.2.1
theorem IV.v6 {gw gh mm calls : Nat} {C : CSt} {L : CLg} {k : Nat} {R : RSt} {M : RLg} {mk : Nat} {sf : Nat → Int32} {rc : Nat → CSt} {V : RMk} {B ks : Nat → Nat} (h9 : IV gw gh mm calls C L k R M mk sf rc V B ks) : ∀ i, i < mk → V.v6 i = (rc i).to := h9.2.2.2.2.1
theorem IV.v7 {gw gh mm calls : Nat} {C : CSt} {L : CLg} {k : Nat} {R : RSt} {M : RLg} {mk : Nat} {sf : Nat → Int32} {rc : Nat → CSt} {V : RMk} {B ks : Nat → Nat} (h9 : IV gw gh mm calls C L k R M mk sf rc V B ks) : ∀ i, i < mk → V.v7 i = nI (ks i) := h9.2.2.2.2.2.1
theorem IV.v8 {gw gh mm calls : Nat} {C : CSt} {L : CLg} {k : Nat} {R : RSt} {M : RLg} {mk : Nat} {sf : Nat → Int32} {rc : Nat → CSt} {V : RMk} {B ks : Nat → Nat} (h9 : IV gw gh mm calls C L k R M mk sf rc V B ks) : ∀ i, i < mk → V.v8 i = b2i (rc i).wr := h9.2.2.2.2.2.2.1
theorem IV.mono {gw gh mm calls : Nat} {C : CSt} {L : CLg} {k : Nat} {R : RSt} {M : RLg} {mk : Nat} {sf : Nat → Int32} {rc : Nat → CSt} {V : RMk} {B ks : Nat → Nat} (h9 : IV gw gh mm calls C L k R M mk sf rc V B ks) : ∀ i j, i ≤ j → j < mk → ks i ≤ ks j := h9.2.2.2.2.2.2.2.1
theorem IV.old {gw gh mm calls : Nat} {C : CSt} {L : CLg} {k : Nat} {R : RSt} {M : RLg} {mk : Nat} {sf : Nat → Int32} {rc : Nat → CSt} {V : RMk} {B ks : Nat → Nat} (h9 : IV gw gh mm calls C L k R M mk sf rc V B ks) : ∀ i, i < mk → SnapC gw gh mm calls L.nu B L.ch (ks i) (rc i) (mkS V i) := h9.2.2.2.2.2.2.2.2
section INV
variable {gw gh mm calls : Nat} {C : CSt} {L : CLg} {k : Nat} {R : RSt} {M : RLg} {mk : Nat} {sf : Nat → Int32} {rc : Nat → CSt} {V : RMk} {B ks : Nat → Nat}
theorem IV.more (I : IV gw gh mm calls C L k R M mk sf rc V B ks) : IV gw gh mm (calls + 1) C L k R M mk sf rc V B ks :=
  ⟨I.log, I.now.mono (by omega), I.le, I.sf, I.v6, I.v7, I.v8, I.mono, fun i hi => (I.old i hi).mono (by omega)⟩
theorem IV.set (I : IV gw gh mm calls C L k R M mk sf rc V B ks) {C' : CSt} {R' : RSt} (h : SnapC gw gh mm (calls + 1) L.nu B L.ch k C' R') : IV gw gh mm (calls + 1) C' L k R' M mk sf rc V B ks :=
  ⟨I.log, h, I.le, I.sf, I.v6, I.v7, I.v8, I.mono, fun i hi => (I.old i hi).mono (by omega)⟩
/-- a mark is set -/
theorem IV.mark (G : GG gw gh) (I : IV gw gh mm calls C L k R M mk sf rc V B ks) : IV gw gh mm (calls + 1) C L k R M (mk + 1) (upd sf mk (nI k)) (fun i => if i = mk then C else rc i) ⟨cp V.v1 R.ed (128 * mk) 128, cp V.v2 R.du (64 * mk) 64, cp V.v3 R.sh (64 * mk) 64, cp V.v4 R.eb (128 * mk) 128, cp V.v5 R.sb (64 * mk) 64, upd V.v6 mk C.to, upd V.v7 mk (nI k), upd V.v8 mk (b2i C.wr)⟩ B (fun i => if i = mk then k else ks i) := by
  refine ⟨I.log, I.now.mono (by omega), fun i hi => ?_, fun i hi => ?_, fun i hi => ?_, fun i hi => ?_, fun i hi => ?_, fun i j hij hj => ?_, fun i hi => ?_⟩
  · (try dsimp only); split
    · exact Nat.le_refl _
    · exact I.le i (by omega)
  · (try dsimp only [RMk.v6, RMk.v7, RMk.v8]); rw [upd_eq]; split
    · rfl
    · exact I.sf i (by omega)
  · (try dsimp only [RMk.v6, RMk.v7, RMk.v8]); rw [upd_eq]; split
    · rfl
    · exact I.v6 i (by omega)
  · (try dsimp only [RMk.v6, RMk.v7, RMk.v8]); rw [upd_eq]; split
    · rfl
    · exact I.v7 i (by omega)
  · (try dsimp only [RMk.v6, RMk.v7, RMk.v8]); rw [upd_eq]; split
    · rfl
    · exact I.v8 i (by omega)
  · try dsimp only
    by_cases q : j = mk
    · rw [if_pos q]; split
      · exact Nat.le_refl _
      · exact I.le i (by omega)
    · rw [if_neg q, if_neg (by omega)]; exact I.mono i j hij (by omega)
  · try dsimp only
    by_cases q : i = mk
    · rw [if_pos q, if_pos q]
      subst q
      refine Snap.fn G (I.now.mono (by omega)) (fun e he => ?_) (fun e he => ?_) (fun e he => ?_) (fun e he => ?_) (fun e he => ?_) <;> simp only [mkS, cp, RMk.v1, RMk.v2, RMk.v3, RMk.v4, RMk.v5, RSt.ed, RSt.du, RSt.sh, RSt.eb, RSt.sb] <;> rw [if_pos (by omega), Nat.add_sub_cancel_left]
    · rw [if_neg q, if_neg q]
      have hi' : i < mk := by omega
      have e1 : 128 * (i + 1) ≤ 128 * mk := Nat.mul_le_mul_left _ hi'
      have e2 : 64 * (i + 1) ≤ 64 * mk := Nat.mul_le_mul_left _ hi'
      refine Snap.fn G ((I.old i hi').mono (by omega)) (fun e he => ?_) (fun e he => ?_) (fun e he => ?_) (fun e he => ?_) (fun e he => ?_) <;> simp only [mkS, cp, RMk.v1, RMk.v2, RMk.v3, RMk.v4, RMk.v5, RSt.ed, RSt.du, RSt.sh, RSt.eb, RSt.sb] <;> rw [if_neg (by omega)]
/-- back to a mark -/
theorem IV.back (G : GG gw gh) (I : IV gw gh mm calls C L k R M mk sf rc V B ks) {j : Nat} (hj : j < mk) : IV gw gh mm (calls + 1) (rc j) L (ks j) ⟨cq R.ed V.v1 (128 * j) 128, cq R.du V.v2 (64 * j) 64, cq R.sh V.v3 (64 * j) 64, cq R.eb V.v4 (128 * j) 128, cq R.sb V.v5 (64 * j) 64⟩ M j sf rc V B ks := by
  refine ⟨I.log.pre (I.le j hj), ?_, fun i hi => I.mono i j (by omega) hj, fun i hi => I.sf i (by omega), fun i hi => I.v6 i (by omega), fun i hi => I.v7 i (by omega), fun i hi => I.v8 i (by omega), fun a b h1 h2 => I.mono a b h1 (by omega), fun i hi => (I.old i (by omega)).mono (by omega)⟩
  refine Snap.fn G ((I.old j hj).mono (by omega)) (fun e he => ?_) (fun e he => ?_) (fun e he => ?_) (fun e he => ?_) (fun e he => ?_) <;> simp only [mkS, cq, RMk.v1, RMk.v2, RMk.v3, RMk.v4, RMk.v5, RSt.ed, RSt.du, RSt.sh, RSt.eb, RSt.sb] <;> rw [if_pos he]
theorem IV.kn (I : IV gw gh mm calls C L k R M mk sf rc V B ks) (hc : calls ≤ 512) : k ≤ mm + 256 ∧ B k ≤ mm := by
  obtain ⟨W, a, b, c⟩ := I.now.bud
  have := b01_le C.wr
  omega
theorem IV.bg (I : IV gw gh mm calls C L k R M mk sf rc V B ks) (hc : calls ≤ 512) (hm : mm ≤ 176) : (∀ i, i < k → ∃ b0 b1, M.bg i = nI b0 ∧ M.bg (i + 1) = nI b1 ∧ b0 ≤ b1 ∧ b1 ≤ 4000) ∧ k ≤ 900 := by
  have hk := I.kn hc
  refine ⟨fun i hi => ⟨B i, B (i + 1), I.log.bg i (by omega), I.log.bg (i + 1) (by omega), I.log.mono i hi, ?_⟩, by omega⟩
  have := I.log.le (i := i + 1) k (by omega) (Nat.le_refl _)
  omega
end INV
