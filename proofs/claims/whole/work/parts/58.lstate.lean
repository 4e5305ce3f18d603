/-! THE LAW'S STATE. -/
section LHL
variable {p : Program} {l : Launch} {e : Env} {R : Room} {s : State} {m : MethodId} {args : Array Value} {below : List Frame} {meth : Method} {c : Code} {H : Heap} {locs : List Loc} {cells slots : Nat} {Q : State → Prop} {cc : ByteArray} {ls : Array Slot} {rest : List Value}
/-- 'x != 0' as an argument -/
theorem bool_arg {P : Nat} {x : Int32} (hx : p.tables.exec = Jvm.exec) (hb : c.code = cc) (d1 : decode cc P = .ok (.ifCond .eq 7, 3)) (d2 : decode cc (P + 3) = .ok (.iconst 1, 1)) (d3 : decode cc (P + 3 + 1) = .ok (.goto 4, 3)) (d4 : decode cc (P + 7) = .ok (.iconst 0, 1))
    (kk : W p l e R s m args below meth c H locs cells slots Q (F0 m (P + 8) ls (.int (b2i (decide (¬ x = 0))) :: rest))) : W p l e R s m args below meth c H locs cells slots Q (F0 m P ls (.int x :: rest)) := by
  refine lv_if_eq (tgt := P + 7) hx hb d1 (by omega) (fun q => ?_) (fun q => ?_)
  · refine lv_iconst (v := 0) hx hb d4 (by decide) ?_
    rw [decide_eq_false (fun z => z q)] at kk
    exact kk
  · refine lv_iconst (v := 1) hx hb d2 (by decide) ?_
    refine lv_goto (tgt := P + 8) hx hb d3 (by omega) ?_
    rw [decide_eq_true q] at kk
    exact kk
theorem bool_long {P : Nat} {x : Int32} (hx : p.tables.exec = Jvm.exec) (hb : c.code = cc) (d1 : decode cc P = .ok (.ifCond .eq 7, 3)) (d2 : decode cc (P + 3) = .ok (.lconst 1, 1)) (d3 : decode cc (P + 3 + 1) = .ok (.goto 4, 3)) (d4 : decode cc (P + 7) = .ok (.lconst 0, 1))
    (kk : W p l e R s m args below meth c H locs cells slots Q (F0 m (P + 8) ls (.long (if x = 0 then 0 else 1) :: rest))) : W p l e R s m args below meth c H locs cells slots Q (F0 m P ls (.int x :: rest)) := by
  refine lv_if_eq (tgt := P + 7) hx hb d1 (by omega) (fun q => ?_) (fun q => ?_)
  · refine lv_lconst (v := 0) hx hb d4 (by decide) ?_
    rw [if_pos q] at kk
    exact kk
  · refine lv_lconst (v := 1) hx hb d2 (by decide) ?_
    refine lv_goto (tgt := P + 8) hx hb d3 (by omega) ?_
    rw [if_neg q] at kk
    exact kk
/-- 'script[i + n]' -/
theorem sc_arg {P n i b L nL : Nat} {xs : Nat → Int32} {lv : List (Nat × Value)} (hx : p.tables.exec = Jvm.exec) (hb : c.code = cc) (hX : va_X b L xs s s.heap) (hbl : b < s.heap.size) (hS : va_S (fun q => s.heap.size ≤ q) s.heap H locs) (hl : lv_has ls nL lv) (k0 : (0, Value.ref b) ∈ lv) (k4 : (4, Value.int (nI i)) ∈ lv) (hin : i + n < L) (hL : L < 2 ^ 31) {N : Int} (hN : Int32.ofInt N = nI n)
    (d1 : decode cc P = .ok (.aload_n 0, 1)) (d2 : decode cc (P + 1) = .ok (.iload 4, 2)) (d3 : decode cc (P + 1 + 2) = .ok (.iconst N, 1)) (d4 : decode cc (P + 1 + 2 + 1) = .ok (.iadd, 1)) (d5 : decode cc (P + 1 + 2 + 1 + 1) = .ok (.iaload, 1))
    (kk : W p l e R s m args below meth c H locs cells slots Q (F0 m (P + 6) ls (.int (xs (i + n)) :: rest))) : W p l e R s m args below meth c H locs cells slots Q (F0 m P ls rest) := by
  refine lv_aload_n hx hb d1 rfl (hl.2.2 _ k0) ?_
  refine lv_iload hx hb d2 (hl.2.2 _ k4) ?_
  refine lv_iconst (v := nI n) hx hb d3 hN ?_
  refine lv_iadd hx hb d4 ?_
  rw [nI_add]
  refine va_sld hx hb hX hbl (fun q => by omega) hS (vp_in_nI hin hL) d5 ?_
  rw [nI_clamp (by omega)]
  exact kk
theorem cmp_self (x : Int64) : lg_cmp x x = 0 := by
  unfold lg_cmp
  simp [Int64.lt_irrefl]
end LHL
abbrev wCO (E : GE) (a : Nat → Nat) (o gw gh mm : Nat) (C : CSt) (L : CLg) (k mk : Nat) (mf : Nat → Option Nat) (sf : Nat → Int32) (x f : Nat → Int64) : va_W :=
  [oC E o f,
   (a 0, .inr (6, [.ref (a 2), .ref (a 4), .ref (a 10), .ref (a 1), .ref (a 15), .ref (a 16), .int (nI mk)])),
   (a 1, .inr (3, [.ref (a 2), .ref (a 4), .ref (a 10), .ref (a 7), .ref (a 8), .long (x 0), .long (x 1), .long (x 2), .long (x 3), .ref (a 9)])),
   (a 2, .inr (2, [.int (nI gw), .int (nI gh), .int (nI (gw * gh)), .int (nI ((gw - 1) * gh + gw * (gh - 1))), .int (nI (2 * (gw * gh))), .long (gCe gw gh), .ref (a 3)])),
   (a 3, .inr (1, [.int (nI gw), .long (gAr gw gh), .long (gAb gw gh)])),
   (a 4, .inr (4, [.ref (a 5), .ref (a 6), .long C.mu, .long C.ba, .long C.bl, .long C.wh, .int C.to, .int (b2i C.wr)])),
   (a 5, .inr (1, [.int (nI gw), .long C.onr, .long C.onb])),
   (a 6, .inr (1, [.int (nI gw), .long C.ofr, .long C.ofb])),
   (a 7, .inr (1, [.int (nI gw), .long (x 4), .long (x 5)])),
   (a 8, .inr (1, [.int (nI gw), .long (x 6), .long (x 7)])),
   (a 9, .inr (1, [.int (nI gw), .long (x 8), .long (x 9)])),
   (a 10, .inr (5, [.ref (a 11), .ref (a 12), .ref (a 13), .ref (a 14), .int (nI k)])),
   (a 11, .inl (E.2 0, mm + 256, .inl L.nu)),
   (a 12, .inl (E.2 0, mm + 256, .inl L.pl)),
   (a 13, .inl (E.2 0, mm + 256, .inl L.en)),
   (a 14, .inl (E.2 0, mm, .inl L.ch)),
   (a 15, .inl (E.2 2, 12, .inr (.inr (.inr (.inr mf))))),
   (a 16, .inl (E.2 0, 12, .inl sf))]
abbrev wRf (E : GE) (y : Nat → Nat) (gw gh : Nat) (th to : Int32) (wr : Bool) (k mk : Nat) (R : RSt) (M : RLg) (V : RMk) (rcm : Nat → Int32) : va_W :=
  [(y 0, .inr (7, [.int th, .int (nI gw), .int (nI gh), .ref (y 1), .ref (y 2), .ref (y 3), .int to, .int (b2i wr), .ref (y 4), .ref (y 5), .int (nI k), .ref (y 6), .ref (y 7), .ref (y 8), .ref (y 9), .int (nI mk), .ref (y 10), .ref (y 11), .ref (y 12), .ref (y 13), .ref (y 14), .ref (y 15), .ref (y 16), .ref (y 17), .ref (y 18)])),
   (y 1, .inl (E.2 0, 128, .inl R.ed)), (y 2, .inl (E.2 0, 64, .inl R.du)), (y 3, .inl (E.2 0, 64, .inl R.sh)), (y 4, .inl (E.2 0, 128, .inl R.eb)), (y 5, .inl (E.2 0, 64, .inl R.sb)),
   (y 6, .inl (E.2 0, 900, .inl M.nu)), (y 7, .inl (E.2 0, 900, .inl M.pl)), (y 8, .inl (E.2 0, 901, .inl M.bg)), (y 9, .inl (E.2 0, 4000, .inl M.ch)),
   (y 10, .inl (E.2 0, 1536, .inl V.v1)), (y 11, .inl (E.2 0, 768, .inl V.v2)), (y 12, .inl (E.2 0, 768, .inl V.v3)), (y 13, .inl (E.2 0, 1536, .inl V.v4)), (y 14, .inl (E.2 0, 768, .inl V.v5)), (y 15, .inl (E.2 0, 12, .inl V.v6)), (y 16, .inl (E.2 0, 12, .inl V.v7)), (y 17, .inl (E.2 1, 12, .inl V.v8)), (y 18, .inl (E.2 1, 64, .inl rcm))]
abbrev wRec (d : Nat × Nat × Nat) (gw : Nat) (C : CSt) : va_W := [(d.1, .inr (4, [.ref d.2.1, .ref d.2.2, .long C.mu, .long C.ba, .long C.bl, .long C.wh, .int C.to, .int (b2i C.wr)])), (d.2.1, .inr (1, [.int (nI gw), .long C.onr, .long C.onb])), (d.2.2, .inr (1, [.int (nI gw), .long C.ofr, .long C.ofb]))]
def wPool (d : Nat → Nat × Nat × Nat) (gw : Nat) (rc : Nat → CSt) (mx : Nat) : va_W := (List.range mx).flatMap (fun i => wRec (d i) gw (rc i))
abbrev mmOf (gw gh : Nat) : Nat := (gw - 1) * gh + gw * (gh - 1) + gw * gh
/-- the world with the law's calls behind it -/
def LIv (E : GE) (a y : Nat → Nat) (o gw gh calls : Nat) (s : State) (H : Heap) (locs : List Loc) (C : CSt) (L : CLg) (k mk : Nat) (mf : Nat → Option Nat) (sf : Nat → Int32) (x f : Nat → Int64) (th : Int32) (R : RSt) (M : RLg) (V : RMk) (rcm : Nat → Int32) (mx : Nat) (d : Nat → Nat × Nat × Nat) (rc : Nat → CSt) (B ks : Nat → Nat) : Prop :=
  IV gw gh (mmOf gw gh) calls C L k R M mk sf rc V B ks ∧ mk ≤ mx ∧ mx ≤ 12 ∧ (∀ i, i < mx → mf i = some (d i).1) ∧ (∀ i, mx ≤ i → mf i = none) ∧
  va_P E.1 vwCl (wCO E a o gw gh (mmOf gw gh) C L k mk mf sf x f ++ (wRf E y gw gh th C.to C.wr k mk R M V rcm ++ wPool d gw rc mx)) H ∧
  va_D (fun q => s.heap.size ≤ q) (wCO E a o gw gh (mmOf gw gh) C L k mk mf sf x f ++ (wRf E y gw gh th C.to C.wr k mk R M V rcm ++ wPool d gw rc mx)) ∧
  va_S (fun q => s.heap.size ≤ q) s.heap H locs
def LI (E : GE) (a y : Nat → Nat) (o gw gh calls : Nat) (s : State) (H : Heap) (locs : List Loc) : Prop :=
  ∃ C L k mk mf sf x f th R M V rcm mx d rc B ks, LIv E a y o gw gh calls s H locs C L k mk mf sf x f th R M V rcm mx d rc B ks
/-- what stands all along -/
def LE (p : Program) (l : Launch) (s : State) (m : MethodId) (meth : Method) (c : Code) (b Lx : Nat) (xs : Nat → Int32) (E : GE) : Prop :=
  p.tables.exec = Jvm.exec ∧ c.code = cL_law ∧ c.maxLocals = 7 ∧ s.vm.findClass RL = some m.cls ∧ (∀ w ∈ wsL_law ++ tW, w.before #[.ref b] s = true) ∧ ev E s ∧ va_X b Lx xs s s.heap ∧ b < s.heap.size ∧ tx (fun q => s.heap.size ≤ q) s s.heap ∧ l.stackTraces = false ∧ Lx ≤ 1538
abbrev lvL (b : Nat) (a y : Nat → Nat) (o i : Nat) : List (Nat × Value) := [(4, .int (nI i)), (3, .ref o), (2, .ref (y 0)), (1, .ref (a 0)), (0, .ref b)]
theorem goodL {x : List Cond} (h : GoodIn wsL_law x) : GoodIn (wsL_law ++ tW) x := fun w hw => ⟨List.mem_append_left _ (h w hw).1, (h w hw).2⟩
