def lp_X1_stepsTaking (st : Nat → Option GS) (b0 : Int32) : Nat → Int32 → Nat → Int32
  | 0, _, _ => 0
  | k + 1, n, i => (if (12 : Int32) ≤ (nI i) then n else (oe (st i) (lp_X1_stepsTaking st b0 k n (i + 1)) (fun y => lp_X1_stepsTaking st b0 k (n + (f_X0_ownStepsTaking y b0)) (i + 1))))
def f_X1_stepsTaking (st : Nat → Option GS) (b0 : Int32) : Int32 := lp_X1_stepsTaking st b0 13 (0 : Int32) 0
set_option maxHeartbeats 4000000 in
set_option maxRecDepth 100000 in
theorem c_X1_stepsTaking (l : Launch) (H0 : Heap) (D : va_G) (cI cJ cZ cG : ClassId) (b P : Nat) (ad : Nat → ga) (st : Nat → Option GS) (b0 : Int32) (hI : BI st) (hPB : va_P D vwCl (BW cI cJ cG b P ad st) H0) : pu l yX1_stepsTaking wsX1_stepsTaking ({ frames := 1, cells := 0, slots := 0, locals := 23 }) [Value.ref b, Value.int b0] (KW D cI cJ cZ cG) H0 (some (.int (f_X1_stepsTaking st b0))) := by
  refine Met.ofW (cc := cX1_stepsTaking) (maxL := 5) (ret := (some .int)) (by decide) rfl ?_
  intro p e s m args below meth c s₁ B hml hv
  obtain ⟨rfl, hH, hKW⟩ := hv
  have hx := B.exec
  have hb := B.bytes
  have hr := B.returns
  have hts := atoms_spec (ws := wsX1_stepsTaking) B.pre
  have hown : s.vm.findClass RX1 = some m.cls := findClass_of_methodNamed B.named
  have hlocks := B.notSynchronized
  subst hH
  have hK := hKW.1
  have hl := lv_entry ([Value.ref b, Value.int b0]) (n := 5) (Nat.le_of_ble_eq_true rfl)
  rw [lg_entry_eq]
  generalize (lg_sl ([Value.ref b, Value.int b0]) ++ List.replicate (5 - (lg_sl ([Value.ref b, Value.int b0])).length) Slot.unset).toArray = ls at hl ⊢
  have hl : lv_has ls 5 [(0, .ref b), (1, .int b0)] := hl
  have hinX1 : ∀ w ∈ u_ws RX1 TX1 1, w ∈ wsX1_stepsTaking := by decide +kernel
  have hB : va_P D vwCl [(b, .inr (1, [.ref P])), (P, .inl (cG, 12, .inr (.inr (.inr (.inr (pl ad st))))))] s.heap := BW_board hPB
  refine lv_iconst (v := 0) hx hb dX1_stepsTaking_0 (by decide) ?_
  refine lv_istore_n (lv' := [(2, .int (0 : Int32)), (0, .ref b), (1, .int b0)]) hx hb dX1_stepsTaking_1 rfl hl (by decide) rfl (fun ls hl => ?_)
  refine lv_iconst (v := 0) hx hb dX1_stepsTaking_2 (by decide) ?_
  refine lv_istore_n (lv' := [(3, .int (0 : Int32)), (2, .int (0 : Int32)), (0, .ref b), (1, .int b0)]) hx hb dX1_stepsTaking_3 rfl hl (by decide) rfl (fun ls hl => ?_)
  have hloop : ∀ (k i : Nat) (n : Int32), i ≤ 12 → 13 ≤ i + k → lp_X1_stepsTaking st b0 k n i = f_X1_stepsTaking st b0 → ∀ ls : Array Slot, lv_has ls 5 [(3, .int (nI i)), (2, .int n), (0, .ref b), (1, .int b0)] → W p l e (headSpec wsX1_stepsTaking { frames := 1, cells := 0, slots := 0, locals := 23 }).room s m [Value.ref b, Value.int b0].toArray below meth c s.heap [] 0 0 (MQ below (fun _ _ o t => o = .returned (some (.int (f_X1_stepsTaking st b0))) ∧ t.heap = s.heap) [Value.ref b, Value.int b0].toArray s 0 0 (fun _ => False)) (F0 m 4 ls []) := by
    intro k
    induction k with
    | zero => intro i n h1 h2; omega
    | succ k ih =>
      intro i n hi hk hf ls hl
      refine lv_iload_n hx hb dX1_stepsTaking_4 rfl (lv_at hl 0 rfl) ?_
      refine lv_bipush (v := 12) hx hb dX1_stepsTaking_5 (by decide) ?_
      refine lv_icmp_ge (tgt := 38) hx hb dX1_stepsTaking_7 (by decide) (fun c_1 => ?_) (fun c_1 => ?_)
      · refine lv_iload_n hx hb dX1_stepsTaking_38 rfl (lv_at hl 1 rfl) ?_
        exact W.iret (v := n) hx hb hr (fun t ht hW => ⟨congrArg (fun z => Outcome.returned (some (Value.int z))) (by rw [← hf, lp_X1_stepsTaking, if_pos c_1]), ht⟩) (fun _ h => nomatch h) dX1_stepsTaking_39
      · refine lv_aload_n hx hb dX1_stepsTaking_10 rfl (lv_at hl 2 rfl) ?_
        refine va_get (D := D) (ci := 1) (v := .ref P) (C := RX1) (T := TX1) (N := 1) hx hb hts hinX1 hown hK hB 0 rfl rfl 0 (by decide) (hts (.fieldLink RX1 11 "GaugeBoard" "places" "[LGaugeBoard$Gauge;") (by decide +kernel)) (fun _ h9 => h9) rfl dX1_stepsTaking_11 ?_
        refine lv_iload_n hx hb dX1_stepsTaking_14 rfl (lv_at hl 0 rfl) ?_
        refine va_aldq hx hb hK hB 1 3 rfl rfl (vp_in_nI (nlt12 c_1 (by omega)) (by decide)) dX1_stepsTaking_15 ?_
        rcases hs : st i with _ | y
        · refine W.eq (g2 := F0 m 16 ls [.null]) (by rw [pl_no (by omega) hs]) ?_
          refine lv_astoreN (lv' := [(4, .null), (3, .int (nI i)), (2, .int n), (0, .ref b), (1, .int b0)]) hx hb dX1_stepsTaking_16 hl (by decide) rfl (fun ls hl => ?_)
          refine lv_aloadN hx hb dX1_stepsTaking_18 (lv_at hl 0 rfl) ?_
          refine lv_ifnullN (tgt := 32) hx hb dX1_stepsTaking_20 (by decide) ?_
          refine lv_iinc (v := (nI i) + 1) (lv' := [(3, .int ((nI i) + 1)), (4, .null), (2, .int n), (0, .ref b), (1, .int b0)]) hx hb dX1_stepsTaking_32 hl (k := 1) rfl rfl (by decide) rfl (fun ls hl => ?_)
          refine lv_goto (tgt := 4) hx hb dX1_stepsTaking_35 (by decide) ?_
          have hl := lv_sub hl [0, 2, 3, 4] rfl
          rw [nI_1] at hl
          exact ih (i + 1) n (nlt12 c_1 (by omega)) (by omega) (by rw [← hf, lp_X1_stepsTaking, if_neg c_1, oe_none hs]) ls hl
        · refine W.eq (g2 := F0 m 16 ls [.ref ((ad i).1)]) (by rw [pl_of (by omega) hs]) ?_
          have hy : va_P D vwCl [((ad i).1, .inr (0, [.ref ((ad i).2.1), .ref ((ad i).2.2.1), .ref ((ad i).2.2.2), .int (gK y), .int (gC y), .long (gV y), .int (gM y), .long (gH y), .long (gL y), .int (gR y), .int (gW y)])), ((ad i).2.1, .inl (cI, 8, .inl (gSo y))), ((ad i).2.2.1, .inl (cI, 8, .inl (gSr y))), ((ad i).2.2.2, .inl (cJ, 8, .inr (.inl (gOp y))))] s.heap := BW_gauge hPB (nlt12 c_1 (by omega)) hs
          refine lv_astore (lv' := [(4, .ref ((ad i).1)), (3, .int (nI i)), (2, .int n), (0, .ref b), (1, .int b0)]) hx hb dX1_stepsTaking_16 hl (by decide) rfl (fun ls hl => ?_)
          refine lv_aload hx hb dX1_stepsTaking_18 (lv_at hl 0 rfl) ?_
          refine lv_ifnull hx hb dX1_stepsTaking_20 ?_
          refine lv_iload_n hx hb dX1_stepsTaking_23 rfl (lv_at hl 2 rfl) ?_
          refine lv_aload hx hb dX1_stepsTaking_24 (lv_at hl 0 rfl) ?_
          refine lv_iload_n hx hb dX1_stepsTaking_26 rfl (lv_at hl 4 rfl) ?_
          refine pu_VN (As := [.int b0]) (rest := [.int n]) ⟨hx, hb, hml, hown, hts⟩ (c_X0_ownStepsTaking l s.heap D cI cJ cZ cG (ad i) y b0 (hI i (nlt12 c_1 (by omega)) y hs).1 hy) (KW_puK D cI cJ cZ cG) hKW ⟨va_cnB 1 hts gX1_stepsTaking_X0_ownStepsTaking_n44 rfl rfl rfl (hKW.2 _ (List.mem_of_getElem? (i := 12) rfl)) (hts (.initialized RX0) (by decide +kernel)) (by decide +kernel) ⟨Nat.le_of_ble_eq_true rfl, Nat.le_of_ble_eq_true rfl⟩, hts (.instanceMethod yX0_ownStepsTaking) (by decide +kernel), hts (.selects RX0 yX0_ownStepsTaking yX0_ownStepsTaking) (by decide +kernel)⟩ (va_recv hK hy (ci := 0) (q0 := 0) rfl rfl) rfl hl.1 rfl (Nat.le_of_ble_eq_true rfl) dX1_stepsTaking_27 ⟨Nat.zero_le _, Nat.zero_le _⟩ ?_
          refine W.eq (g2 := F0 m 30 ls [.int (f_X0_ownStepsTaking y b0), .int n]) rfl ?_
          refine lv_iadd hx hb dX1_stepsTaking_30 ?_
          refine lv_istore_n (lv' := [(2, .int (n + (f_X0_ownStepsTaking y b0))), (4, .ref ((ad i).1)), (3, .int (nI i)), (0, .ref b), (1, .int b0)]) hx hb dX1_stepsTaking_31 rfl hl (by decide) rfl (fun ls hl => ?_)
          refine lv_iinc (v := (nI i) + 1) (lv' := [(3, .int ((nI i) + 1)), (2, .int (n + (f_X0_ownStepsTaking y b0))), (4, .ref ((ad i).1)), (0, .ref b), (1, .int b0)]) hx hb dX1_stepsTaking_32 hl (k := 2) rfl rfl (by decide) rfl (fun ls hl => ?_)
          refine lv_goto (tgt := 4) hx hb dX1_stepsTaking_35 (by decide) ?_
          have hl := lv_sub hl [0, 1, 3, 4] rfl
          rw [nI_1] at hl
          exact ih (i + 1) (n + (f_X0_ownStepsTaking y b0)) (nlt12 c_1 (by omega)) (by omega) (by rw [← hf, lp_X1_stepsTaking, if_neg c_1, oe_some hs]) ls hl
  exact hloop 13 0 (0 : Int32) (Nat.zero_le _) (Nat.le_refl _) (rfl) ls (lv_sub hl [0, 1, 2, 3] rfl)
def lp_X1_gauges (st : Nat → Option GS) : Nat → Int32 → Nat → Int32
  | 0, _, _ => 0
  | k + 1, n, i => (if (12 : Int32) ≤ (nI i) then n else (oe (st i) (lp_X1_gauges st k n (i + 1)) (fun y => lp_X1_gauges st k (n + 1) (i + 1))))
def f_X1_gauges (st : Nat → Option GS) : Int32 := lp_X1_gauges st 13 (0 : Int32) 0
set_option maxHeartbeats 4000000 in
set_option maxRecDepth 100000 in
theorem c_X1_gauges (l : Launch) (H0 : Heap) (D : va_G) (cI cJ cZ cG : ClassId) (b P : Nat) (ad : Nat → ga) (st : Nat → Option GS) (hPB : va_P D vwCl (BW cI cJ cG b P ad st) H0) : pu l yX1_gauges wsX1_gauges ({ frames := 0, cells := 0, slots := 0, locals := 0 }) [Value.ref b] (KW D cI cJ cZ cG) H0 (some (.int (f_X1_gauges st))) := by
  refine Met.ofW (cc := cX1_gauges) (maxL := 3) (ret := (some .int)) (by decide) rfl ?_
  intro p e s m args below meth c s₁ B hml hv
  obtain ⟨rfl, hH, hKW⟩ := hv
  have hx := B.exec
  have hb := B.bytes
  have hr := B.returns
  have hts := atoms_spec (ws := wsX1_gauges) B.pre
  have hown : s.vm.findClass RX1 = some m.cls := findClass_of_methodNamed B.named
  have hlocks := B.notSynchronized
  subst hH
  have hK := hKW.1
  have hl := lv_entry ([Value.ref b]) (n := 3) (Nat.le_of_ble_eq_true rfl)
  rw [lg_entry_eq]
  generalize (lg_sl ([Value.ref b]) ++ List.replicate (3 - (lg_sl ([Value.ref b])).length) Slot.unset).toArray = ls at hl ⊢
  have hl : lv_has ls 3 [(0, .ref b)] := hl
  have hinX1 : ∀ w ∈ u_ws RX1 TX1 1, w ∈ wsX1_gauges := by decide +kernel
  have hB : va_P D vwCl [(b, .inr (1, [.ref P])), (P, .inl (cG, 12, .inr (.inr (.inr (.inr (pl ad st))))))] s.heap := BW_board hPB
  refine lv_iconst (v := 0) hx hb dX1_gauges_0 (by decide) ?_
  refine lv_istore_n (lv' := [(1, .int (0 : Int32)), (0, .ref b)]) hx hb dX1_gauges_1 rfl hl (by decide) rfl (fun ls hl => ?_)
  refine lv_iconst (v := 0) hx hb dX1_gauges_2 (by decide) ?_
  refine lv_istore_n (lv' := [(2, .int (0 : Int32)), (1, .int (0 : Int32)), (0, .ref b)]) hx hb dX1_gauges_3 rfl hl (by decide) rfl (fun ls hl => ?_)
  have hloop : ∀ (k i : Nat) (n : Int32), i ≤ 12 → 13 ≤ i + k → lp_X1_gauges st k n i = f_X1_gauges st → ∀ ls : Array Slot, lv_has ls 3 [(2, .int (nI i)), (1, .int n), (0, .ref b)] → W p l e (headSpec wsX1_gauges { frames := 0, cells := 0, slots := 0, locals := 0 }).room s m [Value.ref b].toArray below meth c s.heap [] 0 0 (MQ below (fun _ _ o t => o = .returned (some (.int (f_X1_gauges st))) ∧ t.heap = s.heap) [Value.ref b].toArray s 0 0 (fun _ => False)) (F0 m 4 ls []) := by
    intro k
    induction k with
    | zero => intro i n h1 h2; omega
    | succ k ih =>
      intro i n hi hk hf ls hl
      refine lv_iload_n hx hb dX1_gauges_4 rfl (lv_at hl 0 rfl) ?_
      refine lv_bipush (v := 12) hx hb dX1_gauges_5 (by decide) ?_
      refine lv_icmp_ge (tgt := 28) hx hb dX1_gauges_7 (by decide) (fun c_1 => ?_) (fun c_1 => ?_)
      · refine lv_iload_n hx hb dX1_gauges_28 rfl (lv_at hl 1 rfl) ?_
        exact W.iret (v := n) hx hb hr (fun t ht hW => ⟨congrArg (fun z => Outcome.returned (some (Value.int z))) (by rw [← hf, lp_X1_gauges, if_pos c_1]), ht⟩) (fun _ h => nomatch h) dX1_gauges_29
      · refine lv_aload_n hx hb dX1_gauges_10 rfl (lv_at hl 2 rfl) ?_
        refine va_get (D := D) (ci := 1) (v := .ref P) (C := RX1) (T := TX1) (N := 1) hx hb hts hinX1 hown hK hB 0 rfl rfl 0 (by decide) (hts (.fieldLink RX1 11 "GaugeBoard" "places" "[LGaugeBoard$Gauge;") (by decide +kernel)) (fun _ h9 => h9) rfl dX1_gauges_11 ?_
        refine lv_iload_n hx hb dX1_gauges_14 rfl (lv_at hl 0 rfl) ?_
        refine va_aldq hx hb hK hB 1 3 rfl rfl (vp_in_nI (nlt12 c_1 (by omega)) (by decide)) dX1_gauges_15 ?_
        rcases hs : st i with _ | y
        · refine W.eq (g2 := F0 m 16 ls [.null]) (by rw [pl_no (by omega) hs]) ?_
          refine lv_ifnullN (tgt := 22) hx hb dX1_gauges_16 (by decide) ?_
          refine lv_iinc (v := (nI i) + 1) (lv' := [(2, .int ((nI i) + 1)), (1, .int n), (0, .ref b)]) hx hb dX1_gauges_22 hl (k := 0) rfl rfl (by decide) rfl (fun ls hl => ?_)
          refine lv_goto (tgt := 4) hx hb dX1_gauges_25 (by decide) ?_
          have hl := lv_sub hl [0, 1, 2] rfl
          rw [nI_1] at hl
          exact ih (i + 1) n (nlt12 c_1 (by omega)) (by omega) (by rw [← hf, lp_X1_gauges, if_neg c_1, oe_none hs]) ls hl
        · refine W.eq (g2 := F0 m 16 ls [.ref ((ad i).1)]) (by rw [pl_of (by omega) hs]) ?_
          have hy : va_P D vwCl [((ad i).1, .inr (0, [.ref ((ad i).2.1), .ref ((ad i).2.2.1), .ref ((ad i).2.2.2), .int (gK y), .int (gC y), .long (gV y), .int (gM y), .long (gH y), .long (gL y), .int (gR y), .int (gW y)])), ((ad i).2.1, .inl (cI, 8, .inl (gSo y))), ((ad i).2.2.1, .inl (cI, 8, .inl (gSr y))), ((ad i).2.2.2, .inl (cJ, 8, .inr (.inl (gOp y))))] s.heap := BW_gauge hPB (nlt12 c_1 (by omega)) hs
          refine lv_ifnull hx hb dX1_gauges_16 ?_
          refine lv_iinc (v := n + 1) (lv' := [(1, .int (n + 1)), (2, .int (nI i)), (0, .ref b)]) hx hb dX1_gauges_19 hl (k := 1) rfl rfl (by decide) rfl (fun ls hl => ?_)
          refine lv_iinc (v := (nI i) + 1) (lv' := [(2, .int ((nI i) + 1)), (1, .int (n + 1)), (0, .ref b)]) hx hb dX1_gauges_22 hl (k := 1) rfl rfl (by decide) rfl (fun ls hl => ?_)
          refine lv_goto (tgt := 4) hx hb dX1_gauges_25 (by decide) ?_
          have hl := lv_sub hl [0, 1, 2] rfl
          rw [nI_1] at hl
          exact ih (i + 1) (n + 1) (nlt12 c_1 (by omega)) (by omega) (by rw [← hf, lp_X1_gauges, if_neg c_1, oe_some hs]) ls hl
  exact hloop 13 0 (0 : Int32) (Nat.zero_le _) (Nat.le_refl _) (rfl) ls (lv_sub hl [0, 1, 2] rfl)
def lp_X1_rank (st : Nat → Option GS) (x : GS) : Nat → Int32 → Nat → Int32
  | 0, _, _ => 0
  | k + 1, n, i => (if (12 : Int32) ≤ (nI i) then n else (oe (st i) (lp_X1_rank st x k n (i + 1)) (fun y => (if (gK y) = (gK x) then (if (f_X1_isAbove (gV y) (gV x) (gK x)) = 0 then lp_X1_rank st x k (n + 1) (i + 1) else lp_X1_rank st x k n (i + 1)) else lp_X1_rank st x k n (i + 1)))))
def f_X1_rank (st : Nat → Option GS) (x : GS) : Int32 := lp_X1_rank st x 13 (0 : Int32) 0
set_option maxHeartbeats 4000000 in
set_option maxRecDepth 100000 in
theorem c_X1_rank (l : Launch) (H0 : Heap) (D : va_G) (cI cJ cZ cG : ClassId) (b P : Nat) (ad : Nat → ga) (st : Nat → Option GS) (j : Nat) (x : GS) (hj : j < 12) (hst1 : st j = some x) (hPB : va_P D vwCl (BW cI cJ cG b P ad st) H0) : pu l yX1_rank wsX1_rank ({ frames := 3, cells := 0, slots := 0, locals := 66 }) [Value.ref b, Value.int (nI j)] (KW D cI cJ cZ cG) H0 (some (.int (f_X1_rank st x))) := by
  refine Met.ofW (cc := cX1_rank) (maxL := 6) (ret := (some .int)) (by decide) rfl ?_
  intro p e s m args below meth c s₁ B hml hv
  obtain ⟨rfl, hH, hKW⟩ := hv
  have hx := B.exec
  have hb := B.bytes
  have hr := B.returns
  have hts := atoms_spec (ws := wsX1_rank) B.pre
  have hown : s.vm.findClass RX1 = some m.cls := findClass_of_methodNamed B.named
  have hlocks := B.notSynchronized
  subst hH
  have hK := hKW.1
  have hl := lv_entry ([Value.ref b, Value.int (nI j)]) (n := 6) (Nat.le_of_ble_eq_true rfl)
  rw [lg_entry_eq]
  generalize (lg_sl ([Value.ref b, Value.int (nI j)]) ++ List.replicate (6 - (lg_sl ([Value.ref b, Value.int (nI j)])).length) Slot.unset).toArray = ls at hl ⊢
  have hl : lv_has ls 6 [(0, .ref b), (1, .int (nI j))] := hl
  have hinX0 : ∀ w ∈ u_ws RX0 TX0 11, w ∈ wsX1_rank := by decide +kernel
  have hinX1 : ∀ w ∈ u_ws RX1 TX1 1, w ∈ wsX1_rank := by decide +kernel
  have hB : va_P D vwCl [(b, .inr (1, [.ref P])), (P, .inl (cG, 12, .inr (.inr (.inr (.inr (pl ad st))))))] s.heap := BW_board hPB
  have hg : va_P D vwCl [((ad j).1, .inr (0, [.ref ((ad j).2.1), .ref ((ad j).2.2.1), .ref ((ad j).2.2.2), .int (gK x), .int (gC x), .long (gV x), .int (gM x), .long (gH x), .long (gL x), .int (gR x), .int (gW x)])), ((ad j).2.1, .inl (cI, 8, .inl (gSo x))), ((ad j).2.2.1, .inl (cI, 8, .inl (gSr x))), ((ad j).2.2.2, .inl (cJ, 8, .inr (.inl (gOp x))))] s.heap := BW_gauge hPB hj hst1
  refine lv_aload_n hx hb dX1_rank_0 rfl (lv_at hl 0 rfl) ?_
  refine lv_iload_n hx hb dX1_rank_1 rfl (lv_at hl 1 rfl) ?_
  refine pu_V (As := [.int (nI j)]) (rest := []) ⟨hx, hb, hml, hown, hts⟩ (c_X1_needGauge l s.heap D cI cJ cZ cG b P ad st j x hj hst1 hPB) (KW_puK D cI cJ cZ cG) hKW (cwV 1 hts gX1_rank_X1_needGauge rfl rfl rfl (by decide +kernel) ⟨Nat.le_of_ble_eq_true rfl, Nat.le_of_ble_eq_true rfl⟩) (va_recv hK hB (ci := 1) (q0 := 0) rfl rfl) rfl hl.1 rfl (Nat.le_of_ble_eq_true rfl) dX1_rank_2 ⟨Nat.zero_le _, Nat.zero_le _⟩ ?_
  refine W.eq (g2 := F0 m 5 ls [.ref ((ad j).1)]) rfl ?_
  refine lv_astore_n (lv' := [(2, .ref ((ad j).1)), (0, .ref b), (1, .int (nI j))]) hx hb dX1_rank_5 rfl hl (by decide) rfl (fun ls hl => ?_)
  refine lv_iconst (v := 0) hx hb dX1_rank_6 (by decide) ?_
  refine lv_istore_n (lv' := [(3, .int (0 : Int32)), (2, .ref ((ad j).1)), (0, .ref b), (1, .int (nI j))]) hx hb dX1_rank_7 rfl hl (by decide) rfl (fun ls hl => ?_)
  refine lv_iconst (v := 0) hx hb dX1_rank_8 (by decide) ?_
  refine lv_istore (lv' := [(4, .int (0 : Int32)), (3, .int (0 : Int32)), (2, .ref ((ad j).1)), (0, .ref b), (1, .int (nI j))]) hx hb dX1_rank_9 hl (by decide) rfl (fun ls hl => ?_)
  have hloop : ∀ (k i : Nat) (n : Int32), i ≤ 12 → 13 ≤ i + k → lp_X1_rank st x k n i = f_X1_rank st x → ∀ ls : Array Slot, lv_has ls 6 [(4, .int (nI i)), (3, .int n), (0, .ref b), (1, .int (nI j)), (2, .ref ((ad j).1))] → W p l e (headSpec wsX1_rank { frames := 3, cells := 0, slots := 0, locals := 66 }).room s m [Value.ref b, Value.int (nI j)].toArray below meth c s.heap [] 0 0 (MQ below (fun _ _ o t => o = .returned (some (.int (f_X1_rank st x))) ∧ t.heap = s.heap) [Value.ref b, Value.int (nI j)].toArray s 0 0 (fun _ => False)) (F0 m 11 ls []) := by
    intro k
    induction k with
    | zero => intro i n h1 h2; omega
    | succ k ih =>
      intro i n hi hk hf ls hl
      refine lv_iload hx hb dX1_rank_11 (lv_at hl 0 rfl) ?_
      refine lv_bipush (v := 12) hx hb dX1_rank_13 (by decide) ?_
      refine lv_icmp_ge (tgt := 72) hx hb dX1_rank_15 (by decide) (fun c_1 => ?_) (fun c_1 => ?_)
      · refine lv_iload_n hx hb dX1_rank_72 rfl (lv_at hl 1 rfl) ?_
        exact W.iret (v := n) hx hb hr (fun t ht hW => ⟨congrArg (fun z => Outcome.returned (some (Value.int z))) (by rw [← hf, lp_X1_rank, if_pos c_1]), ht⟩) (fun _ h => nomatch h) dX1_rank_73
      · refine lv_aload_n hx hb dX1_rank_18 rfl (lv_at hl 2 rfl) ?_
        refine va_get (D := D) (ci := 1) (v := .ref P) (C := RX1) (T := TX1) (N := 1) hx hb hts hinX1 hown hK hB 0 rfl rfl 0 (by decide) (hts (.fieldLink RX1 11 "GaugeBoard" "places" "[LGaugeBoard$Gauge;") (by decide +kernel)) (fun _ h9 => h9) rfl dX1_rank_19 ?_
        refine lv_iload hx hb dX1_rank_22 (lv_at hl 0 rfl) ?_
        refine va_aldq hx hb hK hB 1 3 rfl rfl (vp_in_nI (nlt12 c_1 (by omega)) (by decide)) dX1_rank_24 ?_
        rcases hs : st i with _ | y
        · refine W.eq (g2 := F0 m 25 ls [.null]) (by rw [pl_no (by omega) hs]) ?_
          refine lv_astoreN (lv' := [(5, .null), (4, .int (nI i)), (3, .int n), (0, .ref b), (1, .int (nI j)), (2, .ref ((ad j).1))]) hx hb dX1_rank_25 hl (by decide) rfl (fun ls hl => ?_)
          refine lv_aloadN hx hb dX1_rank_27 (lv_at hl 0 rfl) ?_
          refine lv_ifnullN (tgt := 66) hx hb dX1_rank_29 (by decide) ?_
          refine lv_iinc (v := (nI i) + 1) (lv' := [(4, .int ((nI i) + 1)), (5, .null), (3, .int n), (0, .ref b), (1, .int (nI j)), (2, .ref ((ad j).1))]) hx hb dX1_rank_66 hl (k := 1) rfl rfl (by decide) rfl (fun ls hl => ?_)
          refine lv_goto (tgt := 11) hx hb dX1_rank_69 (by decide) ?_
          have hl := lv_sub hl [0, 2, 3, 4, 5] rfl
          rw [nI_1] at hl
          exact ih (i + 1) n (nlt12 c_1 (by omega)) (by omega) (by rw [← hf, lp_X1_rank, if_neg c_1, oe_none hs]) ls hl
        · refine W.eq (g2 := F0 m 25 ls [.ref ((ad i).1)]) (by rw [pl_of (by omega) hs]) ?_
          have hy : va_P D vwCl [((ad i).1, .inr (0, [.ref ((ad i).2.1), .ref ((ad i).2.2.1), .ref ((ad i).2.2.2), .int (gK y), .int (gC y), .long (gV y), .int (gM y), .long (gH y), .long (gL y), .int (gR y), .int (gW y)])), ((ad i).2.1, .inl (cI, 8, .inl (gSo y))), ((ad i).2.2.1, .inl (cI, 8, .inl (gSr y))), ((ad i).2.2.2, .inl (cJ, 8, .inr (.inl (gOp y))))] s.heap := BW_gauge hPB (nlt12 c_1 (by omega)) hs
          refine lv_astore (lv' := [(5, .ref ((ad i).1)), (4, .int (nI i)), (3, .int n), (0, .ref b), (1, .int (nI j)), (2, .ref ((ad j).1))]) hx hb dX1_rank_25 hl (by decide) rfl (fun ls hl => ?_)
          refine lv_aload hx hb dX1_rank_27 (lv_at hl 0 rfl) ?_
          refine lv_ifnull hx hb dX1_rank_29 ?_
          refine lv_aload hx hb dX1_rank_32 (lv_at hl 0 rfl) ?_
          refine va_getN (D := D) (ci := 0) (v := .int (gK y)) (C := RX0) (T := TX0) (N := 11) hx hb hts hinX0 hown hK hy 0 rfl rfl 3 (by decide) (hKW.n 3 rfl rfl) (fun _ h9 => h9) rfl dX1_rank_34 ?_
          refine lv_aload_n hx hb dX1_rank_37 rfl (lv_at hl 5 rfl) ?_
          refine va_getN (D := D) (ci := 0) (v := .int (gK x)) (C := RX0) (T := TX0) (N := 11) hx hb hts hinX0 hown hK hg 0 rfl rfl 3 (by decide) (hKW.n 3 rfl rfl) (fun _ h9 => h9) rfl dX1_rank_38 ?_
          refine lv_icmp_ne (tgt := 66) hx hb dX1_rank_41 (by decide) (fun c_2 => ?_) (fun c_2 => ?_)
          · refine lv_iinc (v := (nI i) + 1) (lv' := [(4, .int ((nI i) + 1)), (5, .ref ((ad i).1)), (3, .int n), (0, .ref b), (1, .int (nI j)), (2, .ref ((ad j).1))]) hx hb dX1_rank_66 hl (k := 1) rfl rfl (by decide) rfl (fun ls hl => ?_)
            refine lv_goto (tgt := 11) hx hb dX1_rank_69 (by decide) ?_
            have hl := lv_sub hl [0, 2, 3, 4, 5] rfl
            rw [nI_1] at hl
            exact ih (i + 1) n (nlt12 c_1 (by omega)) (by omega) (by rw [← hf, lp_X1_rank, if_neg c_1, oe_some hs, if_neg c_2]) ls hl
          · refine lv_aload hx hb dX1_rank_44 (lv_at hl 0 rfl) ?_
            refine va_getN (D := D) (ci := 0) (v := .long (gV y)) (C := RX0) (T := TX0) (N := 11) hx hb hts hinX0 hown hK hy 0 rfl rfl 5 (by decide) (hKW.n 5 rfl rfl) (fun _ h9 => h9) rfl dX1_rank_46 ?_
            refine lv_aload_n hx hb dX1_rank_49 rfl (lv_at hl 5 rfl) ?_
            refine va_getN (D := D) (ci := 0) (v := .long (gV x)) (C := RX0) (T := TX0) (N := 11) hx hb hts hinX0 hown hK hg 0 rfl rfl 5 (by decide) (hKW.n 5 rfl rfl) (fun _ h9 => h9) rfl dX1_rank_50 ?_
            refine lv_aload_n hx hb dX1_rank_53 rfl (lv_at hl 5 rfl) ?_
            refine va_getN (D := D) (ci := 0) (v := .int (gK x)) (C := RX0) (T := TX0) (N := 11) hx hb hts hinX0 hown hK hg 0 rfl rfl 3 (by decide) (hKW.n 3 rfl rfl) (fun _ h9 => h9) rfl dX1_rank_54 ?_
            refine pu_S (As := [.long (gV y), .long (gV x), .int (gK x)]) (rest := []) ⟨hx, hb, hml, hown, hts⟩ (c_X1_isAbove l s.heap (gV y) (gV x) (gK x)) puK_T trivial (va_cwS 3 hts gX1_rank_X1_isAbove rfl rfl rfl (by decide +kernel) ⟨Nat.le_of_ble_eq_true rfl, Nat.le_of_ble_eq_true rfl⟩) rfl hl.1 rfl (Nat.le_of_ble_eq_true rfl) dX1_rank_57 ⟨Nat.zero_le _, Nat.zero_le _⟩ ?_
            refine W.eq (g2 := F0 m 60 ls [.int (f_X1_isAbove (gV y) (gV x) (gK x))]) rfl ?_
            refine lv_if_ne (tgt := 66) hx hb dX1_rank_60 (by decide) (fun c_3 => ?_) (fun c_3 => ?_)
            · refine lv_iinc (v := (nI i) + 1) (lv' := [(4, .int ((nI i) + 1)), (5, .ref ((ad i).1)), (3, .int n), (0, .ref b), (1, .int (nI j)), (2, .ref ((ad j).1))]) hx hb dX1_rank_66 hl (k := 1) rfl rfl (by decide) rfl (fun ls hl => ?_)
              refine lv_goto (tgt := 11) hx hb dX1_rank_69 (by decide) ?_
              have hl := lv_sub hl [0, 2, 3, 4, 5] rfl
              rw [nI_1] at hl
              exact ih (i + 1) n (nlt12 c_1 (by omega)) (by omega) (by rw [← hf, lp_X1_rank, if_neg c_1, oe_some hs, if_pos c_2, if_neg c_3]) ls hl
            · refine lv_iinc (v := n + 1) (lv' := [(3, .int (n + 1)), (5, .ref ((ad i).1)), (4, .int (nI i)), (0, .ref b), (1, .int (nI j)), (2, .ref ((ad j).1))]) hx hb dX1_rank_63 hl (k := 2) rfl rfl (by decide) rfl (fun ls hl => ?_)
              refine lv_iinc (v := (nI i) + 1) (lv' := [(4, .int ((nI i) + 1)), (3, .int (n + 1)), (5, .ref ((ad i).1)), (0, .ref b), (1, .int (nI j)), (2, .ref ((ad j).1))]) hx hb dX1_rank_66 hl (k := 2) rfl rfl (by decide) rfl (fun ls hl => ?_)
              refine lv_goto (tgt := 11) hx hb dX1_rank_69 (by decide) ?_
              have hl := lv_sub hl [0, 1, 3, 4, 5] rfl
              rw [nI_1] at hl
              exact ih (i + 1) (n + 1) (nlt12 c_1 (by omega)) (by omega) (by rw [← hf, lp_X1_rank, if_neg c_1, oe_some hs, if_pos c_2, if_pos c_3]) ls hl
  exact hloop 13 0 (0 : Int32) (Nat.zero_le _) (Nat.le_refl _) (rfl) ls (lv_sub hl [0, 1, 3, 4, 2] rfl)
set_option maxHeartbeats 4000000 in
set_option maxRecDepth 100000 in
theorem t_X1_rank (l : Launch) (hst : l.stackTraces = false) (z : Nat) (H0 : Heap) (hz : z ≤ H0.size) (D : va_G) (cI cJ cZ cG : ClassId) (b P : Nat) (ad : Nat → ga) (st : Nat → Option GS) (b0 : Int32) (hn : gat st b0 = none) (hPB : va_P D vwCl (BW cI cJ cG b P ad st) H0) : th l yX1_rank wsX1_rank ({ frames := 7, cells := 1, slots := 6, locals := 104 }) [Value.ref b, Value.int b0] (KZ D cI cJ cZ cG z H0) H0 "java/util/NoSuchElementException" := by
  refine vx_ofW (cc := cX1_rank) (maxL := 6) (ret := (some .int)) (by decide) rfl ?_
  intro p e s m args below meth c s₁ B hml hex hv
  obtain ⟨rfl, hH, hKZ⟩ := hv
  have hx := B.exec
  have hb := B.bytes
  have hr := B.returns
  have hts := atoms_spec (ws := wsX1_rank) B.pre
  have hown : s.vm.findClass RX1 = some m.cls := findClass_of_methodNamed B.named
  have hlocks := B.notSynchronized
  subst hH
  have hKW := hKZ.1
  have hK := hKW.1
  have hl := lv_entry ([Value.ref b, Value.int b0]) (n := 6) (Nat.le_of_ble_eq_true rfl)
  rw [lg_entry_eq]
  generalize (lg_sl ([Value.ref b, Value.int b0]) ++ List.replicate (6 - (lg_sl ([Value.ref b, Value.int b0])).length) Slot.unset).toArray = ls at hl ⊢
  have hl : lv_has ls 6 [(0, .ref b), (1, .int b0)] := hl
  have hB : va_P D vwCl [(b, .inr (1, [.ref P])), (P, .inl (cG, 12, .inr (.inr (.inr (.inr (pl ad st))))))] s.heap := BW_board hPB
  refine lv_aload_n hx hb dX1_rank_0 rfl (lv_at hl 0 rfl) ?_
  refine lv_iload_n hx hb dX1_rank_1 rfl (lv_at hl 1 rfl) ?_
  exact th_V (As := [.int b0]) (rest := []) ⟨hx, hb, hml, hown, hts⟩ (t_X1_needGauge l hst z s.heap hz D cI cJ cZ cG b P ad st b0 hn hPB) (KZ_puK D cI cJ cZ cG z s.heap) hKZ (cwV 1 hts gX1_rank_X1_needGauge rfl rfl rfl (by decide +kernel) ⟨Nat.le_of_ble_eq_true rfl, Nat.le_of_ble_eq_true rfl⟩) (va_recv hK hB (ci := 1) (q0 := 0) rfl rfl) rfl hl.1 rfl (Nat.le_of_ble_eq_true rfl) dX1_rank_2 ⟨Nat.le_of_ble_eq_true rfl, Nat.le_of_ble_eq_true rfl⟩ hex hlocks
set_option maxHeartbeats 4000000 in
set_option maxRecDepth 100000 in
theorem n_X1_operandOf (l : Launch) (H0 : Heap) (D : va_G) (cI cJ cZ cG : ClassId) (b P : Nat) (ad : Nat → ga) (st : Nat → Option GS) (j : Nat) (x : GS) (i : Nat) (hj : j < 12) (hst1 : st j = some x) (hi8 : i < 8) (hn : gat st ((gSr x) (nI i).toNatClampNeg) = none) (hPB : va_P D vwCl (BW cI cJ cG b P ad st) H0) : pu l yX1_operandOf wsX1_operandOf ({ frames := 2, cells := 0, slots := 0, locals := 41 }) [Value.ref b, Value.ref ((ad j).1), Value.int (nI i)] (KW D cI cJ cZ cG) H0 (some (.long ((gOp x) (nI i).toNatClampNeg))) := by
  refine Met.ofW (cc := cX1_operandOf) (maxL := 4) (ret := (some .long)) (by decide) rfl ?_
  intro p e s m args below meth c s₁ B hml hv
  obtain ⟨rfl, hH, hKW⟩ := hv
  have hx := B.exec
  have hb := B.bytes
  have hr := B.returns
  have hts := atoms_spec (ws := wsX1_operandOf) B.pre
  have hown : s.vm.findClass RX1 = some m.cls := findClass_of_methodNamed B.named
  have hlocks := B.notSynchronized
  subst hH
  have hK := hKW.1
  have hl := lv_entry ([Value.ref b, Value.ref ((ad j).1), Value.int (nI i)]) (n := 4) (Nat.le_of_ble_eq_true rfl)
  rw [lg_entry_eq]
  generalize (lg_sl ([Value.ref b, Value.ref ((ad j).1), Value.int (nI i)]) ++ List.replicate (4 - (lg_sl ([Value.ref b, Value.ref ((ad j).1), Value.int (nI i)])).length) Slot.unset).toArray = ls at hl ⊢
  have hl : lv_has ls 4 [(0, .ref b), (1, .ref ((ad j).1)), (2, .int (nI i))] := hl
  have hinX0 : ∀ w ∈ u_ws RX0 TX0 11, w ∈ wsX1_operandOf := by decide +kernel
  have hB : va_P D vwCl [(b, .inr (1, [.ref P])), (P, .inl (cG, 12, .inr (.inr (.inr (.inr (pl ad st))))))] s.heap := BW_board hPB
  have hg : va_P D vwCl [((ad j).1, .inr (0, [.ref ((ad j).2.1), .ref ((ad j).2.2.1), .ref ((ad j).2.2.2), .int (gK x), .int (gC x), .long (gV x), .int (gM x), .long (gH x), .long (gL x), .int (gR x), .int (gW x)])), ((ad j).2.1, .inl (cI, 8, .inl (gSo x))), ((ad j).2.2.1, .inl (cI, 8, .inl (gSr x))), ((ad j).2.2.2, .inl (cJ, 8, .inr (.inl (gOp x))))] s.heap := BW_gauge hPB hj hst1
  refine lv_aload_n hx hb dX1_operandOf_0 rfl (lv_at hl 0 rfl) ?_
  refine lv_aload_n hx hb dX1_operandOf_1 rfl (lv_at hl 1 rfl) ?_
  refine va_getN (D := D) (ci := 0) (v := .ref ((ad j).2.2.1)) (C := RX0) (T := TX0) (N := 11) hx hb hts hinX0 hown hK hg 0 rfl rfl 1 (by decide) (hKW.n 1 rfl rfl) (fun _ h9 => h9) rfl dX1_operandOf_2 ?_
  refine lv_iload_n hx hb dX1_operandOf_5 rfl (lv_at hl 2 rfl) ?_
  refine va_iald hx hb hK hg 2 0 rfl rfl (vp_in_nI hi8 (by decide)) dX1_operandOf_6 ?_
  refine pu_V (As := [.int ((gSr x) (nI i).toNatClampNeg)]) (rest := []) ⟨hx, hb, hml, hown, hts⟩ (n_X1_gaugeAt l s.heap D cI cJ cZ cG b P ad st ((gSr x) (nI i).toNatClampNeg) hn hPB) (KW_puK D cI cJ cZ cG) hKW (cwV 1 hts gX1_operandOf_X1_gaugeAt rfl rfl rfl (by decide +kernel) ⟨Nat.le_of_ble_eq_true rfl, Nat.le_of_ble_eq_true rfl⟩) (va_recv hK hB (ci := 1) (q0 := 0) rfl rfl) rfl hl.1 rfl (Nat.le_of_ble_eq_true rfl) dX1_operandOf_7 ⟨Nat.zero_le _, Nat.zero_le _⟩ ?_
  refine W.eq (g2 := F0 m 10 ls [.null]) rfl ?_
  refine lv_astore_nN (lv' := [(3, .null), (0, .ref b), (1, .ref ((ad j).1)), (2, .int (nI i))]) hx hb dX1_operandOf_10 rfl hl (by decide) rfl (fun ls hl => ?_)
  refine lv_aload_nN hx hb dX1_operandOf_11 rfl (lv_at hl 0 rfl) ?_
  refine lv_ifnonnullN hx hb dX1_operandOf_12 ?_
  refine lv_aload_n hx hb dX1_operandOf_15 rfl (lv_at hl 2 rfl) ?_
  refine va_getN (D := D) (ci := 0) (v := .ref ((ad j).2.2.2)) (C := RX0) (T := TX0) (N := 11) hx hb hts hinX0 hown hK hg 0 rfl rfl 2 (by decide) (hKW.n 2 rfl rfl) (fun _ h9 => h9) rfl dX1_operandOf_16 ?_
  refine lv_iload_n hx hb dX1_operandOf_19 rfl (lv_at hl 3 rfl) ?_
  refine va_lald hx hb hK hg 3 1 rfl rfl (vp_in_nI hi8 (by decide)) dX1_operandOf_20 ?_
  refine lv_goto (tgt := 28) hx hb dX1_operandOf_21 (by decide) ?_
  exact W.lret (v := (gOp x) (nI i).toNatClampNeg) hx hb hr (fun t ht hW => ⟨congrArg (fun z => Outcome.returned (some (Value.long z))) (rfl), ht⟩) (fun _ h => nomatch h) dX1_operandOf_28
set_option maxHeartbeats 4000000 in
set_option maxRecDepth 100000 in
theorem s_X1_operandOf (l : Launch) (H0 : Heap) (D : va_G) (cI cJ cZ cG : ClassId) (b P : Nat) (ad : Nat → ga) (st : Nat → Option GS) (j : Nat) (x : GS) (i : Nat) (j2 : Nat) (y : GS) (hj : j < 12) (hst1 : st j = some x) (hi8 : i < 8) (hj2 : j2 < 12) (hst2 : st j2 = some y) (hsr : (gSr x) (nI i).toNatClampNeg = nI j2) (hPB : va_P D vwCl (BW cI cJ cG b P ad st) H0) : pu l yX1_operandOf wsX1_operandOf ({ frames := 2, cells := 0, slots := 0, locals := 41 }) [Value.ref b, Value.ref ((ad j).1), Value.int (nI i)] (KW D cI cJ cZ cG) H0 (some (.long (gV y))) := by
  refine Met.ofW (cc := cX1_operandOf) (maxL := 4) (ret := (some .long)) (by decide) rfl ?_
  intro p e s m args below meth c s₁ B hml hv
  obtain ⟨rfl, hH, hKW⟩ := hv
  have hx := B.exec
  have hb := B.bytes
  have hr := B.returns
  have hts := atoms_spec (ws := wsX1_operandOf) B.pre
  have hown : s.vm.findClass RX1 = some m.cls := findClass_of_methodNamed B.named
  have hlocks := B.notSynchronized
  subst hH
  have hK := hKW.1
  have hl := lv_entry ([Value.ref b, Value.ref ((ad j).1), Value.int (nI i)]) (n := 4) (Nat.le_of_ble_eq_true rfl)
  rw [lg_entry_eq]
  generalize (lg_sl ([Value.ref b, Value.ref ((ad j).1), Value.int (nI i)]) ++ List.replicate (4 - (lg_sl ([Value.ref b, Value.ref ((ad j).1), Value.int (nI i)])).length) Slot.unset).toArray = ls at hl ⊢
  have hl : lv_has ls 4 [(0, .ref b), (1, .ref ((ad j).1)), (2, .int (nI i))] := hl
  have hinX0 : ∀ w ∈ u_ws RX0 TX0 11, w ∈ wsX1_operandOf := by decide +kernel
  have hB : va_P D vwCl [(b, .inr (1, [.ref P])), (P, .inl (cG, 12, .inr (.inr (.inr (.inr (pl ad st))))))] s.heap := BW_board hPB
  have hg : va_P D vwCl [((ad j).1, .inr (0, [.ref ((ad j).2.1), .ref ((ad j).2.2.1), .ref ((ad j).2.2.2), .int (gK x), .int (gC x), .long (gV x), .int (gM x), .long (gH x), .long (gL x), .int (gR x), .int (gW x)])), ((ad j).2.1, .inl (cI, 8, .inl (gSo x))), ((ad j).2.2.1, .inl (cI, 8, .inl (gSr x))), ((ad j).2.2.2, .inl (cJ, 8, .inr (.inl (gOp x))))] s.heap := BW_gauge hPB hj hst1
  have hg2 : va_P D vwCl [((ad j2).1, .inr (0, [.ref ((ad j2).2.1), .ref ((ad j2).2.2.1), .ref ((ad j2).2.2.2), .int (gK y), .int (gC y), .long (gV y), .int (gM y), .long (gH y), .long (gL y), .int (gR y), .int (gW y)])), ((ad j2).2.1, .inl (cI, 8, .inl (gSo y))), ((ad j2).2.2.1, .inl (cI, 8, .inl (gSr y))), ((ad j2).2.2.2, .inl (cJ, 8, .inr (.inl (gOp y))))] s.heap := BW_gauge hPB hj2 hst2
  refine lv_aload_n hx hb dX1_operandOf_0 rfl (lv_at hl 0 rfl) ?_
  refine lv_aload_n hx hb dX1_operandOf_1 rfl (lv_at hl 1 rfl) ?_
  refine va_getN (D := D) (ci := 0) (v := .ref ((ad j).2.2.1)) (C := RX0) (T := TX0) (N := 11) hx hb hts hinX0 hown hK hg 0 rfl rfl 1 (by decide) (hKW.n 1 rfl rfl) (fun _ h9 => h9) rfl dX1_operandOf_2 ?_
  refine lv_iload_n hx hb dX1_operandOf_5 rfl (lv_at hl 2 rfl) ?_
  refine va_iald hx hb hK hg 2 0 rfl rfl (vp_in_nI hi8 (by decide)) dX1_operandOf_6 ?_
  refine W.eq (g2 := F0 m 7 ls [.int (nI j2), .ref b]) (by rw [hsr]) ?_
  refine pu_V (As := [.int (nI j2)]) (rest := []) ⟨hx, hb, hml, hown, hts⟩ (c_X1_gaugeAt l s.heap D cI cJ cZ cG b P ad st j2 y hj2 hst2 hPB) (KW_puK D cI cJ cZ cG) hKW (cwV 1 hts gX1_operandOf_X1_gaugeAt rfl rfl rfl (by decide +kernel) ⟨Nat.le_of_ble_eq_true rfl, Nat.le_of_ble_eq_true rfl⟩) (va_recv hK hB (ci := 1) (q0 := 0) rfl rfl) rfl hl.1 rfl (Nat.le_of_ble_eq_true rfl) dX1_operandOf_7 ⟨Nat.zero_le _, Nat.zero_le _⟩ ?_
  refine W.eq (g2 := F0 m 10 ls [.ref ((ad j2).1)]) rfl ?_
  refine lv_astore_n (lv' := [(3, .ref ((ad j2).1)), (0, .ref b), (1, .ref ((ad j).1)), (2, .int (nI i))]) hx hb dX1_operandOf_10 rfl hl (by decide) rfl (fun ls hl => ?_)
  refine lv_aload_n hx hb dX1_operandOf_11 rfl (lv_at hl 0 rfl) ?_
  refine lv_ifnonnull (tgt := 24) hx hb dX1_operandOf_12 (by decide) ?_
  refine lv_aload_n hx hb dX1_operandOf_24 rfl (lv_at hl 0 rfl) ?_
  refine va_getN (D := D) (ci := 0) (v := .long (gV y)) (C := RX0) (T := TX0) (N := 11) hx hb hts hinX0 hown hK hg2 0 rfl rfl 5 (by decide) (hKW.n 5 rfl rfl) (fun _ h9 => h9) rfl dX1_operandOf_25 ?_
  exact W.lret (v := gV y) hx hb hr (fun t ht hW => ⟨congrArg (fun z => Outcome.returned (some (Value.long z))) (rfl), ht⟩) (fun _ h => nomatch h) dX1_operandOf_28
/-- the operand of step i -/
def opnd (st : Nat → Option GS) (x : GS) (i : Nat) : Int64 := oe (gat st ((gSr x) (nI i).toNatClampNeg)) ((gOp x) (nI i).toNatClampNeg) (fun y => gV y)
theorem c_X1_operandOf (l : Launch) (H0 : Heap) (D : va_G) (cI cJ cZ cG : ClassId) (b P : Nat) (ad : Nat → ga) (st : Nat → Option GS) (j : Nat) (x : GS) (i : Nat) (hj : j < 12) (hst1 : st j = some x) (hi8 : i < 8) (hPB : va_P D vwCl (BW cI cJ cG b P ad st) H0) : pu l yX1_operandOf wsX1_operandOf ({ frames := 2, cells := 0, slots := 0, locals := 41 }) [Value.ref b, Value.ref (ad j).1, Value.int (nI i)] (KW D cI cJ cZ cG) H0 (some (.long (opnd st x i))) := by
  unfold opnd
  rcases hg : gat st ((gSr x) (nI i).toNatClampNeg) with _ | y
  · rw [oe_none rfl]
    exact n_X1_operandOf l H0 D cI cJ cZ cG b P ad st j x i hj hst1 hi8 hg hPB
  · rw [oe_some rfl]
    obtain ⟨j2, hj2, e, hst2⟩ := gat_some hg
    exact s_X1_operandOf l H0 D cI cJ cZ cG b P ad st j x i j2 y hj hst1 hi8 hj2 hst2 e hPB
def lp_X1_takeReading (st : Nat → Option GS) (x : GS) : Nat → Int64 → Nat → Int64 × GS
  | 0, _, _ => (0, x)
  | k + 1, v, i => (if (gC x) ≤ (nI i) then (v, (F_X0_takeValue x v)) else lp_X1_takeReading st x k (f_X1_afterStep ((gSo x) (nI i).toNatClampNeg) v (opnd st x i) (gK x)) (i + 1))
def F_X1_takeReading (st : Nat → Option GS) (x : GS) (b1 : Int64) : Int64 × GS := lp_X1_takeReading st x 9 b1 0
set_option maxHeartbeats 4000000 in
set_option maxRecDepth 100000 in
theorem c_X1_takeReading (l : Launch) (H0 : Heap) (D : va_G) (cI cJ cZ cG : ClassId) (b P : Nat) (ad : Nat → ga) (st : Nat → Option GS) (j : Nat) (x : GS) (b1 : Int64) (hj : j < 12) (hst1 : st j = some x) (hc : vp_in (gC x) 9) (hPB : va_P D vwCl (BW cI cJ cG b P ad st) H0) (hD0 : va_D (fun _ => True) (BW cI cJ cG b P ad st)) : wr l yX1_takeReading wsX1_takeReading ({ frames := 5, cells := 0, slots := 0, locals := 115 }) [Value.ref b, Value.ref ((ad j).1), Value.long b1] (KW D cI cJ cZ cG) H0 (some (.long (F_X1_takeReading st x b1).1)) D (BW cI cJ cG b P ad st) (fun w => w = BW cI cJ cG b P ad (va_up st j (some (F_X1_takeReading st x b1).2))) 0 0 := by
  refine Met.ofW (cc := cX1_takeReading) (maxL := 7) (ret := (some .long)) (by decide) rfl ?_
  intro p e s m args below meth c s₁ B hml hv
  obtain ⟨rfl, hH, hKW⟩ := hv
  have hx := B.exec
  have hb := B.bytes
  have hr := B.returns
  have hts := atoms_spec (ws := wsX1_takeReading) B.pre
  have hown : s.vm.findClass RX1 = some m.cls := findClass_of_methodNamed B.named
  have hlocks := B.notSynchronized
  subst hH
  have hK := hKW.1
  have hl := lv_entry ([Value.ref b, Value.ref ((ad j).1), Value.long b1]) (n := 7) (Nat.le_of_ble_eq_true rfl)
  rw [lg_entry_eq]
  generalize (lg_sl ([Value.ref b, Value.ref ((ad j).1), Value.long b1]) ++ List.replicate (7 - (lg_sl ([Value.ref b, Value.ref ((ad j).1), Value.long b1])).length) Slot.unset).toArray = ls at hl ⊢
  have hl : lv_has ls 7 [(0, .ref b), (1, .ref ((ad j).1)), (2, .long b1)] := hl
  have hinX0 : ∀ w ∈ u_ws RX0 TX0 11, w ∈ wsX1_takeReading := by decide +kernel
  have hB : va_P D vwCl [(b, .inr (1, [.ref P])), (P, .inl (cG, 12, .inr (.inr (.inr (.inr (pl ad st))))))] s.heap := BW_board hPB
  have hD := hD0.self (sz := s.heap.size)
  generalize hAe : va_A (BW cI cJ cG b P ad st) s.heap.size = A at hD ⊢
  have hA : ∀ q : Nat, s.heap.size ≤ q → A q := fun q h => by rw [← hAe]; exact Or.inr h
  have hS : va_S A s.heap s.heap [] := va_S.rf
  have hP := wd_P.perm hPB (BW_perm hj hst1)
  have hD := wd_D.perm hD (BW_perm hj hst1)
  obtain ⟨Rw, hRw⟩ : ∃ R, R = BB cG b P (pl ad st) ++ BG cI cJ ad (va_up st j none) 12 := ⟨_, rfl⟩
  rw [← hRw] at hP hD
  have hP : va_P D vwCl ([((ad j).1, .inr (0, [.ref ((ad j).2.1), .ref ((ad j).2.2.1), .ref ((ad j).2.2.2), .int (gK x), .int (gC x), .long (gV x), .int (gM x), .long (gH x), .long (gL x), .int (gR x), .int (gW x)])), ((ad j).2.1, .inl (cI, 8, .inl (gSo x))), ((ad j).2.2.1, .inl (cI, 8, .inl (gSr x))), ((ad j).2.2.2, .inl (cJ, 8, .inr (.inl (gOp x))))] ++ Rw) s.heap := hP
  have hD : va_D A ([((ad j).1, .inr (0, [.ref ((ad j).2.1), .ref ((ad j).2.2.1), .ref ((ad j).2.2.2), .int (gK x), .int (gC x), .long (gV x), .int (gM x), .long (gH x), .long (gL x), .int (gR x), .int (gW x)])), ((ad j).2.1, .inl (cI, 8, .inl (gSo x))), ((ad j).2.2.1, .inl (cI, 8, .inl (gSr x))), ((ad j).2.2.2, .inl (cJ, 8, .inr (.inl (gOp x))))] ++ Rw) := hD
  refine lv_lload_n hx hb dX1_takeReading_0 rfl (lv_at hl 2 rfl) ?_
  refine lv_lstore (lv' := [(4, .long b1), (0, .ref b), (1, .ref ((ad j).1)), (2, .long b1)]) hx hb dX1_takeReading_1 hl (by decide) rfl (fun ls hl => ?_)
  refine lv_iconst (v := 0) hx hb dX1_takeReading_3 (by decide) ?_
  refine lv_istore (lv' := [(6, .int (0 : Int32)), (4, .long b1), (0, .ref b), (1, .ref ((ad j).1)), (2, .long b1)]) hx hb dX1_takeReading_4 hl (by decide) rfl (fun ls hl => ?_)
  have hloop : ∀ (k i : Nat) (v : Int64), i ≤ 8 → 9 ≤ i + k → lp_X1_takeReading st x k v i = F_X1_takeReading st x b1 → ∀ ls : Array Slot, lv_has ls 7 [(6, .int (nI i)), (4, .long v), (0, .ref b), (1, .ref ((ad j).1)), (2, .long b1)] → W p l e (headSpec wsX1_takeReading { frames := 5, cells := 0, slots := 0, locals := 115 }).room s m [Value.ref b, Value.ref ((ad j).1), Value.long b1].toArray below meth c s.heap [] 0 0 (MQ below (fun _ _ o t => o = .returned (some (.long (F_X1_takeReading st x b1).1)) ∧ ∃ w1, w1 = BW cI cJ cG b P ad (va_up st j (some (F_X1_takeReading st x b1).2)) ∧ va_P D vwCl w1 t.heap ∧ va_D A w1 ∧ s.heap.size ≤ t.heap.size ∧ ∀ q : Nat, q < s.heap.size → ¬ A q → t.heap[q]? = s.heap[q]?) [Value.ref b, Value.ref ((ad j).1), Value.long b1].toArray s 0 0 A) (F0 m 6 ls []) := by
    intro k
    induction k with
    | zero => intro i v h1 h2; omega
    | succ k ih =>
      intro i v hi hk hf ls hl
      refine lv_iload hx hb dX1_takeReading_6 (lv_at hl 0 rfl) ?_
      refine lv_aload_n hx hb dX1_takeReading_8 rfl (lv_at hl 3 rfl) ?_
      refine va_getN (D := D) (ci := 0) (v := .int (gC x)) (C := RX0) (T := TX0) (N := 11) hx hb hts hinX0 hown hK hP 0 rfl rfl 4 (by decide) (hKW.n 4 rfl rfl) (fun _ h9 => h9) rfl dX1_takeReading_9 ?_
      refine lv_icmp_ge (tgt := 46) hx hb dX1_takeReading_12 (by decide) (fun c_1 => ?_) (fun c_1 => ?_)
      · refine lv_aload_n hx hb dX1_takeReading_46 rfl (lv_at hl 3 rfl) ?_
        refine lv_lload hx hb dX1_takeReading_47 (lv_at hl 1 rfl) ?_
        refine wr_VN (As := [.long v]) (rest := []) (Rw := Rw) ⟨hx, hb, hml, hown, hts⟩ (c_X0_takeValue l s.heap D cI cJ cZ cG (ad j) x v (wd_gz hP) (wd_D.left (hD.weaken (fun _ _ _ _ => trivial)))) (KW_puK D cI cJ cZ cG) hKW ⟨va_cnB 1 hts gX1_takeReading_X0_takeValue_n192 rfl rfl rfl (hKW.2 _ (List.mem_of_getElem? (i := 15) rfl)) (hts (.initialized RX0) (by decide +kernel)) (by decide +kernel) ⟨Nat.le_of_ble_eq_true rfl, Nat.le_of_ble_eq_true rfl⟩, hts (.instanceMethod yX0_takeValue) (by decide +kernel), hts (.selects RX0 yX0_takeValue yX0_takeValue) (by decide +kernel)⟩ (va_recv hK hP (ci := 0) (q0 := 0) rfl rfl) rfl hl.1 rfl (Nat.le_of_ble_eq_true rfl) dX1_takeReading_49 ⟨Nat.zero_le _, Nat.zero_le _⟩ hP hD hS hA (fun w1 H locs hw hP hD hS => ?_)
        subst hw
        obtain ⟨z_2, hz_2⟩ : ∃ u, u = F_X0_takeValue x v := ⟨_, rfl⟩
        rw [← hz_2] at hP hD
        have hP : va_P D vwCl ([((ad j).1, .inr (0, [.ref ((ad j).2.1), .ref ((ad j).2.2.1), .ref ((ad j).2.2.2), .int (gK z_2), .int (gC z_2), .long (gV z_2), .int (gM z_2), .long (gH z_2), .long (gL z_2), .int (gR z_2), .int (gW z_2)])), ((ad j).2.1, .inl (cI, 8, .inl (gSo z_2))), ((ad j).2.2.1, .inl (cI, 8, .inl (gSr z_2))), ((ad j).2.2.2, .inl (cJ, 8, .inr (.inl (gOp z_2))))] ++ Rw) H := hP
        have hD : va_D A ([((ad j).1, .inr (0, [.ref ((ad j).2.1), .ref ((ad j).2.2.1), .ref ((ad j).2.2.2), .int (gK z_2), .int (gC z_2), .long (gV z_2), .int (gM z_2), .long (gH z_2), .long (gL z_2), .int (gR z_2), .int (gW z_2)])), ((ad j).2.1, .inl (cI, 8, .inl (gSo z_2))), ((ad j).2.2.1, .inl (cI, 8, .inl (gSr z_2))), ((ad j).2.2.2, .inl (cJ, 8, .inr (.inl (gOp z_2))))] ++ Rw) := hD
        refine W.eq (g2 := F0 m 52 ls []) rfl ?_
        refine lv_lload hx hb dX1_takeReading_52 (lv_at hl 1 rfl) ?_
        have hF : F_X1_takeReading st x b1 = (v, z_2) := by
          rw [← hf, lp_X1_takeReading, if_pos c_1, ← hz_2]
        subst hRw
        exact W.lret (v := v) hx hb hr (fun t ht hW => ⟨by rw [hF], _, rfl, by rw [hF, ht]; exact wd_P.perm hP (BW_back hj hst1), by rw [hF]; exact wd_D.perm hD (BW_back hj hst1), (hS.F ht).1, (hS.F ht).2⟩) hS.2.2 dX1_takeReading_54
      · refine lv_aload_n hx hb dX1_takeReading_15 rfl (lv_at hl 3 rfl) ?_
        refine va_getN (D := D) (ci := 0) (v := .ref ((ad j).2.1)) (C := RX0) (T := TX0) (N := 11) hx hb hts hinX0 hown hK hP 0 rfl rfl 0 (by decide) (hKW.n 0 rfl rfl) (fun _ h9 => h9) rfl dX1_takeReading_16 ?_
        refine lv_iload hx hb dX1_takeReading_19 (lv_at hl 0 rfl) ?_
        refine va_iald hx hb hK hP 1 0 rfl rfl (in_cnt hc (vp_in_nI (by omega) (by decide)) c_1) dX1_takeReading_21 ?_
        refine lv_lload hx hb dX1_takeReading_22 (lv_at hl 1 rfl) ?_
        refine lv_aload_n hx hb dX1_takeReading_24 rfl (lv_at hl 2 rfl) ?_
        refine lv_aload_n hx hb dX1_takeReading_25 rfl (lv_at hl 3 rfl) ?_
        refine lv_iload hx hb dX1_takeReading_26 (lv_at hl 0 rfl) ?_
        refine pu_V (As := [.ref ((ad j).1), .int (nI i)]) (rest := [.long v, .int ((gSo x) (nI i).toNatClampNeg)]) ⟨hx, hb, hml, hown, hts⟩ (c_X1_operandOf l s.heap D cI cJ cZ cG b P ad st j x i hj hst1 (in_lt (in_cnt hc (vp_in_nI (by omega) (by decide)) c_1) (by omega)) hPB) (KW_puK D cI cJ cZ cG) hKW (cwV 2 hts gX1_takeReading_X1_operandOf rfl rfl rfl (by decide +kernel) ⟨Nat.le_of_ble_eq_true rfl, Nat.le_of_ble_eq_true rfl⟩) (va_recv hK hB (ci := 1) (q0 := 0) rfl rfl) rfl hl.1 rfl (Nat.le_of_ble_eq_true rfl) dX1_takeReading_28 ⟨Nat.zero_le _, Nat.zero_le _⟩ ?_
        refine W.eq (g2 := F0 m 31 ls [.long (opnd st x i), .long v, .int ((gSo x) (nI i).toNatClampNeg)]) rfl ?_
        refine lv_aload_n hx hb dX1_takeReading_31 rfl (lv_at hl 3 rfl) ?_
        refine va_getN (D := D) (ci := 0) (v := .int (gK x)) (C := RX0) (T := TX0) (N := 11) hx hb hts hinX0 hown hK hP 0 rfl rfl 3 (by decide) (hKW.n 3 rfl rfl) (fun _ h9 => h9) rfl dX1_takeReading_32 ?_
        refine pu_S (As := [.int ((gSo x) (nI i).toNatClampNeg), .long v, .long (opnd st x i), .int (gK x)]) (rest := []) ⟨hx, hb, hml, hown, hts⟩ (c_X1_afterStep l s.heap ((gSo x) (nI i).toNatClampNeg) v (opnd st x i) (gK x)) puK_T trivial (va_cwS 4 hts gX1_takeReading_X1_afterStep rfl rfl rfl (by decide +kernel) ⟨Nat.le_of_ble_eq_true rfl, Nat.le_of_ble_eq_true rfl⟩) rfl hl.1 rfl (Nat.le_of_ble_eq_true rfl) dX1_takeReading_35 ⟨Nat.zero_le _, Nat.zero_le _⟩ ?_
        refine W.eq (g2 := F0 m 38 ls [.long (f_X1_afterStep ((gSo x) (nI i).toNatClampNeg) v (opnd st x i) (gK x))]) rfl ?_
        refine lv_lstore (lv' := [(4, .long (f_X1_afterStep ((gSo x) (nI i).toNatClampNeg) v (opnd st x i) (gK x))), (6, .int (nI i)), (0, .ref b), (1, .ref ((ad j).1)), (2, .long b1)]) hx hb dX1_takeReading_38 hl (by decide) rfl (fun ls hl => ?_)
        refine lv_iinc (v := (nI i) + 1) (lv' := [(6, .int ((nI i) + 1)), (4, .long (f_X1_afterStep ((gSo x) (nI i).toNatClampNeg) v (opnd st x i) (gK x))), (0, .ref b), (1, .ref ((ad j).1)), (2, .long b1)]) hx hb dX1_takeReading_40 hl (k := 1) rfl rfl (by decide) rfl (fun ls hl => ?_)
        refine lv_goto (tgt := 6) hx hb dX1_takeReading_43 (by decide) ?_
        have hl := lv_sub hl [0, 1, 2, 3, 4] rfl
        rw [nI_1] at hl
        exact ih (i + 1) (f_X1_afterStep ((gSo x) (nI i).toNatClampNeg) v (opnd st x i) (gK x)) (Nat.succ_le_of_lt (in_lt (in_cnt hc (vp_in_nI (by omega) (by decide)) c_1) (by omega))) (by omega) (by rw [← hf, lp_X1_takeReading, if_neg c_1]) ls hl
  exact hloop 9 0 b1 (Nat.zero_le _) (Nat.le_refl _) (rfl) ls (lv_sub hl [0, 1, 2, 3, 4] rfl)
