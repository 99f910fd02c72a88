set_option maxHeartbeats 4000000 in
set_option maxRecDepth 100000 in
theorem t_X1_step_N (l : Launch) (hst : l.stackTraces = false) (z : Nat) (H0 : Heap) (hz : z ≤ H0.size) (D : va_G) (cI cJ cZ cG : ClassId) (b P : Nat) (ad : Nat → ga) (st : Nat → Option GS) (b0 : Int32) (b1 : Int32) (hn : gat st b0 = none) (hPB : va_P D vwCl (BW cI cJ cG b P ad st) H0) : th l yX1_step wsX1_step ({ frames := 7, cells := 1, slots := 6, locals := 104 }) [Value.ref b, Value.int b0, Value.int b1] (KZ D cI cJ cZ cG z H0) H0 "java/util/NoSuchElementException" := by
  refine vx_ofW (cc := cX1_step) (maxL := 4) (ret := (some .int)) (by decide) rfl ?_
  intro p e s m args below meth c s₁ B hml hex hv
  obtain ⟨rfl, hH, hKZ⟩ := hv
  have hx := B.exec
  have hb := B.bytes
  have hr := B.returns
  have hts := atoms_spec (ws := wsX1_step) B.pre
  have hown : s.vm.findClass RX1 = some m.cls := findClass_of_methodNamed B.named
  have hlocks := B.notSynchronized
  subst hH
  have hKW := hKZ.1
  have hK := hKW.1
  have hl := lv_entry ([Value.ref b, Value.int b0, Value.int b1]) (n := 4) (Nat.le_of_ble_eq_true rfl)
  rw [lg_entry_eq]
  generalize (lg_sl ([Value.ref b, Value.int b0, Value.int b1]) ++ List.replicate (4 - (lg_sl ([Value.ref b, Value.int b0, Value.int b1])).length) Slot.unset).toArray = ls at hl ⊢
  have hl : lv_has ls 4 [(0, .ref b), (1, .int b0), (2, .int b1)] := hl
  have hB : va_P D vwCl [(b, .inr (1, [.ref P])), (P, .inl (cG, 12, .inr (.inr (.inr (.inr (pl ad st))))))] s.heap := BW_board hPB
  refine lv_aload_n hx hb dX1_step_0 rfl (lv_at hl 0 rfl) ?_
  refine lv_iload_n hx hb dX1_step_1 rfl (lv_at hl 1 rfl) ?_
  exact th_V (As := [.int b0]) (rest := []) ⟨hx, hb, hml, hown, hts⟩ (t_X1_needGauge l hst z s.heap hz D cI cJ cZ cG b P ad st b0 hn hPB) (KZ_puK D cI cJ cZ cG z s.heap) hKZ (cwV 1 hts gX1_step_X1_needGauge rfl rfl rfl (by decide +kernel) ⟨Nat.le_of_ble_eq_true rfl, Nat.le_of_ble_eq_true rfl⟩) (va_recv hK hB (ci := 1) (q0 := 0) rfl rfl) rfl hl.1 rfl (Nat.le_of_ble_eq_true rfl) dX1_step_2 ⟨Nat.le_of_ble_eq_true rfl, Nat.le_of_ble_eq_true rfl⟩ hex hlocks
set_option maxHeartbeats 4000000 in
set_option maxRecDepth 100000 in
theorem t_X1_step_A (l : Launch) (hst : l.stackTraces = false) (z : Nat) (H0 : Heap) (hz : z ≤ H0.size) (D : va_G) (cI cJ cZ cG : ClassId) (b P : Nat) (ad : Nat → ga) (st : Nat → Option GS) (j : Nat) (x : GS) (b1 : Int32) (hj : j < 12) (hst1 : st j = some x) (hno : e_X1_needSort (gK x) b1 0 = 2) (hPB : va_P D vwCl (BW cI cJ cG b P ad st) H0) : th l yX1_step wsX1_step ({ frames := 7, cells := 1, slots := 6, locals := 104 }) [Value.ref b, Value.int (nI j), Value.int b1] (KZ D cI cJ cZ cG z H0) H0 "java/lang/IllegalArgumentException" := by
  refine vx_ofW (cc := cX1_step) (maxL := 4) (ret := (some .int)) (by decide) rfl ?_
  intro p e s m args below meth c s₁ B hml hex hv
  obtain ⟨rfl, hH, hKZ⟩ := hv
  have hx := B.exec
  have hb := B.bytes
  have hr := B.returns
  have hts := atoms_spec (ws := wsX1_step) B.pre
  have hown : s.vm.findClass RX1 = some m.cls := findClass_of_methodNamed B.named
  have hlocks := B.notSynchronized
  subst hH
  have hKW := hKZ.1
  have hK := hKW.1
  have hl := lv_entry ([Value.ref b, Value.int (nI j), Value.int b1]) (n := 4) (Nat.le_of_ble_eq_true rfl)
  rw [lg_entry_eq]
  generalize (lg_sl ([Value.ref b, Value.int (nI j), Value.int b1]) ++ List.replicate (4 - (lg_sl ([Value.ref b, Value.int (nI j), Value.int b1])).length) Slot.unset).toArray = ls at hl ⊢
  have hl : lv_has ls 4 [(0, .ref b), (1, .int (nI j)), (2, .int b1)] := hl
  have hinX0 : ∀ w ∈ u_ws RX0 TX0 11, w ∈ wsX1_step := by decide +kernel
  have hB : va_P D vwCl [(b, .inr (1, [.ref P])), (P, .inl (cG, 12, .inr (.inr (.inr (.inr (pl ad st))))))] s.heap := BW_board hPB
  have hg : va_P D vwCl [((ad j).1, .inr (0, [.ref ((ad j).2.1), .ref ((ad j).2.2.1), .ref ((ad j).2.2.2), .int (gK x), .int (gC x), .long (gV x), .int (gM x), .long (gH x), .long (gL x), .int (gR x), .int (gW x)])), ((ad j).2.1, .inl (cI, 8, .inl (gSo x))), ((ad j).2.2.1, .inl (cI, 8, .inl (gSr x))), ((ad j).2.2.2, .inl (cJ, 8, .inr (.inl (gOp x))))] s.heap := BW_gauge hPB hj hst1
  refine lv_aload_n hx hb dX1_step_0 rfl (lv_at hl 0 rfl) ?_
  refine lv_iload_n hx hb dX1_step_1 rfl (lv_at hl 1 rfl) ?_
  refine pu_V (As := [.int (nI j)]) (rest := []) ⟨hx, hb, hml, hown, hts⟩ (c_X1_needGauge l s.heap D cI cJ cZ cG b P ad st j x hj hst1 hPB) (KW_puK D cI cJ cZ cG) hKW (cwV 1 hts gX1_step_X1_needGauge rfl rfl rfl (by decide +kernel) ⟨Nat.le_of_ble_eq_true rfl, Nat.le_of_ble_eq_true rfl⟩) (va_recv hK hB (ci := 1) (q0 := 0) rfl rfl) rfl hl.1 rfl (Nat.le_of_ble_eq_true rfl) dX1_step_2 ⟨Nat.zero_le _, Nat.zero_le _⟩ ?_
  refine W.eq (g2 := F0 m 5 ls [.ref ((ad j).1)]) rfl ?_
  refine lv_astore_n (lv' := [(3, .ref ((ad j).1)), (0, .ref b), (1, .int (nI j)), (2, .int b1)]) hx hb dX1_step_5 rfl hl (by decide) rfl (fun ls hl => ?_)
  refine lv_aload_n hx hb dX1_step_6 rfl (lv_at hl 0 rfl) ?_
  refine va_getN (D := D) (ci := 0) (v := .int (gK x)) (C := RX0) (T := TX0) (N := 11) hx hb hts hinX0 hown hK hg 0 rfl rfl 3 (by decide) (hKW.n 3 rfl rfl) (fun _ h9 => h9) rfl dX1_step_7 ?_
  refine lv_iload_n hx hb dX1_step_10 rfl (lv_at hl 3 rfl) ?_
  refine lv_iconst (v := 0) hx hb dX1_step_11 (by decide) ?_
  exact th_S (As := [.int (gK x), .int b1, .int (0 : Int32)]) (rest := []) ⟨hx, hb, hml, hown, hts⟩ (t_X1_needSort l hst z s.heap hz D cI cJ cZ cG (gK x) b1 0 hno) (KZ_puK D cI cJ cZ cG z s.heap) hKZ (va_cwS 3 hts gX1_step_X1_needSort rfl rfl rfl (by decide +kernel) ⟨Nat.le_of_ble_eq_true rfl, Nat.le_of_ble_eq_true rfl⟩) rfl hl.1 rfl (Nat.le_of_ble_eq_true rfl) dX1_step_12 ⟨Nat.le_of_ble_eq_true rfl, Nat.le_of_ble_eq_true rfl⟩ hex hlocks
set_option maxHeartbeats 4000000 in
set_option maxRecDepth 100000 in
theorem t_X1_step_S (l : Launch) (hst : l.stackTraces = false) (z : Nat) (H0 : Heap) (hz : z ≤ H0.size) (D : va_G) (cI cJ cZ cG : ClassId) (b P : Nat) (ad : Nat → ga) (st : Nat → Option GS) (j : Nat) (x : GS) (b1 : Int32) (hj : j < 12) (hst1 : st j = some x) (hok : e_X1_needSort (gK x) b1 0 = 0) (hge : ¬ (gC x) < (8 : Int32)) (hPB : va_P D vwCl (BW cI cJ cG b P ad st) H0) : th l yX1_step wsX1_step ({ frames := 7, cells := 1, slots := 6, locals := 106 }) [Value.ref b, Value.int (nI j), Value.int b1] (KZ D cI cJ cZ cG z H0) H0 "java/lang/IllegalStateException" := by
  refine vx_ofW (cc := cX1_step) (maxL := 4) (ret := (some .int)) (by decide) rfl ?_
  intro p e s m args below meth c s₁ B hml hex hv
  obtain ⟨rfl, hH, hKZ⟩ := hv
  have hx := B.exec
  have hb := B.bytes
  have hr := B.returns
  have hts := atoms_spec (ws := wsX1_step) B.pre
  have hown : s.vm.findClass RX1 = some m.cls := findClass_of_methodNamed B.named
  have hlocks := B.notSynchronized
  subst hH
  have hKW := hKZ.1
  have hK := hKW.1
  have hl := lv_entry ([Value.ref b, Value.int (nI j), Value.int b1]) (n := 4) (Nat.le_of_ble_eq_true rfl)
  rw [lg_entry_eq]
  generalize (lg_sl ([Value.ref b, Value.int (nI j), Value.int b1]) ++ List.replicate (4 - (lg_sl ([Value.ref b, Value.int (nI j), Value.int b1])).length) Slot.unset).toArray = ls at hl ⊢
  have hl : lv_has ls 4 [(0, .ref b), (1, .int (nI j)), (2, .int b1)] := hl
  have hinX0 : ∀ w ∈ u_ws RX0 TX0 11, w ∈ wsX1_step := by decide +kernel
  have hB : va_P D vwCl [(b, .inr (1, [.ref P])), (P, .inl (cG, 12, .inr (.inr (.inr (.inr (pl ad st))))))] s.heap := BW_board hPB
  have hg : va_P D vwCl [((ad j).1, .inr (0, [.ref ((ad j).2.1), .ref ((ad j).2.2.1), .ref ((ad j).2.2.2), .int (gK x), .int (gC x), .long (gV x), .int (gM x), .long (gH x), .long (gL x), .int (gR x), .int (gW x)])), ((ad j).2.1, .inl (cI, 8, .inl (gSo x))), ((ad j).2.2.1, .inl (cI, 8, .inl (gSr x))), ((ad j).2.2.2, .inl (cJ, 8, .inr (.inl (gOp x))))] s.heap := BW_gauge hPB hj hst1
  refine lv_aload_n hx hb dX1_step_0 rfl (lv_at hl 0 rfl) ?_
  refine lv_iload_n hx hb dX1_step_1 rfl (lv_at hl 1 rfl) ?_
  refine pu_V (As := [.int (nI j)]) (rest := []) ⟨hx, hb, hml, hown, hts⟩ (c_X1_needGauge l s.heap D cI cJ cZ cG b P ad st j x hj hst1 hPB) (KW_puK D cI cJ cZ cG) hKW (cwV 1 hts gX1_step_X1_needGauge rfl rfl rfl (by decide +kernel) ⟨Nat.le_of_ble_eq_true rfl, Nat.le_of_ble_eq_true rfl⟩) (va_recv hK hB (ci := 1) (q0 := 0) rfl rfl) rfl hl.1 rfl (Nat.le_of_ble_eq_true rfl) dX1_step_2 ⟨Nat.zero_le _, Nat.zero_le _⟩ ?_
  refine W.eq (g2 := F0 m 5 ls [.ref ((ad j).1)]) rfl ?_
  refine lv_astore_n (lv' := [(3, .ref ((ad j).1)), (0, .ref b), (1, .int (nI j)), (2, .int b1)]) hx hb dX1_step_5 rfl hl (by decide) rfl (fun ls hl => ?_)
  refine lv_aload_n hx hb dX1_step_6 rfl (lv_at hl 0 rfl) ?_
  refine va_getN (D := D) (ci := 0) (v := .int (gK x)) (C := RX0) (T := TX0) (N := 11) hx hb hts hinX0 hown hK hg 0 rfl rfl 3 (by decide) (hKW.n 3 rfl rfl) (fun _ h9 => h9) rfl dX1_step_7 ?_
  refine lv_iload_n hx hb dX1_step_10 rfl (lv_at hl 3 rfl) ?_
  refine lv_iconst (v := 0) hx hb dX1_step_11 (by decide) ?_
  refine pu_S (As := [.int (gK x), .int b1, .int (0 : Int32)]) (rest := []) ⟨hx, hb, hml, hown, hts⟩ (c_X1_needSort l s.heap (gK x) b1 0 hok) puK_T trivial (va_cwS 3 hts gX1_step_X1_needSort rfl rfl rfl (by decide +kernel) ⟨Nat.le_of_ble_eq_true rfl, Nat.le_of_ble_eq_true rfl⟩) rfl hl.1 rfl (Nat.le_of_ble_eq_true rfl) dX1_step_12 ⟨Nat.zero_le _, Nat.zero_le _⟩ ?_
  refine W.eq (g2 := F0 m 15 ls []) rfl ?_
  refine lv_aload_n hx hb dX1_step_15 rfl (lv_at hl 0 rfl) ?_
  refine lv_iload_n hx hb dX1_step_16 rfl (lv_at hl 3 rfl) ?_
  refine lv_iconst (v := (-1)) hx hb dX1_step_17 (by decide) ?_
  refine lv_lconst (v := 0) hx hb dX1_step_18 (by decide) ?_
  exact th_VN (As := [.int b1, .int (-1 : Int32), .long (0 : Int64)]) (rest := []) ⟨hx, hb, hml, hown, hts⟩ (t_X0_addStep l hst z s.heap hz D cI cJ cZ cG (ad j) x b1 (-1 : Int32) (0 : Int64) hge hg) (KZ_puK D cI cJ cZ cG z s.heap) hKZ ⟨va_cnB 3 hts gX1_step_X0_addStep_n62 rfl rfl rfl (hKW.2 _ (List.mem_of_getElem? (i := 14) rfl)) (hts (.initialized RX0) (by decide +kernel)) (by decide +kernel) ⟨Nat.le_of_ble_eq_true rfl, Nat.le_of_ble_eq_true rfl⟩, hts (.instanceMethod yX0_addStep) (by decide +kernel), hts (.selects RX0 yX0_addStep yX0_addStep) (by decide +kernel)⟩ (va_recv hK hg (ci := 0) (q0 := 0) rfl rfl) rfl hl.1 rfl (Nat.le_of_ble_eq_true rfl) dX1_step_19 ⟨Nat.le_of_ble_eq_true rfl, Nat.le_of_ble_eq_true rfl⟩ hex hlocks
def F_X1_step (x : GS) (b1 : Int32) : Int32 × GS := ((F_X0_addStep x b1 (-1 : Int32) (0 : Int64)).1, (F_X0_addStep x b1 (-1 : Int32) (0 : Int64)).2)
set_option maxHeartbeats 4000000 in
set_option maxRecDepth 100000 in
theorem c_X1_step (l : Launch) (H0 : Heap) (D : va_G) (cI cJ cZ cG : ClassId) (b P : Nat) (ad : Nat → ga) (st : Nat → Option GS) (j : Nat) (x : GS) (b1 : Int32) (hj : j < 12) (hst1 : st j = some x) (hc : vp_in (gC x) 9) (hok : e_X1_needSort (gK x) b1 0 = 0) (hlt : (gC x) < (8 : Int32)) (hPB : va_P D vwCl (BW cI cJ cG b P ad st) H0) (hD0 : va_D (fun _ => True) (BW cI cJ cG b P ad st)) : wr l yX1_step wsX1_step ({ frames := 3, cells := 0, slots := 0, locals := 63 }) [Value.ref b, Value.int (nI j), Value.int b1] (KW D cI cJ cZ cG) H0 (some (.int (F_X1_step x b1).1)) D (BW cI cJ cG b P ad st) (fun w => w = BW cI cJ cG b P ad (va_up st j (some (F_X1_step x b1).2))) 0 0 := by
  refine Met.ofW (cc := cX1_step) (maxL := 4) (ret := (some .int)) (by decide) rfl ?_
  intro p e s m args below meth c s₁ B hml hv
  obtain ⟨rfl, hH, hKW⟩ := hv
  have hx := B.exec
  have hb := B.bytes
  have hr := B.returns
  have hts := atoms_spec (ws := wsX1_step) B.pre
  have hown : s.vm.findClass RX1 = some m.cls := findClass_of_methodNamed B.named
  have hlocks := B.notSynchronized
  subst hH
  have hK := hKW.1
  have hl := lv_entry ([Value.ref b, Value.int (nI j), Value.int b1]) (n := 4) (Nat.le_of_ble_eq_true rfl)
  rw [lg_entry_eq]
  generalize (lg_sl ([Value.ref b, Value.int (nI j), Value.int b1]) ++ List.replicate (4 - (lg_sl ([Value.ref b, Value.int (nI j), Value.int b1])).length) Slot.unset).toArray = ls at hl ⊢
  have hl : lv_has ls 4 [(0, .ref b), (1, .int (nI j)), (2, .int b1)] := hl
  have hinX0 : ∀ w ∈ u_ws RX0 TX0 11, w ∈ wsX1_step := by decide +kernel
  have hB : va_P D vwCl [(b, .inr (1, [.ref P])), (P, .inl (cG, 12, .inr (.inr (.inr (.inr (pl ad st))))))] s.heap := BW_board hPB
  have hD := hD0.self (sz := s.heap.size)
  generalize hAe : va_A (BW cI cJ cG b P ad st) s.heap.size = A at hD ⊢
  have hA : ∀ q : Nat, s.heap.size ≤ q → A q := fun q h => by rw [← hAe]; exact Or.inr h
  have hS : va_S A s.heap s.heap [] := va_S.rf
  have hP := wd_P.perm hPB (BW_perm hj hst1)
  have hD := wd_D.perm hD (BW_perm hj hst1)
  obtain ⟨Rw, hRw⟩ : ∃ R, R = BB cG b P (pl ad st) ++ BG cI cJ ad (va_up st j none) 12 := ⟨_, rfl⟩
  rw [← hRw] at hP hD
  have hP : va_P D vwCl ([((ad j).1, .inr (0, [.ref ((ad j).2.1), .ref ((ad j).2.2.1), .ref ((ad j).2.2.2), .int (gK x), .int (gC x), .long (gV x), .int (gM x), .long (gH x), .long (gL x), .int (gR x), .int (gW x)])), ((ad j).2.1, .inl (cI, 8, .inl (gSo x))), ((ad j).2.2.1, .inl (cI, 8, .inl (gSr x))), ((ad j).2.2.2, .inl (cJ, 8, .inr (.inl (gOp x))))] ++ Rw) s.heap := hP
  have hD : va_D A ([((ad j).1, .inr (0, [.ref ((ad j).2.1), .ref ((ad j).2.2.1), .ref ((ad j).2.2.2), .int (gK x), .int (gC x), .long (gV x), .int (gM x), .long (gH x), .long (gL x), .int (gR x), .int (gW x)])), ((ad j).2.1, .inl (cI, 8, .inl (gSo x))), ((ad j).2.2.1, .inl (cI, 8, .inl (gSr x))), ((ad j).2.2.2, .inl (cJ, 8, .inr (.inl (gOp x))))] ++ Rw) := hD
  refine lv_aload_n hx hb dX1_step_0 rfl (lv_at hl 0 rfl) ?_
  refine lv_iload_n hx hb dX1_step_1 rfl (lv_at hl 1 rfl) ?_
  refine pu_V (As := [.int (nI j)]) (rest := []) ⟨hx, hb, hml, hown, hts⟩ (c_X1_needGauge l s.heap D cI cJ cZ cG b P ad st j x hj hst1 hPB) (KW_puK D cI cJ cZ cG) hKW (cwV 1 hts gX1_step_X1_needGauge rfl rfl rfl (by decide +kernel) ⟨Nat.le_of_ble_eq_true rfl, Nat.le_of_ble_eq_true rfl⟩) (va_recv hK hB (ci := 1) (q0 := 0) rfl rfl) rfl hl.1 rfl (Nat.le_of_ble_eq_true rfl) dX1_step_2 ⟨Nat.zero_le _, Nat.zero_le _⟩ ?_
  refine W.eq (g2 := F0 m 5 ls [.ref ((ad j).1)]) rfl ?_
  refine lv_astore_n (lv' := [(3, .ref ((ad j).1)), (0, .ref b), (1, .int (nI j)), (2, .int b1)]) hx hb dX1_step_5 rfl hl (by decide) rfl (fun ls hl => ?_)
  refine lv_aload_n hx hb dX1_step_6 rfl (lv_at hl 0 rfl) ?_
  refine va_getN (D := D) (ci := 0) (v := .int (gK x)) (C := RX0) (T := TX0) (N := 11) hx hb hts hinX0 hown hK hP 0 rfl rfl 3 (by decide) (hKW.n 3 rfl rfl) (fun _ h9 => h9) rfl dX1_step_7 ?_
  refine lv_iload_n hx hb dX1_step_10 rfl (lv_at hl 3 rfl) ?_
  refine lv_iconst (v := 0) hx hb dX1_step_11 (by decide) ?_
  refine pu_S (As := [.int (gK x), .int b1, .int (0 : Int32)]) (rest := []) ⟨hx, hb, hml, hown, hts⟩ (c_X1_needSort l s.heap (gK x) b1 0 hok) puK_T trivial (va_cwS 3 hts gX1_step_X1_needSort rfl rfl rfl (by decide +kernel) ⟨Nat.le_of_ble_eq_true rfl, Nat.le_of_ble_eq_true rfl⟩) rfl hl.1 rfl (Nat.le_of_ble_eq_true rfl) dX1_step_12 ⟨Nat.zero_le _, Nat.zero_le _⟩ ?_
  refine W.eq (g2 := F0 m 15 ls []) rfl ?_
  refine lv_aload_n hx hb dX1_step_15 rfl (lv_at hl 0 rfl) ?_
  refine lv_iload_n hx hb dX1_step_16 rfl (lv_at hl 3 rfl) ?_
  refine lv_iconst (v := (-1)) hx hb dX1_step_17 (by decide) ?_
  refine lv_lconst (v := 0) hx hb dX1_step_18 (by decide) ?_
  refine wr_VN (As := [.int b1, .int (-1 : Int32), .long (0 : Int64)]) (rest := []) (Rw := Rw) ⟨hx, hb, hml, hown, hts⟩ (c_X0_addStep l s.heap D cI cJ cZ cG (ad j) x b1 (-1 : Int32) (0 : Int64) hc hlt (wd_gz hP) (wd_D.left (hD.weaken (fun _ _ _ _ => trivial)))) (KW_puK D cI cJ cZ cG) hKW ⟨va_cnB 3 hts gX1_step_X0_addStep_n62 rfl rfl rfl (hKW.2 _ (List.mem_of_getElem? (i := 14) rfl)) (hts (.initialized RX0) (by decide +kernel)) (by decide +kernel) ⟨Nat.le_of_ble_eq_true rfl, Nat.le_of_ble_eq_true rfl⟩, hts (.instanceMethod yX0_addStep) (by decide +kernel), hts (.selects RX0 yX0_addStep yX0_addStep) (by decide +kernel)⟩ (va_recv hK hP (ci := 0) (q0 := 0) rfl rfl) rfl hl.1 rfl (Nat.le_of_ble_eq_true rfl) dX1_step_19 ⟨Nat.zero_le _, Nat.zero_le _⟩ hP hD hS hA (fun w1 H locs hw hP hD hS => ?_)
  subst hw
  obtain ⟨z_1, hz_1⟩ : ∃ u, u = (F_X0_addStep x b1 (-1 : Int32) (0 : Int64)).2 := ⟨_, rfl⟩
  rw [← hz_1] at hP hD
  have hP : va_P D vwCl ([((ad j).1, .inr (0, [.ref ((ad j).2.1), .ref ((ad j).2.2.1), .ref ((ad j).2.2.2), .int (gK z_1), .int (gC z_1), .long (gV z_1), .int (gM z_1), .long (gH z_1), .long (gL z_1), .int (gR z_1), .int (gW z_1)])), ((ad j).2.1, .inl (cI, 8, .inl (gSo z_1))), ((ad j).2.2.1, .inl (cI, 8, .inl (gSr z_1))), ((ad j).2.2.2, .inl (cJ, 8, .inr (.inl (gOp z_1))))] ++ Rw) H := hP
  have hD : va_D A ([((ad j).1, .inr (0, [.ref ((ad j).2.1), .ref ((ad j).2.2.1), .ref ((ad j).2.2.2), .int (gK z_1), .int (gC z_1), .long (gV z_1), .int (gM z_1), .long (gH z_1), .long (gL z_1), .int (gR z_1), .int (gW z_1)])), ((ad j).2.1, .inl (cI, 8, .inl (gSo z_1))), ((ad j).2.2.1, .inl (cI, 8, .inl (gSr z_1))), ((ad j).2.2.2, .inl (cJ, 8, .inr (.inl (gOp z_1))))] ++ Rw) := hD
  refine W.eq (g2 := F0 m 22 ls [.int ((F_X0_addStep x b1 (-1 : Int32) (0 : Int64)).1)]) rfl ?_
  have hF : F_X1_step x b1 = ((F_X0_addStep x b1 (-1 : Int32) (0 : Int64)).1, z_1) := by
    unfold F_X1_step; rw [← hz_1]
  subst hRw
  exact W.iret (v := (F_X0_addStep x b1 (-1 : Int32) (0 : Int64)).1) hx hb hr (fun t ht hW => ⟨by rw [hF], _, rfl, by rw [hF, ht]; exact wd_P.perm hP (BW_back hj hst1), by rw [hF]; exact wd_D.perm hD (BW_back hj hst1), (hS.F ht).1, (hS.F ht).2⟩) hS.2.2 dX1_step_22
set_option maxHeartbeats 4000000 in
set_option maxRecDepth 100000 in
theorem t_X1_stepBy_N (l : Launch) (hst : l.stackTraces = false) (z : Nat) (H0 : Heap) (hz : z ≤ H0.size) (D : va_G) (cI cJ cZ cG : ClassId) (b P : Nat) (ad : Nat → ga) (st : Nat → Option GS) (b0 : Int32) (b1 : Int32) (b2 : Int64) (hn : gat st b0 = none) (hPB : va_P D vwCl (BW cI cJ cG b P ad st) H0) : th l yX1_stepBy wsX1_stepBy ({ frames := 7, cells := 1, slots := 6, locals := 104 }) [Value.ref b, Value.int b0, Value.int b1, Value.long b2] (KZ D cI cJ cZ cG z H0) H0 "java/util/NoSuchElementException" := by
  refine vx_ofW (cc := cX1_stepBy) (maxL := 6) (ret := (some .int)) (by decide) rfl ?_
  intro p e s m args below meth c s₁ B hml hex hv
  obtain ⟨rfl, hH, hKZ⟩ := hv
  have hx := B.exec
  have hb := B.bytes
  have hr := B.returns
  have hts := atoms_spec (ws := wsX1_stepBy) B.pre
  have hown : s.vm.findClass RX1 = some m.cls := findClass_of_methodNamed B.named
  have hlocks := B.notSynchronized
  subst hH
  have hKW := hKZ.1
  have hK := hKW.1
  have hl := lv_entry ([Value.ref b, Value.int b0, Value.int b1, Value.long b2]) (n := 6) (Nat.le_of_ble_eq_true rfl)
  rw [lg_entry_eq]
  generalize (lg_sl ([Value.ref b, Value.int b0, Value.int b1, Value.long b2]) ++ List.replicate (6 - (lg_sl ([Value.ref b, Value.int b0, Value.int b1, Value.long b2])).length) Slot.unset).toArray = ls at hl ⊢
  have hl : lv_has ls 6 [(0, .ref b), (1, .int b0), (2, .int b1), (3, .long b2)] := hl
  have hB : va_P D vwCl [(b, .inr (1, [.ref P])), (P, .inl (cG, 12, .inr (.inr (.inr (.inr (pl ad st))))))] s.heap := BW_board hPB
  refine lv_aload_n hx hb dX1_stepBy_0 rfl (lv_at hl 0 rfl) ?_
  refine lv_iload_n hx hb dX1_stepBy_1 rfl (lv_at hl 1 rfl) ?_
  exact th_V (As := [.int b0]) (rest := []) ⟨hx, hb, hml, hown, hts⟩ (t_X1_needGauge l hst z s.heap hz D cI cJ cZ cG b P ad st b0 hn hPB) (KZ_puK D cI cJ cZ cG z s.heap) hKZ (cwV 1 hts gX1_stepBy_X1_needGauge rfl rfl rfl (by decide +kernel) ⟨Nat.le_of_ble_eq_true rfl, Nat.le_of_ble_eq_true rfl⟩) (va_recv hK hB (ci := 1) (q0 := 0) rfl rfl) rfl hl.1 rfl (Nat.le_of_ble_eq_true rfl) dX1_stepBy_2 ⟨Nat.le_of_ble_eq_true rfl, Nat.le_of_ble_eq_true rfl⟩ hex hlocks
set_option maxHeartbeats 4000000 in
set_option maxRecDepth 100000 in
theorem t_X1_stepBy_A (l : Launch) (hst : l.stackTraces = false) (z : Nat) (H0 : Heap) (hz : z ≤ H0.size) (D : va_G) (cI cJ cZ cG : ClassId) (b P : Nat) (ad : Nat → ga) (st : Nat → Option GS) (j : Nat) (x : GS) (b1 : Int32) (b2 : Int64) (hj : j < 12) (hst1 : st j = some x) (hno : e_X1_needSort (gK x) b1 1 = 2) (hPB : va_P D vwCl (BW cI cJ cG b P ad st) H0) : th l yX1_stepBy wsX1_stepBy ({ frames := 7, cells := 1, slots := 6, locals := 104 }) [Value.ref b, Value.int (nI j), Value.int b1, Value.long b2] (KZ D cI cJ cZ cG z H0) H0 "java/lang/IllegalArgumentException" := by
  refine vx_ofW (cc := cX1_stepBy) (maxL := 6) (ret := (some .int)) (by decide) rfl ?_
  intro p e s m args below meth c s₁ B hml hex hv
  obtain ⟨rfl, hH, hKZ⟩ := hv
  have hx := B.exec
  have hb := B.bytes
  have hr := B.returns
  have hts := atoms_spec (ws := wsX1_stepBy) B.pre
  have hown : s.vm.findClass RX1 = some m.cls := findClass_of_methodNamed B.named
  have hlocks := B.notSynchronized
  subst hH
  have hKW := hKZ.1
  have hK := hKW.1
  have hl := lv_entry ([Value.ref b, Value.int (nI j), Value.int b1, Value.long b2]) (n := 6) (Nat.le_of_ble_eq_true rfl)
  rw [lg_entry_eq]
  generalize (lg_sl ([Value.ref b, Value.int (nI j), Value.int b1, Value.long b2]) ++ List.replicate (6 - (lg_sl ([Value.ref b, Value.int (nI j), Value.int b1, Value.long b2])).length) Slot.unset).toArray = ls at hl ⊢
  have hl : lv_has ls 6 [(0, .ref b), (1, .int (nI j)), (2, .int b1), (3, .long b2)] := hl
  have hinX0 : ∀ w ∈ u_ws RX0 TX0 11, w ∈ wsX1_stepBy := by decide +kernel
  have hB : va_P D vwCl [(b, .inr (1, [.ref P])), (P, .inl (cG, 12, .inr (.inr (.inr (.inr (pl ad st))))))] s.heap := BW_board hPB
  have hg : va_P D vwCl [((ad j).1, .inr (0, [.ref ((ad j).2.1), .ref ((ad j).2.2.1), .ref ((ad j).2.2.2), .int (gK x), .int (gC x), .long (gV x), .int (gM x), .long (gH x), .long (gL x), .int (gR x), .int (gW x)])), ((ad j).2.1, .inl (cI, 8, .inl (gSo x))), ((ad j).2.2.1, .inl (cI, 8, .inl (gSr x))), ((ad j).2.2.2, .inl (cJ, 8, .inr (.inl (gOp x))))] s.heap := BW_gauge hPB hj hst1
  refine lv_aload_n hx hb dX1_stepBy_0 rfl (lv_at hl 0 rfl) ?_
  refine lv_iload_n hx hb dX1_stepBy_1 rfl (lv_at hl 1 rfl) ?_
  refine pu_V (As := [.int (nI j)]) (rest := []) ⟨hx, hb, hml, hown, hts⟩ (c_X1_needGauge l s.heap D cI cJ cZ cG b P ad st j x hj hst1 hPB) (KW_puK D cI cJ cZ cG) hKW (cwV 1 hts gX1_stepBy_X1_needGauge rfl rfl rfl (by decide +kernel) ⟨Nat.le_of_ble_eq_true rfl, Nat.le_of_ble_eq_true rfl⟩) (va_recv hK hB (ci := 1) (q0 := 0) rfl rfl) rfl hl.1 rfl (Nat.le_of_ble_eq_true rfl) dX1_stepBy_2 ⟨Nat.zero_le _, Nat.zero_le _⟩ ?_
  refine W.eq (g2 := F0 m 5 ls [.ref ((ad j).1)]) rfl ?_
  refine lv_astore (lv' := [(5, .ref ((ad j).1)), (0, .ref b), (1, .int (nI j)), (2, .int b1), (3, .long b2)]) hx hb dX1_stepBy_5 hl (by decide) rfl (fun ls hl => ?_)
  refine lv_aload hx hb dX1_stepBy_7 (lv_at hl 0 rfl) ?_
  refine va_getN (D := D) (ci := 0) (v := .int (gK x)) (C := RX0) (T := TX0) (N := 11) hx hb hts hinX0 hown hK hg 0 rfl rfl 3 (by decide) (hKW.n 3 rfl rfl) (fun _ h9 => h9) rfl dX1_stepBy_9 ?_
  refine lv_iload_n hx hb dX1_stepBy_12 rfl (lv_at hl 3 rfl) ?_
  refine lv_iconst (v := 1) hx hb dX1_stepBy_13 (by decide) ?_
  exact th_S (As := [.int (gK x), .int b1, .int (1 : Int32)]) (rest := []) ⟨hx, hb, hml, hown, hts⟩ (t_X1_needSort l hst z s.heap hz D cI cJ cZ cG (gK x) b1 1 hno) (KZ_puK D cI cJ cZ cG z s.heap) hKZ (va_cwS 3 hts gX1_stepBy_X1_needSort rfl rfl rfl (by decide +kernel) ⟨Nat.le_of_ble_eq_true rfl, Nat.le_of_ble_eq_true rfl⟩) rfl hl.1 rfl (Nat.le_of_ble_eq_true rfl) dX1_stepBy_14 ⟨Nat.le_of_ble_eq_true rfl, Nat.le_of_ble_eq_true rfl⟩ hex hlocks
set_option maxHeartbeats 4000000 in
set_option maxRecDepth 100000 in
theorem t_X1_stepBy_B (l : Launch) (hst : l.stackTraces = false) (z : Nat) (H0 : Heap) (hz : z ≤ H0.size) (D : va_G) (cI cJ cZ cG : ClassId) (b P : Nat) (ad : Nat → ga) (st : Nat → Option GS) (j : Nat) (x : GS) (b1 : Int32) (b2 : Int64) (hj : j < 12) (hst1 : st j = some x) (hok : e_X1_needSort (gK x) b1 1 = 0) (hnog : e_X1_needGood (gK x) b2 = 2) (hPB : va_P D vwCl (BW cI cJ cG b P ad st) H0) : th l yX1_stepBy wsX1_stepBy ({ frames := 7, cells := 1, slots := 6, locals := 104 }) [Value.ref b, Value.int (nI j), Value.int b1, Value.long b2] (KZ D cI cJ cZ cG z H0) H0 "java/lang/IllegalArgumentException" := by
  refine vx_ofW (cc := cX1_stepBy) (maxL := 6) (ret := (some .int)) (by decide) rfl ?_
  intro p e s m args below meth c s₁ B hml hex hv
  obtain ⟨rfl, hH, hKZ⟩ := hv
  have hx := B.exec
  have hb := B.bytes
  have hr := B.returns
  have hts := atoms_spec (ws := wsX1_stepBy) B.pre
  have hown : s.vm.findClass RX1 = some m.cls := findClass_of_methodNamed B.named
  have hlocks := B.notSynchronized
  subst hH
  have hKW := hKZ.1
  have hK := hKW.1
  have hl := lv_entry ([Value.ref b, Value.int (nI j), Value.int b1, Value.long b2]) (n := 6) (Nat.le_of_ble_eq_true rfl)
  rw [lg_entry_eq]
  generalize (lg_sl ([Value.ref b, Value.int (nI j), Value.int b1, Value.long b2]) ++ List.replicate (6 - (lg_sl ([Value.ref b, Value.int (nI j), Value.int b1, Value.long b2])).length) Slot.unset).toArray = ls at hl ⊢
  have hl : lv_has ls 6 [(0, .ref b), (1, .int (nI j)), (2, .int b1), (3, .long b2)] := hl
  have hinX0 : ∀ w ∈ u_ws RX0 TX0 11, w ∈ wsX1_stepBy := by decide +kernel
  have hB : va_P D vwCl [(b, .inr (1, [.ref P])), (P, .inl (cG, 12, .inr (.inr (.inr (.inr (pl ad st))))))] s.heap := BW_board hPB
  have hg : va_P D vwCl [((ad j).1, .inr (0, [.ref ((ad j).2.1), .ref ((ad j).2.2.1), .ref ((ad j).2.2.2), .int (gK x), .int (gC x), .long (gV x), .int (gM x), .long (gH x), .long (gL x), .int (gR x), .int (gW x)])), ((ad j).2.1, .inl (cI, 8, .inl (gSo x))), ((ad j).2.2.1, .inl (cI, 8, .inl (gSr x))), ((ad j).2.2.2, .inl (cJ, 8, .inr (.inl (gOp x))))] s.heap := BW_gauge hPB hj hst1
  refine lv_aload_n hx hb dX1_stepBy_0 rfl (lv_at hl 0 rfl) ?_
  refine lv_iload_n hx hb dX1_stepBy_1 rfl (lv_at hl 1 rfl) ?_
  refine pu_V (As := [.int (nI j)]) (rest := []) ⟨hx, hb, hml, hown, hts⟩ (c_X1_needGauge l s.heap D cI cJ cZ cG b P ad st j x hj hst1 hPB) (KW_puK D cI cJ cZ cG) hKW (cwV 1 hts gX1_stepBy_X1_needGauge rfl rfl rfl (by decide +kernel) ⟨Nat.le_of_ble_eq_true rfl, Nat.le_of_ble_eq_true rfl⟩) (va_recv hK hB (ci := 1) (q0 := 0) rfl rfl) rfl hl.1 rfl (Nat.le_of_ble_eq_true rfl) dX1_stepBy_2 ⟨Nat.zero_le _, Nat.zero_le _⟩ ?_
  refine W.eq (g2 := F0 m 5 ls [.ref ((ad j).1)]) rfl ?_
  refine lv_astore (lv' := [(5, .ref ((ad j).1)), (0, .ref b), (1, .int (nI j)), (2, .int b1), (3, .long b2)]) hx hb dX1_stepBy_5 hl (by decide) rfl (fun ls hl => ?_)
  refine lv_aload hx hb dX1_stepBy_7 (lv_at hl 0 rfl) ?_
  refine va_getN (D := D) (ci := 0) (v := .int (gK x)) (C := RX0) (T := TX0) (N := 11) hx hb hts hinX0 hown hK hg 0 rfl rfl 3 (by decide) (hKW.n 3 rfl rfl) (fun _ h9 => h9) rfl dX1_stepBy_9 ?_
  refine lv_iload_n hx hb dX1_stepBy_12 rfl (lv_at hl 3 rfl) ?_
  refine lv_iconst (v := 1) hx hb dX1_stepBy_13 (by decide) ?_
  refine pu_S (As := [.int (gK x), .int b1, .int (1 : Int32)]) (rest := []) ⟨hx, hb, hml, hown, hts⟩ (c_X1_needSort l s.heap (gK x) b1 1 hok) puK_T trivial (va_cwS 3 hts gX1_stepBy_X1_needSort rfl rfl rfl (by decide +kernel) ⟨Nat.le_of_ble_eq_true rfl, Nat.le_of_ble_eq_true rfl⟩) rfl hl.1 rfl (Nat.le_of_ble_eq_true rfl) dX1_stepBy_14 ⟨Nat.zero_le _, Nat.zero_le _⟩ ?_
  refine W.eq (g2 := F0 m 17 ls []) rfl ?_
  refine lv_aload hx hb dX1_stepBy_17 (lv_at hl 0 rfl) ?_
  refine va_getN (D := D) (ci := 0) (v := .int (gK x)) (C := RX0) (T := TX0) (N := 11) hx hb hts hinX0 hown hK hg 0 rfl rfl 3 (by decide) (hKW.n 3 rfl rfl) (fun _ h9 => h9) rfl dX1_stepBy_19 ?_
  refine lv_lload_n hx hb dX1_stepBy_22 rfl (lv_at hl 4 rfl) ?_
  exact th_S (As := [.int (gK x), .long b2]) (rest := []) ⟨hx, hb, hml, hown, hts⟩ (t_X1_needGood l hst z s.heap hz D cI cJ cZ cG (gK x) b2 hnog) (KZ_puK D cI cJ cZ cG z s.heap) hKZ (va_cwS 2 hts gX1_stepBy_X1_needGood rfl rfl rfl (by decide +kernel) ⟨Nat.le_of_ble_eq_true rfl, Nat.le_of_ble_eq_true rfl⟩) rfl hl.1 rfl (Nat.le_of_ble_eq_true rfl) dX1_stepBy_23 ⟨Nat.le_of_ble_eq_true rfl, Nat.le_of_ble_eq_true rfl⟩ hex hlocks
set_option maxHeartbeats 4000000 in
set_option maxRecDepth 100000 in
theorem t_X1_stepBy_S (l : Launch) (hst : l.stackTraces = false) (z : Nat) (H0 : Heap) (hz : z ≤ H0.size) (D : va_G) (cI cJ cZ cG : ClassId) (b P : Nat) (ad : Nat → ga) (st : Nat → Option GS) (j : Nat) (x : GS) (b1 : Int32) (b2 : Int64) (hj : j < 12) (hst1 : st j = some x) (hok : e_X1_needSort (gK x) b1 1 = 0) (hgd : e_X1_needGood (gK x) b2 = 0) (hge : ¬ (gC x) < (8 : Int32)) (hPB : va_P D vwCl (BW cI cJ cG b P ad st) H0) : th l yX1_stepBy wsX1_stepBy ({ frames := 7, cells := 1, slots := 6, locals := 106 }) [Value.ref b, Value.int (nI j), Value.int b1, Value.long b2] (KZ D cI cJ cZ cG z H0) H0 "java/lang/IllegalStateException" := by
  refine vx_ofW (cc := cX1_stepBy) (maxL := 6) (ret := (some .int)) (by decide) rfl ?_
  intro p e s m args below meth c s₁ B hml hex hv
  obtain ⟨rfl, hH, hKZ⟩ := hv
  have hx := B.exec
  have hb := B.bytes
  have hr := B.returns
  have hts := atoms_spec (ws := wsX1_stepBy) B.pre
  have hown : s.vm.findClass RX1 = some m.cls := findClass_of_methodNamed B.named
  have hlocks := B.notSynchronized
  subst hH
  have hKW := hKZ.1
  have hK := hKW.1
  have hl := lv_entry ([Value.ref b, Value.int (nI j), Value.int b1, Value.long b2]) (n := 6) (Nat.le_of_ble_eq_true rfl)
  rw [lg_entry_eq]
  generalize (lg_sl ([Value.ref b, Value.int (nI j), Value.int b1, Value.long b2]) ++ List.replicate (6 - (lg_sl ([Value.ref b, Value.int (nI j), Value.int b1, Value.long b2])).length) Slot.unset).toArray = ls at hl ⊢
  have hl : lv_has ls 6 [(0, .ref b), (1, .int (nI j)), (2, .int b1), (3, .long b2)] := hl
  have hinX0 : ∀ w ∈ u_ws RX0 TX0 11, w ∈ wsX1_stepBy := by decide +kernel
  have hB : va_P D vwCl [(b, .inr (1, [.ref P])), (P, .inl (cG, 12, .inr (.inr (.inr (.inr (pl ad st))))))] s.heap := BW_board hPB
  have hg : va_P D vwCl [((ad j).1, .inr (0, [.ref ((ad j).2.1), .ref ((ad j).2.2.1), .ref ((ad j).2.2.2), .int (gK x), .int (gC x), .long (gV x), .int (gM x), .long (gH x), .long (gL x), .int (gR x), .int (gW x)])), ((ad j).2.1, .inl (cI, 8, .inl (gSo x))), ((ad j).2.2.1, .inl (cI, 8, .inl (gSr x))), ((ad j).2.2.2, .inl (cJ, 8, .inr (.inl (gOp x))))] s.heap := BW_gauge hPB hj hst1
  refine lv_aload_n hx hb dX1_stepBy_0 rfl (lv_at hl 0 rfl) ?_
  refine lv_iload_n hx hb dX1_stepBy_1 rfl (lv_at hl 1 rfl) ?_
  refine pu_V (As := [.int (nI j)]) (rest := []) ⟨hx, hb, hml, hown, hts⟩ (c_X1_needGauge l s.heap D cI cJ cZ cG b P ad st j x hj hst1 hPB) (KW_puK D cI cJ cZ cG) hKW (cwV 1 hts gX1_stepBy_X1_needGauge rfl rfl rfl (by decide +kernel) ⟨Nat.le_of_ble_eq_true rfl, Nat.le_of_ble_eq_true rfl⟩) (va_recv hK hB (ci := 1) (q0 := 0) rfl rfl) rfl hl.1 rfl (Nat.le_of_ble_eq_true rfl) dX1_stepBy_2 ⟨Nat.zero_le _, Nat.zero_le _⟩ ?_
  refine W.eq (g2 := F0 m 5 ls [.ref ((ad j).1)]) rfl ?_
  refine lv_astore (lv' := [(5, .ref ((ad j).1)), (0, .ref b), (1, .int (nI j)), (2, .int b1), (3, .long b2)]) hx hb dX1_stepBy_5 hl (by decide) rfl (fun ls hl => ?_)
  refine lv_aload hx hb dX1_stepBy_7 (lv_at hl 0 rfl) ?_
  refine va_getN (D := D) (ci := 0) (v := .int (gK x)) (C := RX0) (T := TX0) (N := 11) hx hb hts hinX0 hown hK hg 0 rfl rfl 3 (by decide) (hKW.n 3 rfl rfl) (fun _ h9 => h9) rfl dX1_stepBy_9 ?_
  refine lv_iload_n hx hb dX1_stepBy_12 rfl (lv_at hl 3 rfl) ?_
  refine lv_iconst (v := 1) hx hb dX1_stepBy_13 (by decide) ?_
  refine pu_S (As := [.int (gK x), .int b1, .int (1 : Int32)]) (rest := []) ⟨hx, hb, hml, hown, hts⟩ (c_X1_needSort l s.heap (gK x) b1 1 hok) puK_T trivial (va_cwS 3 hts gX1_stepBy_X1_needSort rfl rfl rfl (by decide +kernel) ⟨Nat.le_of_ble_eq_true rfl, Nat.le_of_ble_eq_true rfl⟩) rfl hl.1 rfl (Nat.le_of_ble_eq_true rfl) dX1_stepBy_14 ⟨Nat.zero_le _, Nat.zero_le _⟩ ?_
  refine W.eq (g2 := F0 m 17 ls []) rfl ?_
  refine lv_aload hx hb dX1_stepBy_17 (lv_at hl 0 rfl) ?_
  refine va_getN (D := D) (ci := 0) (v := .int (gK x)) (C := RX0) (T := TX0) (N := 11) hx hb hts hinX0 hown hK hg 0 rfl rfl 3 (by decide) (hKW.n 3 rfl rfl) (fun _ h9 => h9) rfl dX1_stepBy_19 ?_
  refine lv_lload_n hx hb dX1_stepBy_22 rfl (lv_at hl 4 rfl) ?_
  refine pu_S (As := [.int (gK x), .long b2]) (rest := []) ⟨hx, hb, hml, hown, hts⟩ (c_X1_needGood l s.heap (gK x) b2 hgd) puK_T trivial (va_cwS 2 hts gX1_stepBy_X1_needGood rfl rfl rfl (by decide +kernel) ⟨Nat.le_of_ble_eq_true rfl, Nat.le_of_ble_eq_true rfl⟩) rfl hl.1 rfl (Nat.le_of_ble_eq_true rfl) dX1_stepBy_23 ⟨Nat.zero_le _, Nat.zero_le _⟩ ?_
  refine W.eq (g2 := F0 m 26 ls []) rfl ?_
  refine lv_aload hx hb dX1_stepBy_26 (lv_at hl 0 rfl) ?_
  refine lv_iload_n hx hb dX1_stepBy_28 rfl (lv_at hl 3 rfl) ?_
  refine lv_iconst (v := (-1)) hx hb dX1_stepBy_29 (by decide) ?_
  refine lv_lload_n hx hb dX1_stepBy_30 rfl (lv_at hl 4 rfl) ?_
  exact th_VN (As := [.int b1, .int (-1 : Int32), .long b2]) (rest := []) ⟨hx, hb, hml, hown, hts⟩ (t_X0_addStep l hst z s.heap hz D cI cJ cZ cG (ad j) x b1 (-1 : Int32) b2 hge hg) (KZ_puK D cI cJ cZ cG z s.heap) hKZ ⟨va_cnB 3 hts gX1_stepBy_X0_addStep_n62 rfl rfl rfl (hKW.2 _ (List.mem_of_getElem? (i := 14) rfl)) (hts (.initialized RX0) (by decide +kernel)) (by decide +kernel) ⟨Nat.le_of_ble_eq_true rfl, Nat.le_of_ble_eq_true rfl⟩, hts (.instanceMethod yX0_addStep) (by decide +kernel), hts (.selects RX0 yX0_addStep yX0_addStep) (by decide +kernel)⟩ (va_recv hK hg (ci := 0) (q0 := 0) rfl rfl) rfl hl.1 rfl (Nat.le_of_ble_eq_true rfl) dX1_stepBy_31 ⟨Nat.le_of_ble_eq_true rfl, Nat.le_of_ble_eq_true rfl⟩ hex hlocks
def F_X1_stepBy (x : GS) (b1 : Int32) (b2 : Int64) : Int32 × GS := ((F_X0_addStep x b1 (-1 : Int32) b2).1, (F_X0_addStep x b1 (-1 : Int32) b2).2)
set_option maxHeartbeats 4000000 in
set_option maxRecDepth 100000 in
theorem c_X1_stepBy (l : Launch) (H0 : Heap) (D : va_G) (cI cJ cZ cG : ClassId) (b P : Nat) (ad : Nat → ga) (st : Nat → Option GS) (j : Nat) (x : GS) (b1 : Int32) (b2 : Int64) (hj : j < 12) (hst1 : st j = some x) (hc : vp_in (gC x) 9) (hok : e_X1_needSort (gK x) b1 1 = 0) (hgd : e_X1_needGood (gK x) b2 = 0) (hlt : (gC x) < (8 : Int32)) (hPB : va_P D vwCl (BW cI cJ cG b P ad st) H0) (hD0 : va_D (fun _ => True) (BW cI cJ cG b P ad st)) : wr l yX1_stepBy wsX1_stepBy ({ frames := 3, cells := 0, slots := 0, locals := 63 }) [Value.ref b, Value.int (nI j), Value.int b1, Value.long b2] (KW D cI cJ cZ cG) H0 (some (.int (F_X1_stepBy x b1 b2).1)) D (BW cI cJ cG b P ad st) (fun w => w = BW cI cJ cG b P ad (va_up st j (some (F_X1_stepBy x b1 b2).2))) 0 0 := by
  refine Met.ofW (cc := cX1_stepBy) (maxL := 6) (ret := (some .int)) (by decide) rfl ?_
  intro p e s m args below meth c s₁ B hml hv
  obtain ⟨rfl, hH, hKW⟩ := hv
  have hx := B.exec
  have hb := B.bytes
  have hr := B.returns
  have hts := atoms_spec (ws := wsX1_stepBy) B.pre
  have hown : s.vm.findClass RX1 = some m.cls := findClass_of_methodNamed B.named
  have hlocks := B.notSynchronized
  subst hH
  have hK := hKW.1
  have hl := lv_entry ([Value.ref b, Value.int (nI j), Value.int b1, Value.long b2]) (n := 6) (Nat.le_of_ble_eq_true rfl)
  rw [lg_entry_eq]
  generalize (lg_sl ([Value.ref b, Value.int (nI j), Value.int b1, Value.long b2]) ++ List.replicate (6 - (lg_sl ([Value.ref b, Value.int (nI j), Value.int b1, Value.long b2])).length) Slot.unset).toArray = ls at hl ⊢
  have hl : lv_has ls 6 [(0, .ref b), (1, .int (nI j)), (2, .int b1), (3, .long b2)] := hl
  have hinX0 : ∀ w ∈ u_ws RX0 TX0 11, w ∈ wsX1_stepBy := by decide +kernel
  have hB : va_P D vwCl [(b, .inr (1, [.ref P])), (P, .inl (cG, 12, .inr (.inr (.inr (.inr (pl ad st))))))] s.heap := BW_board hPB
  have hD := hD0.self (sz := s.heap.size)
  generalize hAe : va_A (BW cI cJ cG b P ad st) s.heap.size = A at hD ⊢
  have hA : ∀ q : Nat, s.heap.size ≤ q → A q := fun q h => by rw [← hAe]; exact Or.inr h
  have hS : va_S A s.heap s.heap [] := va_S.rf
  have hP := wd_P.perm hPB (BW_perm hj hst1)
  have hD := wd_D.perm hD (BW_perm hj hst1)
  obtain ⟨Rw, hRw⟩ : ∃ R, R = BB cG b P (pl ad st) ++ BG cI cJ ad (va_up st j none) 12 := ⟨_, rfl⟩
  rw [← hRw] at hP hD
  have hP : va_P D vwCl ([((ad j).1, .inr (0, [.ref ((ad j).2.1), .ref ((ad j).2.2.1), .ref ((ad j).2.2.2), .int (gK x), .int (gC x), .long (gV x), .int (gM x), .long (gH x), .long (gL x), .int (gR x), .int (gW x)])), ((ad j).2.1, .inl (cI, 8, .inl (gSo x))), ((ad j).2.2.1, .inl (cI, 8, .inl (gSr x))), ((ad j).2.2.2, .inl (cJ, 8, .inr (.inl (gOp x))))] ++ Rw) s.heap := hP
  have hD : va_D A ([((ad j).1, .inr (0, [.ref ((ad j).2.1), .ref ((ad j).2.2.1), .ref ((ad j).2.2.2), .int (gK x), .int (gC x), .long (gV x), .int (gM x), .long (gH x), .long (gL x), .int (gR x), .int (gW x)])), ((ad j).2.1, .inl (cI, 8, .inl (gSo x))), ((ad j).2.2.1, .inl (cI, 8, .inl (gSr x))), ((ad j).2.2.2, .inl (cJ, 8, .inr (.inl (gOp x))))] ++ Rw) := hD
  refine lv_aload_n hx hb dX1_stepBy_0 rfl (lv_at hl 0 rfl) ?_
  refine lv_iload_n hx hb dX1_stepBy_1 rfl (lv_at hl 1 rfl) ?_
  refine pu_V (As := [.int (nI j)]) (rest := []) ⟨hx, hb, hml, hown, hts⟩ (c_X1_needGauge l s.heap D cI cJ cZ cG b P ad st j x hj hst1 hPB) (KW_puK D cI cJ cZ cG) hKW (cwV 1 hts gX1_stepBy_X1_needGauge rfl rfl rfl (by decide +kernel) ⟨Nat.le_of_ble_eq_true rfl, Nat.le_of_ble_eq_true rfl⟩) (va_recv hK hB (ci := 1) (q0 := 0) rfl rfl) rfl hl.1 rfl (Nat.le_of_ble_eq_true rfl) dX1_stepBy_2 ⟨Nat.zero_le _, Nat.zero_le _⟩ ?_
  refine W.eq (g2 := F0 m 5 ls [.ref ((ad j).1)]) rfl ?_
  refine lv_astore (lv' := [(5, .ref ((ad j).1)), (0, .ref b), (1, .int (nI j)), (2, .int b1), (3, .long b2)]) hx hb dX1_stepBy_5 hl (by decide) rfl (fun ls hl => ?_)
  refine lv_aload hx hb dX1_stepBy_7 (lv_at hl 0 rfl) ?_
  refine va_getN (D := D) (ci := 0) (v := .int (gK x)) (C := RX0) (T := TX0) (N := 11) hx hb hts hinX0 hown hK hP 0 rfl rfl 3 (by decide) (hKW.n 3 rfl rfl) (fun _ h9 => h9) rfl dX1_stepBy_9 ?_
  refine lv_iload_n hx hb dX1_stepBy_12 rfl (lv_at hl 3 rfl) ?_
  refine lv_iconst (v := 1) hx hb dX1_stepBy_13 (by decide) ?_
  refine pu_S (As := [.int (gK x), .int b1, .int (1 : Int32)]) (rest := []) ⟨hx, hb, hml, hown, hts⟩ (c_X1_needSort l s.heap (gK x) b1 1 hok) puK_T trivial (va_cwS 3 hts gX1_stepBy_X1_needSort rfl rfl rfl (by decide +kernel) ⟨Nat.le_of_ble_eq_true rfl, Nat.le_of_ble_eq_true rfl⟩) rfl hl.1 rfl (Nat.le_of_ble_eq_true rfl) dX1_stepBy_14 ⟨Nat.zero_le _, Nat.zero_le _⟩ ?_
  refine W.eq (g2 := F0 m 17 ls []) rfl ?_
  refine lv_aload hx hb dX1_stepBy_17 (lv_at hl 0 rfl) ?_
  refine va_getN (D := D) (ci := 0) (v := .int (gK x)) (C := RX0) (T := TX0) (N := 11) hx hb hts hinX0 hown hK hP 0 rfl rfl 3 (by decide) (hKW.n 3 rfl rfl) (fun _ h9 => h9) rfl dX1_stepBy_19 ?_
  refine lv_lload_n hx hb dX1_stepBy_22 rfl (lv_at hl 4 rfl) ?_
  refine pu_S (As := [.int (gK x), .long b2]) (rest := []) ⟨hx, hb, hml, hown, hts⟩ (c_X1_needGood l s.heap (gK x) b2 hgd) puK_T trivial (va_cwS 2 hts gX1_stepBy_X1_needGood rfl rfl rfl (by decide +kernel) ⟨Nat.le_of_ble_eq_true rfl, Nat.le_of_ble_eq_true rfl⟩) rfl hl.1 rfl (Nat.le_of_ble_eq_true rfl) dX1_stepBy_23 ⟨Nat.zero_le _, Nat.zero_le _⟩ ?_
  refine W.eq (g2 := F0 m 26 ls []) rfl ?_
  refine lv_aload hx hb dX1_stepBy_26 (lv_at hl 0 rfl) ?_
  refine lv_iload_n hx hb dX1_stepBy_28 rfl (lv_at hl 3 rfl) ?_
  refine lv_iconst (v := (-1)) hx hb dX1_stepBy_29 (by decide) ?_
  refine lv_lload_n hx hb dX1_stepBy_30 rfl (lv_at hl 4 rfl) ?_
  refine wr_VN (As := [.int b1, .int (-1 : Int32), .long b2]) (rest := []) (Rw := Rw) ⟨hx, hb, hml, hown, hts⟩ (c_X0_addStep l s.heap D cI cJ cZ cG (ad j) x b1 (-1 : Int32) b2 hc hlt (wd_gz hP) (wd_D.left (hD.weaken (fun _ _ _ _ => trivial)))) (KW_puK D cI cJ cZ cG) hKW ⟨va_cnB 3 hts gX1_stepBy_X0_addStep_n62 rfl rfl rfl (hKW.2 _ (List.mem_of_getElem? (i := 14) rfl)) (hts (.initialized RX0) (by decide +kernel)) (by decide +kernel) ⟨Nat.le_of_ble_eq_true rfl, Nat.le_of_ble_eq_true rfl⟩, hts (.instanceMethod yX0_addStep) (by decide +kernel), hts (.selects RX0 yX0_addStep yX0_addStep) (by decide +kernel)⟩ (va_recv hK hP (ci := 0) (q0 := 0) rfl rfl) rfl hl.1 rfl (Nat.le_of_ble_eq_true rfl) dX1_stepBy_31 ⟨Nat.zero_le _, Nat.zero_le _⟩ hP hD hS hA (fun w1 H locs hw hP hD hS => ?_)
  subst hw
  obtain ⟨z_1, hz_1⟩ : ∃ u, u = (F_X0_addStep x b1 (-1 : Int32) b2).2 := ⟨_, rfl⟩
  rw [← hz_1] at hP hD
  have hP : va_P D vwCl ([((ad j).1, .inr (0, [.ref ((ad j).2.1), .ref ((ad j).2.2.1), .ref ((ad j).2.2.2), .int (gK z_1), .int (gC z_1), .long (gV z_1), .int (gM z_1), .long (gH z_1), .long (gL z_1), .int (gR z_1), .int (gW z_1)])), ((ad j).2.1, .inl (cI, 8, .inl (gSo z_1))), ((ad j).2.2.1, .inl (cI, 8, .inl (gSr z_1))), ((ad j).2.2.2, .inl (cJ, 8, .inr (.inl (gOp z_1))))] ++ Rw) H := hP
  have hD : va_D A ([((ad j).1, .inr (0, [.ref ((ad j).2.1), .ref ((ad j).2.2.1), .ref ((ad j).2.2.2), .int (gK z_1), .int (gC z_1), .long (gV z_1), .int (gM z_1), .long (gH z_1), .long (gL z_1), .int (gR z_1), .int (gW z_1)])), ((ad j).2.1, .inl (cI, 8, .inl (gSo z_1))), ((ad j).2.2.1, .inl (cI, 8, .inl (gSr z_1))), ((ad j).2.2.2, .inl (cJ, 8, .inr (.inl (gOp z_1))))] ++ Rw) := hD
  refine W.eq (g2 := F0 m 34 ls [.int ((F_X0_addStep x b1 (-1 : Int32) b2).1)]) rfl ?_
  have hF : F_X1_stepBy x b1 b2 = ((F_X0_addStep x b1 (-1 : Int32) b2).1, z_1) := by
    unfold F_X1_stepBy; rw [← hz_1]
  subst hRw
  exact W.iret (v := (F_X0_addStep x b1 (-1 : Int32) b2).1) hx hb hr (fun t ht hW => ⟨by rw [hF], _, rfl, by rw [hF, ht]; exact wd_P.perm hP (BW_back hj hst1), by rw [hF]; exact wd_D.perm hD (BW_back hj hst1), (hS.F ht).1, (hS.F ht).2⟩) hS.2.2 dX1_stepBy_34
set_option maxHeartbeats 4000000 in
set_option maxRecDepth 100000 in
theorem t_X1_stepOf_N (l : Launch) (hst : l.stackTraces = false) (z : Nat) (H0 : Heap) (hz : z ≤ H0.size) (D : va_G) (cI cJ cZ cG : ClassId) (b P : Nat) (ad : Nat → ga) (st : Nat → Option GS) (b0 : Int32) (b1 : Int32) (b2 : Int32) (hn : gat st b0 = none) (hPB : va_P D vwCl (BW cI cJ cG b P ad st) H0) : th l yX1_stepOf wsX1_stepOf ({ frames := 7, cells := 1, slots := 6, locals := 104 }) [Value.ref b, Value.int b0, Value.int b1, Value.int b2] (KZ D cI cJ cZ cG z H0) H0 "java/util/NoSuchElementException" := by
  refine vx_ofW (cc := cX1_stepOf) (maxL := 6) (ret := (some .int)) (by decide) rfl ?_
  intro p e s m args below meth c s₁ B hml hex hv
  obtain ⟨rfl, hH, hKZ⟩ := hv
  have hx := B.exec
  have hb := B.bytes
  have hr := B.returns
  have hts := atoms_spec (ws := wsX1_stepOf) B.pre
  have hown : s.vm.findClass RX1 = some m.cls := findClass_of_methodNamed B.named
  have hlocks := B.notSynchronized
  subst hH
  have hKW := hKZ.1
  have hK := hKW.1
  have hl := lv_entry ([Value.ref b, Value.int b0, Value.int b1, Value.int b2]) (n := 6) (Nat.le_of_ble_eq_true rfl)
  rw [lg_entry_eq]
  generalize (lg_sl ([Value.ref b, Value.int b0, Value.int b1, Value.int b2]) ++ List.replicate (6 - (lg_sl ([Value.ref b, Value.int b0, Value.int b1, Value.int b2])).length) Slot.unset).toArray = ls at hl ⊢
  have hl : lv_has ls 6 [(0, .ref b), (1, .int b0), (2, .int b1), (3, .int b2)] := hl
  have hB : va_P D vwCl [(b, .inr (1, [.ref P])), (P, .inl (cG, 12, .inr (.inr (.inr (.inr (pl ad st))))))] s.heap := BW_board hPB
  refine lv_aload_n hx hb dX1_stepOf_0 rfl (lv_at hl 0 rfl) ?_
  refine lv_iload_n hx hb dX1_stepOf_1 rfl (lv_at hl 1 rfl) ?_
  exact th_V (As := [.int b0]) (rest := []) ⟨hx, hb, hml, hown, hts⟩ (t_X1_needGauge l hst z s.heap hz D cI cJ cZ cG b P ad st b0 hn hPB) (KZ_puK D cI cJ cZ cG z s.heap) hKZ (cwV 1 hts gX1_stepOf_X1_needGauge rfl rfl rfl (by decide +kernel) ⟨Nat.le_of_ble_eq_true rfl, Nat.le_of_ble_eq_true rfl⟩) (va_recv hK hB (ci := 1) (q0 := 0) rfl rfl) rfl hl.1 rfl (Nat.le_of_ble_eq_true rfl) dX1_stepOf_2 ⟨Nat.le_of_ble_eq_true rfl, Nat.le_of_ble_eq_true rfl⟩ hex hlocks
set_option maxHeartbeats 4000000 in
set_option maxRecDepth 100000 in
theorem t_X1_stepOf_M (l : Launch) (hst : l.stackTraces = false) (z : Nat) (H0 : Heap) (hz : z ≤ H0.size) (D : va_G) (cI cJ cZ cG : ClassId) (b P : Nat) (ad : Nat → ga) (st : Nat → Option GS) (j : Nat) (x : GS) (b1 b2 : Int32) (hj : j < 12) (hst1 : st j = some x) (hn2 : gat st b2 = none) (hPB : va_P D vwCl (BW cI cJ cG b P ad st) H0) : th l yX1_stepOf wsX1_stepOf ({ frames := 7, cells := 1, slots := 6, locals := 104 }) [Value.ref b, Value.int (nI j), Value.int b1, Value.int b2] (KZ D cI cJ cZ cG z H0) H0 "java/util/NoSuchElementException" := by
  refine vx_ofW (cc := cX1_stepOf) (maxL := 6) (ret := (some .int)) (by decide) rfl ?_
  intro p e s m args below meth c s₁ B hml hex hv
  obtain ⟨rfl, hH, hKZ⟩ := hv
  have hx := B.exec
  have hb := B.bytes
  have hr := B.returns
  have hts := atoms_spec (ws := wsX1_stepOf) B.pre
  have hown : s.vm.findClass RX1 = some m.cls := findClass_of_methodNamed B.named
  have hlocks := B.notSynchronized
  subst hH
  have hKW := hKZ.1
  have hK := hKW.1
  have hl := lv_entry ([Value.ref b, Value.int (nI j), Value.int b1, Value.int b2]) (n := 6) (Nat.le_of_ble_eq_true rfl)
  rw [lg_entry_eq]
  generalize (lg_sl ([Value.ref b, Value.int (nI j), Value.int b1, Value.int b2]) ++ List.replicate (6 - (lg_sl ([Value.ref b, Value.int (nI j), Value.int b1, Value.int b2])).length) Slot.unset).toArray = ls at hl ⊢
  have hl : lv_has ls 6 [(0, .ref b), (1, .int (nI j)), (2, .int b1), (3, .int b2)] := hl
  have hB : va_P D vwCl [(b, .inr (1, [.ref P])), (P, .inl (cG, 12, .inr (.inr (.inr (.inr (pl ad st))))))] s.heap := BW_board hPB
  have hg : va_P D vwCl [((ad j).1, .inr (0, [.ref ((ad j).2.1), .ref ((ad j).2.2.1), .ref ((ad j).2.2.2), .int (gK x), .int (gC x), .long (gV x), .int (gM x), .long (gH x), .long (gL x), .int (gR x), .int (gW x)])), ((ad j).2.1, .inl (cI, 8, .inl (gSo x))), ((ad j).2.2.1, .inl (cI, 8, .inl (gSr x))), ((ad j).2.2.2, .inl (cJ, 8, .inr (.inl (gOp x))))] s.heap := BW_gauge hPB hj hst1
  refine lv_aload_n hx hb dX1_stepOf_0 rfl (lv_at hl 0 rfl) ?_
  refine lv_iload_n hx hb dX1_stepOf_1 rfl (lv_at hl 1 rfl) ?_
  refine pu_V (As := [.int (nI j)]) (rest := []) ⟨hx, hb, hml, hown, hts⟩ (c_X1_needGauge l s.heap D cI cJ cZ cG b P ad st j x hj hst1 hPB) (KW_puK D cI cJ cZ cG) hKW (cwV 1 hts gX1_stepOf_X1_needGauge rfl rfl rfl (by decide +kernel) ⟨Nat.le_of_ble_eq_true rfl, Nat.le_of_ble_eq_true rfl⟩) (va_recv hK hB (ci := 1) (q0 := 0) rfl rfl) rfl hl.1 rfl (Nat.le_of_ble_eq_true rfl) dX1_stepOf_2 ⟨Nat.zero_le _, Nat.zero_le _⟩ ?_
  refine W.eq (g2 := F0 m 5 ls [.ref ((ad j).1)]) rfl ?_
  refine lv_astore (lv' := [(4, .ref ((ad j).1)), (0, .ref b), (1, .int (nI j)), (2, .int b1), (3, .int b2)]) hx hb dX1_stepOf_5 hl (by decide) rfl (fun ls hl => ?_)
  refine lv_aload_n hx hb dX1_stepOf_7 rfl (lv_at hl 1 rfl) ?_
  refine lv_iload_n hx hb dX1_stepOf_8 rfl (lv_at hl 4 rfl) ?_
  exact th_V (As := [.int b2]) (rest := []) ⟨hx, hb, hml, hown, hts⟩ (t_X1_needGauge l hst z s.heap hz D cI cJ cZ cG b P ad st b2 hn2 hPB) (KZ_puK D cI cJ cZ cG z s.heap) hKZ (cwV 1 hts gX1_stepOf_X1_needGauge rfl rfl rfl (by decide +kernel) ⟨Nat.le_of_ble_eq_true rfl, Nat.le_of_ble_eq_true rfl⟩) (va_recv hK hB (ci := 1) (q0 := 0) rfl rfl) rfl hl.1 rfl (Nat.le_of_ble_eq_true rfl) dX1_stepOf_9 ⟨Nat.le_of_ble_eq_true rfl, Nat.le_of_ble_eq_true rfl⟩ hex hlocks
set_option maxHeartbeats 4000000 in
set_option maxRecDepth 100000 in
theorem t_X1_stepOf_A (l : Launch) (hst : l.stackTraces = false) (z : Nat) (H0 : Heap) (hz : z ≤ H0.size) (D : va_G) (cI cJ cZ cG : ClassId) (b P : Nat) (ad : Nat → ga) (st : Nat → Option GS) (j : Nat) (x : GS) (j2 : Nat) (y : GS) (b1 : Int32) (hj : j < 12) (hst1 : st j = some x) (hj2 : j2 < 12) (hst2 : st j2 = some y) (hno : e_X1_needSort (gK x) b1 1 = 2) (hPB : va_P D vwCl (BW cI cJ cG b P ad st) H0) : th l yX1_stepOf wsX1_stepOf ({ frames := 7, cells := 1, slots := 6, locals := 104 }) [Value.ref b, Value.int (nI j), Value.int b1, Value.int (nI j2)] (KZ D cI cJ cZ cG z H0) H0 "java/lang/IllegalArgumentException" := by
  refine vx_ofW (cc := cX1_stepOf) (maxL := 6) (ret := (some .int)) (by decide) rfl ?_
  intro p e s m args below meth c s₁ B hml hex hv
  obtain ⟨rfl, hH, hKZ⟩ := hv
  have hx := B.exec
  have hb := B.bytes
  have hr := B.returns
  have hts := atoms_spec (ws := wsX1_stepOf) B.pre
  have hown : s.vm.findClass RX1 = some m.cls := findClass_of_methodNamed B.named
  have hlocks := B.notSynchronized
  subst hH
  have hKW := hKZ.1
  have hK := hKW.1
  have hl := lv_entry ([Value.ref b, Value.int (nI j), Value.int b1, Value.int (nI j2)]) (n := 6) (Nat.le_of_ble_eq_true rfl)
  rw [lg_entry_eq]
  generalize (lg_sl ([Value.ref b, Value.int (nI j), Value.int b1, Value.int (nI j2)]) ++ List.replicate (6 - (lg_sl ([Value.ref b, Value.int (nI j), Value.int b1, Value.int (nI j2)])).length) Slot.unset).toArray = ls at hl ⊢
  have hl : lv_has ls 6 [(0, .ref b), (1, .int (nI j)), (2, .int b1), (3, .int (nI j2))] := hl
  have hinX0 : ∀ w ∈ u_ws RX0 TX0 11, w ∈ wsX1_stepOf := by decide +kernel
  have hB : va_P D vwCl [(b, .inr (1, [.ref P])), (P, .inl (cG, 12, .inr (.inr (.inr (.inr (pl ad st))))))] s.heap := BW_board hPB
  have hg : va_P D vwCl [((ad j).1, .inr (0, [.ref ((ad j).2.1), .ref ((ad j).2.2.1), .ref ((ad j).2.2.2), .int (gK x), .int (gC x), .long (gV x), .int (gM x), .long (gH x), .long (gL x), .int (gR x), .int (gW x)])), ((ad j).2.1, .inl (cI, 8, .inl (gSo x))), ((ad j).2.2.1, .inl (cI, 8, .inl (gSr x))), ((ad j).2.2.2, .inl (cJ, 8, .inr (.inl (gOp x))))] s.heap := BW_gauge hPB hj hst1
  have hg2 : va_P D vwCl [((ad j2).1, .inr (0, [.ref ((ad j2).2.1), .ref ((ad j2).2.2.1), .ref ((ad j2).2.2.2), .int (gK y), .int (gC y), .long (gV y), .int (gM y), .long (gH y), .long (gL y), .int (gR y), .int (gW y)])), ((ad j2).2.1, .inl (cI, 8, .inl (gSo y))), ((ad j2).2.2.1, .inl (cI, 8, .inl (gSr y))), ((ad j2).2.2.2, .inl (cJ, 8, .inr (.inl (gOp y))))] s.heap := BW_gauge hPB hj2 hst2
  refine lv_aload_n hx hb dX1_stepOf_0 rfl (lv_at hl 0 rfl) ?_
  refine lv_iload_n hx hb dX1_stepOf_1 rfl (lv_at hl 1 rfl) ?_
  refine pu_V (As := [.int (nI j)]) (rest := []) ⟨hx, hb, hml, hown, hts⟩ (c_X1_needGauge l s.heap D cI cJ cZ cG b P ad st j x hj hst1 hPB) (KW_puK D cI cJ cZ cG) hKW (cwV 1 hts gX1_stepOf_X1_needGauge rfl rfl rfl (by decide +kernel) ⟨Nat.le_of_ble_eq_true rfl, Nat.le_of_ble_eq_true rfl⟩) (va_recv hK hB (ci := 1) (q0 := 0) rfl rfl) rfl hl.1 rfl (Nat.le_of_ble_eq_true rfl) dX1_stepOf_2 ⟨Nat.zero_le _, Nat.zero_le _⟩ ?_
  refine W.eq (g2 := F0 m 5 ls [.ref ((ad j).1)]) rfl ?_
  refine lv_astore (lv' := [(4, .ref ((ad j).1)), (0, .ref b), (1, .int (nI j)), (2, .int b1), (3, .int (nI j2))]) hx hb dX1_stepOf_5 hl (by decide) rfl (fun ls hl => ?_)
  refine lv_aload_n hx hb dX1_stepOf_7 rfl (lv_at hl 1 rfl) ?_
  refine lv_iload_n hx hb dX1_stepOf_8 rfl (lv_at hl 4 rfl) ?_
  refine pu_V (As := [.int (nI j2)]) (rest := []) ⟨hx, hb, hml, hown, hts⟩ (c_X1_needGauge l s.heap D cI cJ cZ cG b P ad st j2 y hj2 hst2 hPB) (KW_puK D cI cJ cZ cG) hKW (cwV 1 hts gX1_stepOf_X1_needGauge rfl rfl rfl (by decide +kernel) ⟨Nat.le_of_ble_eq_true rfl, Nat.le_of_ble_eq_true rfl⟩) (va_recv hK hB (ci := 1) (q0 := 0) rfl rfl) rfl hl.1 rfl (Nat.le_of_ble_eq_true rfl) dX1_stepOf_9 ⟨Nat.zero_le _, Nat.zero_le _⟩ ?_
  refine W.eq (g2 := F0 m 12 ls [.ref ((ad j2).1)]) rfl ?_
  refine lv_astore (lv' := [(5, .ref ((ad j2).1)), (4, .ref ((ad j).1)), (0, .ref b), (1, .int (nI j)), (2, .int b1), (3, .int (nI j2))]) hx hb dX1_stepOf_12 hl (by decide) rfl (fun ls hl => ?_)
  refine lv_aload hx hb dX1_stepOf_14 (lv_at hl 1 rfl) ?_
  refine va_getN (D := D) (ci := 0) (v := .int (gK x)) (C := RX0) (T := TX0) (N := 11) hx hb hts hinX0 hown hK hg 0 rfl rfl 3 (by decide) (hKW.n 3 rfl rfl) (fun _ h9 => h9) rfl dX1_stepOf_16 ?_
  refine lv_iload_n hx hb dX1_stepOf_19 rfl (lv_at hl 4 rfl) ?_
  refine lv_iconst (v := 1) hx hb dX1_stepOf_20 (by decide) ?_
  exact th_S (As := [.int (gK x), .int b1, .int (1 : Int32)]) (rest := []) ⟨hx, hb, hml, hown, hts⟩ (t_X1_needSort l hst z s.heap hz D cI cJ cZ cG (gK x) b1 1 hno) (KZ_puK D cI cJ cZ cG z s.heap) hKZ (va_cwS 3 hts gX1_stepOf_X1_needSort rfl rfl rfl (by decide +kernel) ⟨Nat.le_of_ble_eq_true rfl, Nat.le_of_ble_eq_true rfl⟩) rfl hl.1 rfl (Nat.le_of_ble_eq_true rfl) dX1_stepOf_21 ⟨Nat.le_of_ble_eq_true rfl, Nat.le_of_ble_eq_true rfl⟩ hex hlocks
set_option maxHeartbeats 4000000 in
set_option maxRecDepth 100000 in
theorem t_X1_stepOf_K (l : Launch) (hst : l.stackTraces = false) (z : Nat) (H0 : Heap) (hz : z ≤ H0.size) (D : va_G) (cI cJ cZ cG : ClassId) (b P : Nat) (ad : Nat → ga) (st : Nat → Option GS) (j : Nat) (x : GS) (j2 : Nat) (y : GS) (b1 : Int32) (hj : j < 12) (hst1 : st j = some x) (hj2 : j2 < 12) (hst2 : st j2 = some y) (hok : e_X1_needSort (gK x) b1 1 = 0) (hk : ¬ (gK y) = (gK x)) (hPB : va_P D vwCl (BW cI cJ cG b P ad st) H0) : th l yX1_stepOf wsX1_stepOf ({ frames := 7, cells := 1, slots := 6, locals := 104 }) [Value.ref b, Value.int (nI j), Value.int b1, Value.int (nI j2)] (KZ D cI cJ cZ cG z H0) H0 "java/lang/IllegalArgumentException" := by
  refine vx_ofW (cc := cX1_stepOf) (maxL := 6) (ret := (some .int)) (by decide) rfl ?_
  intro p e s m args below meth c s₁ B hml hex hv
  obtain ⟨rfl, hH, hKZ⟩ := hv
  have hx := B.exec
  have hb := B.bytes
  have hr := B.returns
  have hts := atoms_spec (ws := wsX1_stepOf) B.pre
  have hown : s.vm.findClass RX1 = some m.cls := findClass_of_methodNamed B.named
  have hlocks := B.notSynchronized
  subst hH
  have hKW := hKZ.1
  have hK := hKW.1
  have hl := lv_entry ([Value.ref b, Value.int (nI j), Value.int b1, Value.int (nI j2)]) (n := 6) (Nat.le_of_ble_eq_true rfl)
  rw [lg_entry_eq]
  generalize (lg_sl ([Value.ref b, Value.int (nI j), Value.int b1, Value.int (nI j2)]) ++ List.replicate (6 - (lg_sl ([Value.ref b, Value.int (nI j), Value.int b1, Value.int (nI j2)])).length) Slot.unset).toArray = ls at hl ⊢
  have hl : lv_has ls 6 [(0, .ref b), (1, .int (nI j)), (2, .int b1), (3, .int (nI j2))] := hl
  have hinX0 : ∀ w ∈ u_ws RX0 TX0 11, w ∈ wsX1_stepOf := by decide +kernel
  have hB : va_P D vwCl [(b, .inr (1, [.ref P])), (P, .inl (cG, 12, .inr (.inr (.inr (.inr (pl ad st))))))] s.heap := BW_board hPB
  have hg : va_P D vwCl [((ad j).1, .inr (0, [.ref ((ad j).2.1), .ref ((ad j).2.2.1), .ref ((ad j).2.2.2), .int (gK x), .int (gC x), .long (gV x), .int (gM x), .long (gH x), .long (gL x), .int (gR x), .int (gW x)])), ((ad j).2.1, .inl (cI, 8, .inl (gSo x))), ((ad j).2.2.1, .inl (cI, 8, .inl (gSr x))), ((ad j).2.2.2, .inl (cJ, 8, .inr (.inl (gOp x))))] s.heap := BW_gauge hPB hj hst1
  have hg2 : va_P D vwCl [((ad j2).1, .inr (0, [.ref ((ad j2).2.1), .ref ((ad j2).2.2.1), .ref ((ad j2).2.2.2), .int (gK y), .int (gC y), .long (gV y), .int (gM y), .long (gH y), .long (gL y), .int (gR y), .int (gW y)])), ((ad j2).2.1, .inl (cI, 8, .inl (gSo y))), ((ad j2).2.2.1, .inl (cI, 8, .inl (gSr y))), ((ad j2).2.2.2, .inl (cJ, 8, .inr (.inl (gOp y))))] s.heap := BW_gauge hPB hj2 hst2
  refine lv_aload_n hx hb dX1_stepOf_0 rfl (lv_at hl 0 rfl) ?_
  refine lv_iload_n hx hb dX1_stepOf_1 rfl (lv_at hl 1 rfl) ?_
  refine pu_V (As := [.int (nI j)]) (rest := []) ⟨hx, hb, hml, hown, hts⟩ (c_X1_needGauge l s.heap D cI cJ cZ cG b P ad st j x hj hst1 hPB) (KW_puK D cI cJ cZ cG) hKW (cwV 1 hts gX1_stepOf_X1_needGauge rfl rfl rfl (by decide +kernel) ⟨Nat.le_of_ble_eq_true rfl, Nat.le_of_ble_eq_true rfl⟩) (va_recv hK hB (ci := 1) (q0 := 0) rfl rfl) rfl hl.1 rfl (Nat.le_of_ble_eq_true rfl) dX1_stepOf_2 ⟨Nat.zero_le _, Nat.zero_le _⟩ ?_
  refine W.eq (g2 := F0 m 5 ls [.ref ((ad j).1)]) rfl ?_
  refine lv_astore (lv' := [(4, .ref ((ad j).1)), (0, .ref b), (1, .int (nI j)), (2, .int b1), (3, .int (nI j2))]) hx hb dX1_stepOf_5 hl (by decide) rfl (fun ls hl => ?_)
  refine lv_aload_n hx hb dX1_stepOf_7 rfl (lv_at hl 1 rfl) ?_
  refine lv_iload_n hx hb dX1_stepOf_8 rfl (lv_at hl 4 rfl) ?_
  refine pu_V (As := [.int (nI j2)]) (rest := []) ⟨hx, hb, hml, hown, hts⟩ (c_X1_needGauge l s.heap D cI cJ cZ cG b P ad st j2 y hj2 hst2 hPB) (KW_puK D cI cJ cZ cG) hKW (cwV 1 hts gX1_stepOf_X1_needGauge rfl rfl rfl (by decide +kernel) ⟨Nat.le_of_ble_eq_true rfl, Nat.le_of_ble_eq_true rfl⟩) (va_recv hK hB (ci := 1) (q0 := 0) rfl rfl) rfl hl.1 rfl (Nat.le_of_ble_eq_true rfl) dX1_stepOf_9 ⟨Nat.zero_le _, Nat.zero_le _⟩ ?_
  refine W.eq (g2 := F0 m 12 ls [.ref ((ad j2).1)]) rfl ?_
  refine lv_astore (lv' := [(5, .ref ((ad j2).1)), (4, .ref ((ad j).1)), (0, .ref b), (1, .int (nI j)), (2, .int b1), (3, .int (nI j2))]) hx hb dX1_stepOf_12 hl (by decide) rfl (fun ls hl => ?_)
  refine lv_aload hx hb dX1_stepOf_14 (lv_at hl 1 rfl) ?_
  refine va_getN (D := D) (ci := 0) (v := .int (gK x)) (C := RX0) (T := TX0) (N := 11) hx hb hts hinX0 hown hK hg 0 rfl rfl 3 (by decide) (hKW.n 3 rfl rfl) (fun _ h9 => h9) rfl dX1_stepOf_16 ?_
  refine lv_iload_n hx hb dX1_stepOf_19 rfl (lv_at hl 4 rfl) ?_
  refine lv_iconst (v := 1) hx hb dX1_stepOf_20 (by decide) ?_
  refine pu_S (As := [.int (gK x), .int b1, .int (1 : Int32)]) (rest := []) ⟨hx, hb, hml, hown, hts⟩ (c_X1_needSort l s.heap (gK x) b1 1 hok) puK_T trivial (va_cwS 3 hts gX1_stepOf_X1_needSort rfl rfl rfl (by decide +kernel) ⟨Nat.le_of_ble_eq_true rfl, Nat.le_of_ble_eq_true rfl⟩) rfl hl.1 rfl (Nat.le_of_ble_eq_true rfl) dX1_stepOf_21 ⟨Nat.zero_le _, Nat.zero_le _⟩ ?_
  refine W.eq (g2 := F0 m 24 ls []) rfl ?_
  refine lv_aload hx hb dX1_stepOf_24 (lv_at hl 0 rfl) ?_
  refine va_getN (D := D) (ci := 0) (v := .int (gK y)) (C := RX0) (T := TX0) (N := 11) hx hb hts hinX0 hown hK hg2 0 rfl rfl 3 (by decide) (hKW.n 3 rfl rfl) (fun _ h9 => h9) rfl dX1_stepOf_26 ?_
  refine lv_aload hx hb dX1_stepOf_29 (lv_at hl 1 rfl) ?_
  refine va_getN (D := D) (ci := 0) (v := .int (gK x)) (C := RX0) (T := TX0) (N := 11) hx hb hts hinX0 hown hK hg 0 rfl rfl 3 (by decide) (hKW.n 3 rfl rfl) (fun _ h9 => h9) rfl dX1_stepOf_31 ?_
  refine lv_icmp_eq (tgt := 47) hx hb dX1_stepOf_34 (by decide) (fun z_9 => absurd z_9 hk) (fun z_9 => ?_)
  exact thr_A (text := "the other gauge is of another kind") hx hb hst hown hts hKZ hz (List.mem_of_getElem? (i := 8) rfl) (by decide +kernel) (by decide +kernel) (fun w h9 => List.mem_cons_of_mem _ (List.mem_append_left _ (List.mem_append_left _ (List.mem_append_right _ h9)))) (by rw [hml]; exact hl.1) dX1_stepOf_37 dX1_stepOf_40 dX1_stepOf_41 dX1_stepOf_43 dX1_stepOf_46 hex (Nat.le_of_ble_eq_true rfl) (Nat.le_of_ble_eq_true rfl) (Nat.le_of_ble_eq_true rfl) (Nat.le_of_ble_eq_true rfl) hlocks
set_option maxHeartbeats 4000000 in
set_option maxRecDepth 100000 in
theorem t_X1_stepOf_S (l : Launch) (hst : l.stackTraces = false) (z : Nat) (H0 : Heap) (hz : z ≤ H0.size) (D : va_G) (cI cJ cZ cG : ClassId) (b P : Nat) (ad : Nat → ga) (st : Nat → Option GS) (j : Nat) (x : GS) (j2 : Nat) (y : GS) (b1 : Int32) (hj : j < 12) (hst1 : st j = some x) (hj2 : j2 < 12) (hst2 : st j2 = some y) (hok : e_X1_needSort (gK x) b1 1 = 0) (hk : (gK y) = (gK x)) (hge : ¬ (gC x) < (8 : Int32)) (hPB : va_P D vwCl (BW cI cJ cG b P ad st) H0) : th l yX1_stepOf wsX1_stepOf ({ frames := 7, cells := 1, slots := 6, locals := 106 }) [Value.ref b, Value.int (nI j), Value.int b1, Value.int (nI j2)] (KZ D cI cJ cZ cG z H0) H0 "java/lang/IllegalStateException" := by
  refine vx_ofW (cc := cX1_stepOf) (maxL := 6) (ret := (some .int)) (by decide) rfl ?_
  intro p e s m args below meth c s₁ B hml hex hv
  obtain ⟨rfl, hH, hKZ⟩ := hv
  have hx := B.exec
  have hb := B.bytes
  have hr := B.returns
  have hts := atoms_spec (ws := wsX1_stepOf) B.pre
  have hown : s.vm.findClass RX1 = some m.cls := findClass_of_methodNamed B.named
  have hlocks := B.notSynchronized
  subst hH
  have hKW := hKZ.1
  have hK := hKW.1
  have hl := lv_entry ([Value.ref b, Value.int (nI j), Value.int b1, Value.int (nI j2)]) (n := 6) (Nat.le_of_ble_eq_true rfl)
  rw [lg_entry_eq]
  generalize (lg_sl ([Value.ref b, Value.int (nI j), Value.int b1, Value.int (nI j2)]) ++ List.replicate (6 - (lg_sl ([Value.ref b, Value.int (nI j), Value.int b1, Value.int (nI j2)])).length) Slot.unset).toArray = ls at hl ⊢
  have hl : lv_has ls 6 [(0, .ref b), (1, .int (nI j)), (2, .int b1), (3, .int (nI j2))] := hl
  have hinX0 : ∀ w ∈ u_ws RX0 TX0 11, w ∈ wsX1_stepOf := by decide +kernel
  have hB : va_P D vwCl [(b, .inr (1, [.ref P])), (P, .inl (cG, 12, .inr (.inr (.inr (.inr (pl ad st))))))] s.heap := BW_board hPB
  have hg : va_P D vwCl [((ad j).1, .inr (0, [.ref ((ad j).2.1), .ref ((ad j).2.2.1), .ref ((ad j).2.2.2), .int (gK x), .int (gC x), .long (gV x), .int (gM x), .long (gH x), .long (gL x), .int (gR x), .int (gW x)])), ((ad j).2.1, .inl (cI, 8, .inl (gSo x))), ((ad j).2.2.1, .inl (cI, 8, .inl (gSr x))), ((ad j).2.2.2, .inl (cJ, 8, .inr (.inl (gOp x))))] s.heap := BW_gauge hPB hj hst1
  have hg2 : va_P D vwCl [((ad j2).1, .inr (0, [.ref ((ad j2).2.1), .ref ((ad j2).2.2.1), .ref ((ad j2).2.2.2), .int (gK y), .int (gC y), .long (gV y), .int (gM y), .long (gH y), .long (gL y), .int (gR y), .int (gW y)])), ((ad j2).2.1, .inl (cI, 8, .inl (gSo y))), ((ad j2).2.2.1, .inl (cI, 8, .inl (gSr y))), ((ad j2).2.2.2, .inl (cJ, 8, .inr (.inl (gOp y))))] s.heap := BW_gauge hPB hj2 hst2
  refine lv_aload_n hx hb dX1_stepOf_0 rfl (lv_at hl 0 rfl) ?_
  refine lv_iload_n hx hb dX1_stepOf_1 rfl (lv_at hl 1 rfl) ?_
  refine pu_V (As := [.int (nI j)]) (rest := []) ⟨hx, hb, hml, hown, hts⟩ (c_X1_needGauge l s.heap D cI cJ cZ cG b P ad st j x hj hst1 hPB) (KW_puK D cI cJ cZ cG) hKW (cwV 1 hts gX1_stepOf_X1_needGauge rfl rfl rfl (by decide +kernel) ⟨Nat.le_of_ble_eq_true rfl, Nat.le_of_ble_eq_true rfl⟩) (va_recv hK hB (ci := 1) (q0 := 0) rfl rfl) rfl hl.1 rfl (Nat.le_of_ble_eq_true rfl) dX1_stepOf_2 ⟨Nat.zero_le _, Nat.zero_le _⟩ ?_
  refine W.eq (g2 := F0 m 5 ls [.ref ((ad j).1)]) rfl ?_
  refine lv_astore (lv' := [(4, .ref ((ad j).1)), (0, .ref b), (1, .int (nI j)), (2, .int b1), (3, .int (nI j2))]) hx hb dX1_stepOf_5 hl (by decide) rfl (fun ls hl => ?_)
  refine lv_aload_n hx hb dX1_stepOf_7 rfl (lv_at hl 1 rfl) ?_
  refine lv_iload_n hx hb dX1_stepOf_8 rfl (lv_at hl 4 rfl) ?_
  refine pu_V (As := [.int (nI j2)]) (rest := []) ⟨hx, hb, hml, hown, hts⟩ (c_X1_needGauge l s.heap D cI cJ cZ cG b P ad st j2 y hj2 hst2 hPB) (KW_puK D cI cJ cZ cG) hKW (cwV 1 hts gX1_stepOf_X1_needGauge rfl rfl rfl (by decide +kernel) ⟨Nat.le_of_ble_eq_true rfl, Nat.le_of_ble_eq_true rfl⟩) (va_recv hK hB (ci := 1) (q0 := 0) rfl rfl) rfl hl.1 rfl (Nat.le_of_ble_eq_true rfl) dX1_stepOf_9 ⟨Nat.zero_le _, Nat.zero_le _⟩ ?_
  refine W.eq (g2 := F0 m 12 ls [.ref ((ad j2).1)]) rfl ?_
  refine lv_astore (lv' := [(5, .ref ((ad j2).1)), (4, .ref ((ad j).1)), (0, .ref b), (1, .int (nI j)), (2, .int b1), (3, .int (nI j2))]) hx hb dX1_stepOf_12 hl (by decide) rfl (fun ls hl => ?_)
  refine lv_aload hx hb dX1_stepOf_14 (lv_at hl 1 rfl) ?_
  refine va_getN (D := D) (ci := 0) (v := .int (gK x)) (C := RX0) (T := TX0) (N := 11) hx hb hts hinX0 hown hK hg 0 rfl rfl 3 (by decide) (hKW.n 3 rfl rfl) (fun _ h9 => h9) rfl dX1_stepOf_16 ?_
  refine lv_iload_n hx hb dX1_stepOf_19 rfl (lv_at hl 4 rfl) ?_
  refine lv_iconst (v := 1) hx hb dX1_stepOf_20 (by decide) ?_
  refine pu_S (As := [.int (gK x), .int b1, .int (1 : Int32)]) (rest := []) ⟨hx, hb, hml, hown, hts⟩ (c_X1_needSort l s.heap (gK x) b1 1 hok) puK_T trivial (va_cwS 3 hts gX1_stepOf_X1_needSort rfl rfl rfl (by decide +kernel) ⟨Nat.le_of_ble_eq_true rfl, Nat.le_of_ble_eq_true rfl⟩) rfl hl.1 rfl (Nat.le_of_ble_eq_true rfl) dX1_stepOf_21 ⟨Nat.zero_le _, Nat.zero_le _⟩ ?_
  refine W.eq (g2 := F0 m 24 ls []) rfl ?_
  refine lv_aload hx hb dX1_stepOf_24 (lv_at hl 0 rfl) ?_
  refine va_getN (D := D) (ci := 0) (v := .int (gK y)) (C := RX0) (T := TX0) (N := 11) hx hb hts hinX0 hown hK hg2 0 rfl rfl 3 (by decide) (hKW.n 3 rfl rfl) (fun _ h9 => h9) rfl dX1_stepOf_26 ?_
  refine lv_aload hx hb dX1_stepOf_29 (lv_at hl 1 rfl) ?_
  refine va_getN (D := D) (ci := 0) (v := .int (gK x)) (C := RX0) (T := TX0) (N := 11) hx hb hts hinX0 hown hK hg 0 rfl rfl 3 (by decide) (hKW.n 3 rfl rfl) (fun _ h9 => h9) rfl dX1_stepOf_31 ?_
  refine lv_icmp_eq (tgt := 47) hx hb dX1_stepOf_34 (by decide) (fun z_9 => ?_) (fun z_9 => absurd hk z_9)
  refine lv_aload hx hb dX1_stepOf_47 (lv_at hl 1 rfl) ?_
  refine lv_iload_n hx hb dX1_stepOf_49 rfl (lv_at hl 4 rfl) ?_
  refine lv_iload_n hx hb dX1_stepOf_50 rfl (lv_at hl 5 rfl) ?_
  refine lv_lconst (v := 0) hx hb dX1_stepOf_51 (by decide) ?_
  exact th_VN (As := [.int b1, .int (nI j2), .long (0 : Int64)]) (rest := []) ⟨hx, hb, hml, hown, hts⟩ (t_X0_addStep l hst z s.heap hz D cI cJ cZ cG (ad j) x b1 (nI j2) (0 : Int64) hge hg) (KZ_puK D cI cJ cZ cG z s.heap) hKZ ⟨va_cnB 3 hts gX1_stepOf_X0_addStep_n62 rfl rfl rfl (hKW.2 _ (List.mem_of_getElem? (i := 14) rfl)) (hts (.initialized RX0) (by decide +kernel)) (by decide +kernel) ⟨Nat.le_of_ble_eq_true rfl, Nat.le_of_ble_eq_true rfl⟩, hts (.instanceMethod yX0_addStep) (by decide +kernel), hts (.selects RX0 yX0_addStep yX0_addStep) (by decide +kernel)⟩ (va_recv hK hg (ci := 0) (q0 := 0) rfl rfl) rfl hl.1 rfl (Nat.le_of_ble_eq_true rfl) dX1_stepOf_52 ⟨Nat.le_of_ble_eq_true rfl, Nat.le_of_ble_eq_true rfl⟩ hex hlocks
def F_X1_stepOf (x : GS) (j2 : Nat) (b1 : Int32) : Int32 × GS := ((F_X0_addStep x b1 (nI j2) (0 : Int64)).1, (F_X0_addStep x b1 (nI j2) (0 : Int64)).2)
set_option maxHeartbeats 4000000 in
set_option maxRecDepth 100000 in
theorem c_X1_stepOf (l : Launch) (H0 : Heap) (D : va_G) (cI cJ cZ cG : ClassId) (b P : Nat) (ad : Nat → ga) (st : Nat → Option GS) (j : Nat) (x : GS) (j2 : Nat) (y : GS) (b1 : Int32) (hj : j < 12) (hst1 : st j = some x) (hj2 : j2 < 12) (hst2 : st j2 = some y) (hc : vp_in (gC x) 9) (hok : e_X1_needSort (gK x) b1 1 = 0) (hk : (gK y) = (gK x)) (hlt : (gC x) < (8 : Int32)) (hPB : va_P D vwCl (BW cI cJ cG b P ad st) H0) (hD0 : va_D (fun _ => True) (BW cI cJ cG b P ad st)) : wr l yX1_stepOf wsX1_stepOf ({ frames := 3, cells := 0, slots := 0, locals := 63 }) [Value.ref b, Value.int (nI j), Value.int b1, Value.int (nI j2)] (KW D cI cJ cZ cG) H0 (some (.int (F_X1_stepOf x j2 b1).1)) D (BW cI cJ cG b P ad st) (fun w => w = BW cI cJ cG b P ad (va_up st j (some (F_X1_stepOf x j2 b1).2))) 0 0 := by
  refine Met.ofW (cc := cX1_stepOf) (maxL := 6) (ret := (some .int)) (by decide) rfl ?_
  intro p e s m args below meth c s₁ B hml hv
  obtain ⟨rfl, hH, hKW⟩ := hv
  have hx := B.exec
  have hb := B.bytes
  have hr := B.returns
  have hts := atoms_spec (ws := wsX1_stepOf) B.pre
  have hown : s.vm.findClass RX1 = some m.cls := findClass_of_methodNamed B.named
  have hlocks := B.notSynchronized
  subst hH
  have hK := hKW.1
  have hl := lv_entry ([Value.ref b, Value.int (nI j), Value.int b1, Value.int (nI j2)]) (n := 6) (Nat.le_of_ble_eq_true rfl)
  rw [lg_entry_eq]
  generalize (lg_sl ([Value.ref b, Value.int (nI j), Value.int b1, Value.int (nI j2)]) ++ List.replicate (6 - (lg_sl ([Value.ref b, Value.int (nI j), Value.int b1, Value.int (nI j2)])).length) Slot.unset).toArray = ls at hl ⊢
  have hl : lv_has ls 6 [(0, .ref b), (1, .int (nI j)), (2, .int b1), (3, .int (nI j2))] := hl
  have hinX0 : ∀ w ∈ u_ws RX0 TX0 11, w ∈ wsX1_stepOf := by decide +kernel
  have hB : va_P D vwCl [(b, .inr (1, [.ref P])), (P, .inl (cG, 12, .inr (.inr (.inr (.inr (pl ad st))))))] s.heap := BW_board hPB
  have hg2 : va_P D vwCl [((ad j2).1, .inr (0, [.ref ((ad j2).2.1), .ref ((ad j2).2.2.1), .ref ((ad j2).2.2.2), .int (gK y), .int (gC y), .long (gV y), .int (gM y), .long (gH y), .long (gL y), .int (gR y), .int (gW y)])), ((ad j2).2.1, .inl (cI, 8, .inl (gSo y))), ((ad j2).2.2.1, .inl (cI, 8, .inl (gSr y))), ((ad j2).2.2.2, .inl (cJ, 8, .inr (.inl (gOp y))))] s.heap := BW_gauge hPB hj2 hst2
  have hD := hD0.self (sz := s.heap.size)
  generalize hAe : va_A (BW cI cJ cG b P ad st) s.heap.size = A at hD ⊢
  have hA : ∀ q : Nat, s.heap.size ≤ q → A q := fun q h => by rw [← hAe]; exact Or.inr h
  have hS : va_S A s.heap s.heap [] := va_S.rf
  have hP := wd_P.perm hPB (BW_perm hj hst1)
  have hD := wd_D.perm hD (BW_perm hj hst1)
  obtain ⟨Rw, hRw⟩ : ∃ R, R = BB cG b P (pl ad st) ++ BG cI cJ ad (va_up st j none) 12 := ⟨_, rfl⟩
  rw [← hRw] at hP hD
  have hP : va_P D vwCl ([((ad j).1, .inr (0, [.ref ((ad j).2.1), .ref ((ad j).2.2.1), .ref ((ad j).2.2.2), .int (gK x), .int (gC x), .long (gV x), .int (gM x), .long (gH x), .long (gL x), .int (gR x), .int (gW x)])), ((ad j).2.1, .inl (cI, 8, .inl (gSo x))), ((ad j).2.2.1, .inl (cI, 8, .inl (gSr x))), ((ad j).2.2.2, .inl (cJ, 8, .inr (.inl (gOp x))))] ++ Rw) s.heap := hP
  have hD : va_D A ([((ad j).1, .inr (0, [.ref ((ad j).2.1), .ref ((ad j).2.2.1), .ref ((ad j).2.2.2), .int (gK x), .int (gC x), .long (gV x), .int (gM x), .long (gH x), .long (gL x), .int (gR x), .int (gW x)])), ((ad j).2.1, .inl (cI, 8, .inl (gSo x))), ((ad j).2.2.1, .inl (cI, 8, .inl (gSr x))), ((ad j).2.2.2, .inl (cJ, 8, .inr (.inl (gOp x))))] ++ Rw) := hD
  refine lv_aload_n hx hb dX1_stepOf_0 rfl (lv_at hl 0 rfl) ?_
  refine lv_iload_n hx hb dX1_stepOf_1 rfl (lv_at hl 1 rfl) ?_
  refine pu_V (As := [.int (nI j)]) (rest := []) ⟨hx, hb, hml, hown, hts⟩ (c_X1_needGauge l s.heap D cI cJ cZ cG b P ad st j x hj hst1 hPB) (KW_puK D cI cJ cZ cG) hKW (cwV 1 hts gX1_stepOf_X1_needGauge rfl rfl rfl (by decide +kernel) ⟨Nat.le_of_ble_eq_true rfl, Nat.le_of_ble_eq_true rfl⟩) (va_recv hK hB (ci := 1) (q0 := 0) rfl rfl) rfl hl.1 rfl (Nat.le_of_ble_eq_true rfl) dX1_stepOf_2 ⟨Nat.zero_le _, Nat.zero_le _⟩ ?_
  refine W.eq (g2 := F0 m 5 ls [.ref ((ad j).1)]) rfl ?_
  refine lv_astore (lv' := [(4, .ref ((ad j).1)), (0, .ref b), (1, .int (nI j)), (2, .int b1), (3, .int (nI j2))]) hx hb dX1_stepOf_5 hl (by decide) rfl (fun ls hl => ?_)
  refine lv_aload_n hx hb dX1_stepOf_7 rfl (lv_at hl 1 rfl) ?_
  refine lv_iload_n hx hb dX1_stepOf_8 rfl (lv_at hl 4 rfl) ?_
  refine pu_V (As := [.int (nI j2)]) (rest := []) ⟨hx, hb, hml, hown, hts⟩ (c_X1_needGauge l s.heap D cI cJ cZ cG b P ad st j2 y hj2 hst2 hPB) (KW_puK D cI cJ cZ cG) hKW (cwV 1 hts gX1_stepOf_X1_needGauge rfl rfl rfl (by decide +kernel) ⟨Nat.le_of_ble_eq_true rfl, Nat.le_of_ble_eq_true rfl⟩) (va_recv hK hB (ci := 1) (q0 := 0) rfl rfl) rfl hl.1 rfl (Nat.le_of_ble_eq_true rfl) dX1_stepOf_9 ⟨Nat.zero_le _, Nat.zero_le _⟩ ?_
  refine W.eq (g2 := F0 m 12 ls [.ref ((ad j2).1)]) rfl ?_
  refine lv_astore (lv' := [(5, .ref ((ad j2).1)), (4, .ref ((ad j).1)), (0, .ref b), (1, .int (nI j)), (2, .int b1), (3, .int (nI j2))]) hx hb dX1_stepOf_12 hl (by decide) rfl (fun ls hl => ?_)
  refine lv_aload hx hb dX1_stepOf_14 (lv_at hl 1 rfl) ?_
  refine va_getN (D := D) (ci := 0) (v := .int (gK x)) (C := RX0) (T := TX0) (N := 11) hx hb hts hinX0 hown hK hP 0 rfl rfl 3 (by decide) (hKW.n 3 rfl rfl) (fun _ h9 => h9) rfl dX1_stepOf_16 ?_
  refine lv_iload_n hx hb dX1_stepOf_19 rfl (lv_at hl 4 rfl) ?_
  refine lv_iconst (v := 1) hx hb dX1_stepOf_20 (by decide) ?_
  refine pu_S (As := [.int (gK x), .int b1, .int (1 : Int32)]) (rest := []) ⟨hx, hb, hml, hown, hts⟩ (c_X1_needSort l s.heap (gK x) b1 1 hok) puK_T trivial (va_cwS 3 hts gX1_stepOf_X1_needSort rfl rfl rfl (by decide +kernel) ⟨Nat.le_of_ble_eq_true rfl, Nat.le_of_ble_eq_true rfl⟩) rfl hl.1 rfl (Nat.le_of_ble_eq_true rfl) dX1_stepOf_21 ⟨Nat.zero_le _, Nat.zero_le _⟩ ?_
  refine W.eq (g2 := F0 m 24 ls []) rfl ?_
  refine lv_aload hx hb dX1_stepOf_24 (lv_at hl 0 rfl) ?_
  refine va_getN (D := D) (ci := 0) (v := .int (gK y)) (C := RX0) (T := TX0) (N := 11) hx hb hts hinX0 hown hK hg2 0 rfl rfl 3 (by decide) (hKW.n 3 rfl rfl) (fun _ h9 => h9) rfl dX1_stepOf_26 ?_
  refine lv_aload hx hb dX1_stepOf_29 (lv_at hl 1 rfl) ?_
  refine va_getN (D := D) (ci := 0) (v := .int (gK x)) (C := RX0) (T := TX0) (N := 11) hx hb hts hinX0 hown hK hP 0 rfl rfl 3 (by decide) (hKW.n 3 rfl rfl) (fun _ h9 => h9) rfl dX1_stepOf_31 ?_
  refine lv_icmp_eq (tgt := 47) hx hb dX1_stepOf_34 (by decide) (fun z_9 => ?_) (fun z_9 => absurd hk z_9)
  refine lv_aload hx hb dX1_stepOf_47 (lv_at hl 1 rfl) ?_
  refine lv_iload_n hx hb dX1_stepOf_49 rfl (lv_at hl 4 rfl) ?_
  refine lv_iload_n hx hb dX1_stepOf_50 rfl (lv_at hl 5 rfl) ?_
  refine lv_lconst (v := 0) hx hb dX1_stepOf_51 (by decide) ?_
  refine wr_VN (As := [.int b1, .int (nI j2), .long (0 : Int64)]) (rest := []) (Rw := Rw) ⟨hx, hb, hml, hown, hts⟩ (c_X0_addStep l s.heap D cI cJ cZ cG (ad j) x b1 (nI j2) (0 : Int64) hc hlt (wd_gz hP) (wd_D.left (hD.weaken (fun _ _ _ _ => trivial)))) (KW_puK D cI cJ cZ cG) hKW ⟨va_cnB 3 hts gX1_stepOf_X0_addStep_n62 rfl rfl rfl (hKW.2 _ (List.mem_of_getElem? (i := 14) rfl)) (hts (.initialized RX0) (by decide +kernel)) (by decide +kernel) ⟨Nat.le_of_ble_eq_true rfl, Nat.le_of_ble_eq_true rfl⟩, hts (.instanceMethod yX0_addStep) (by decide +kernel), hts (.selects RX0 yX0_addStep yX0_addStep) (by decide +kernel)⟩ (va_recv hK hP (ci := 0) (q0 := 0) rfl rfl) rfl hl.1 rfl (Nat.le_of_ble_eq_true rfl) dX1_stepOf_52 ⟨Nat.zero_le _, Nat.zero_le _⟩ hP hD hS hA (fun w1 H locs hw hP hD hS => ?_)
  subst hw
  obtain ⟨z_1, hz_1⟩ : ∃ u, u = (F_X0_addStep x b1 (nI j2) (0 : Int64)).2 := ⟨_, rfl⟩
  rw [← hz_1] at hP hD
  have hP : va_P D vwCl ([((ad j).1, .inr (0, [.ref ((ad j).2.1), .ref ((ad j).2.2.1), .ref ((ad j).2.2.2), .int (gK z_1), .int (gC z_1), .long (gV z_1), .int (gM z_1), .long (gH z_1), .long (gL z_1), .int (gR z_1), .int (gW z_1)])), ((ad j).2.1, .inl (cI, 8, .inl (gSo z_1))), ((ad j).2.2.1, .inl (cI, 8, .inl (gSr z_1))), ((ad j).2.2.2, .inl (cJ, 8, .inr (.inl (gOp z_1))))] ++ Rw) H := hP
  have hD : va_D A ([((ad j).1, .inr (0, [.ref ((ad j).2.1), .ref ((ad j).2.2.1), .ref ((ad j).2.2.2), .int (gK z_1), .int (gC z_1), .long (gV z_1), .int (gM z_1), .long (gH z_1), .long (gL z_1), .int (gR z_1), .int (gW z_1)])), ((ad j).2.1, .inl (cI, 8, .inl (gSo z_1))), ((ad j).2.2.1, .inl (cI, 8, .inl (gSr z_1))), ((ad j).2.2.2, .inl (cJ, 8, .inr (.inl (gOp z_1))))] ++ Rw) := hD
  refine W.eq (g2 := F0 m 55 ls [.int ((F_X0_addStep x b1 (nI j2) (0 : Int64)).1)]) rfl ?_
  have hF : F_X1_stepOf x j2 b1 = ((F_X0_addStep x b1 (nI j2) (0 : Int64)).1, z_1) := by
    unfold F_X1_stepOf; rw [← hz_1]
  subst hRw
  exact W.iret (v := (F_X0_addStep x b1 (nI j2) (0 : Int64)).1) hx hb hr (fun t ht hW => ⟨by rw [hF], _, rfl, by rw [hF, ht]; exact wd_P.perm hP (BW_back hj hst1), by rw [hF]; exact wd_D.perm hD (BW_back hj hst1), (hS.F ht).1, (hS.F ht).2⟩) hS.2.2 dX1_stepOf_55
set_option maxHeartbeats 4000000 in
set_option maxRecDepth 100000 in
theorem t_X1_bare_N (l : Launch) (hst : l.stackTraces = false) (z : Nat) (H0 : Heap) (hz : z ≤ H0.size) (D : va_G) (cI cJ cZ cG : ClassId) (b P : Nat) (ad : Nat → ga) (st : Nat → Option GS) (b0 : Int32) (hn : gat st b0 = none) (hPB : va_P D vwCl (BW cI cJ cG b P ad st) H0) : th l yX1_bare wsX1_bare ({ frames := 7, cells := 1, slots := 6, locals := 104 }) [Value.ref b, Value.int b0] (KZ D cI cJ cZ cG z H0) H0 "java/util/NoSuchElementException" := by
  refine vx_ofW (cc := cX1_bare) (maxL := 4) (ret := (some .int)) (by decide) rfl ?_
  intro p e s m args below meth c s₁ B hml hex hv
  obtain ⟨rfl, hH, hKZ⟩ := hv
  have hx := B.exec
  have hb := B.bytes
  have hr := B.returns
  have hts := atoms_spec (ws := wsX1_bare) B.pre
  have hown : s.vm.findClass RX1 = some m.cls := findClass_of_methodNamed B.named
  have hlocks := B.notSynchronized
  subst hH
  have hKW := hKZ.1
  have hK := hKW.1
  have hl := lv_entry ([Value.ref b, Value.int b0]) (n := 4) (Nat.le_of_ble_eq_true rfl)
  rw [lg_entry_eq]
  generalize (lg_sl ([Value.ref b, Value.int b0]) ++ List.replicate (4 - (lg_sl ([Value.ref b, Value.int b0])).length) Slot.unset).toArray = ls at hl ⊢
  have hl : lv_has ls 4 [(0, .ref b), (1, .int b0)] := hl
  have hB : va_P D vwCl [(b, .inr (1, [.ref P])), (P, .inl (cG, 12, .inr (.inr (.inr (.inr (pl ad st))))))] s.heap := BW_board hPB
  refine lv_aload_n hx hb dX1_bare_0 rfl (lv_at hl 0 rfl) ?_
  refine lv_iload_n hx hb dX1_bare_1 rfl (lv_at hl 1 rfl) ?_
  exact th_V (As := [.int b0]) (rest := []) ⟨hx, hb, hml, hown, hts⟩ (t_X1_needGauge l hst z s.heap hz D cI cJ cZ cG b P ad st b0 hn hPB) (KZ_puK D cI cJ cZ cG z s.heap) hKZ (cwV 1 hts gX1_bare_X1_needGauge rfl rfl rfl (by decide +kernel) ⟨Nat.le_of_ble_eq_true rfl, Nat.le_of_ble_eq_true rfl⟩) (va_recv hK hB (ci := 1) (q0 := 0) rfl rfl) rfl hl.1 rfl (Nat.le_of_ble_eq_true rfl) dX1_bare_2 ⟨Nat.le_of_ble_eq_true rfl, Nat.le_of_ble_eq_true rfl⟩ hex hlocks
set_option maxHeartbeats 4000000 in
set_option maxRecDepth 100000 in
theorem t_X1_clear_N (l : Launch) (hst : l.stackTraces = false) (z : Nat) (H0 : Heap) (hz : z ≤ H0.size) (D : va_G) (cI cJ cZ cG : ClassId) (b P : Nat) (ad : Nat → ga) (st : Nat → Option GS) (b0 : Int32) (hn : gat st b0 = none) (hPB : va_P D vwCl (BW cI cJ cG b P ad st) H0) : th l yX1_clear wsX1_clear ({ frames := 7, cells := 1, slots := 6, locals := 104 }) [Value.ref b, Value.int b0] (KZ D cI cJ cZ cG z H0) H0 "java/util/NoSuchElementException" := by
  refine vx_ofW (cc := cX1_clear) (maxL := 4) (ret := (some .boolean)) (by decide) rfl ?_
  intro p e s m args below meth c s₁ B hml hex hv
  obtain ⟨rfl, hH, hKZ⟩ := hv
  have hx := B.exec
  have hb := B.bytes
  have hr := B.returns
  have hts := atoms_spec (ws := wsX1_clear) B.pre
  have hown : s.vm.findClass RX1 = some m.cls := findClass_of_methodNamed B.named
  have hlocks := B.notSynchronized
  subst hH
  have hKW := hKZ.1
  have hK := hKW.1
  have hl := lv_entry ([Value.ref b, Value.int b0]) (n := 4) (Nat.le_of_ble_eq_true rfl)
  rw [lg_entry_eq]
  generalize (lg_sl ([Value.ref b, Value.int b0]) ++ List.replicate (4 - (lg_sl ([Value.ref b, Value.int b0])).length) Slot.unset).toArray = ls at hl ⊢
  have hl : lv_has ls 4 [(0, .ref b), (1, .int b0)] := hl
  have hB : va_P D vwCl [(b, .inr (1, [.ref P])), (P, .inl (cG, 12, .inr (.inr (.inr (.inr (pl ad st))))))] s.heap := BW_board hPB
  refine lv_aload_n hx hb dX1_clear_0 rfl (lv_at hl 0 rfl) ?_
  refine lv_iload_n hx hb dX1_clear_1 rfl (lv_at hl 1 rfl) ?_
  exact th_V (As := [.int b0]) (rest := []) ⟨hx, hb, hml, hown, hts⟩ (t_X1_needGauge l hst z s.heap hz D cI cJ cZ cG b P ad st b0 hn hPB) (KZ_puK D cI cJ cZ cG z s.heap) hKZ (cwV 1 hts gX1_clear_X1_needGauge rfl rfl rfl (by decide +kernel) ⟨Nat.le_of_ble_eq_true rfl, Nat.le_of_ble_eq_true rfl⟩) (va_recv hK hB (ci := 1) (q0 := 0) rfl rfl) rfl hl.1 rfl (Nat.le_of_ble_eq_true rfl) dX1_clear_2 ⟨Nat.le_of_ble_eq_true rfl, Nat.le_of_ble_eq_true rfl⟩ hex hlocks
set_option maxHeartbeats 4000000 in
set_option maxRecDepth 100000 in
theorem t_X1_value_N (l : Launch) (hst : l.stackTraces = false) (z : Nat) (H0 : Heap) (hz : z ≤ H0.size) (D : va_G) (cI cJ cZ cG : ClassId) (b P : Nat) (ad : Nat → ga) (st : Nat → Option GS) (b0 : Int32) (hn : gat st b0 = none) (hPB : va_P D vwCl (BW cI cJ cG b P ad st) H0) : th l yX1_value wsX1_value ({ frames := 7, cells := 1, slots := 6, locals := 104 }) [Value.ref b, Value.int b0] (KZ D cI cJ cZ cG z H0) H0 "java/util/NoSuchElementException" := by
  refine vx_ofW (cc := cX1_value) (maxL := 2) (ret := (some .long)) (by decide) rfl ?_
  intro p e s m args below meth c s₁ B hml hex hv
  obtain ⟨rfl, hH, hKZ⟩ := hv
  have hx := B.exec
  have hb := B.bytes
  have hr := B.returns
  have hts := atoms_spec (ws := wsX1_value) B.pre
  have hown : s.vm.findClass RX1 = some m.cls := findClass_of_methodNamed B.named
  have hlocks := B.notSynchronized
  subst hH
  have hKW := hKZ.1
  have hK := hKW.1
  have hl := lv_entry ([Value.ref b, Value.int b0]) (n := 2) (Nat.le_of_ble_eq_true rfl)
  rw [lg_entry_eq]
  generalize (lg_sl ([Value.ref b, Value.int b0]) ++ List.replicate (2 - (lg_sl ([Value.ref b, Value.int b0])).length) Slot.unset).toArray = ls at hl ⊢
  have hl : lv_has ls 2 [(0, .ref b), (1, .int b0)] := hl
  have hB : va_P D vwCl [(b, .inr (1, [.ref P])), (P, .inl (cG, 12, .inr (.inr (.inr (.inr (pl ad st))))))] s.heap := BW_board hPB
  refine lv_aload_n hx hb dX1_value_0 rfl (lv_at hl 0 rfl) ?_
  refine lv_iload_n hx hb dX1_value_1 rfl (lv_at hl 1 rfl) ?_
  exact th_V (As := [.int b0]) (rest := []) ⟨hx, hb, hml, hown, hts⟩ (t_X1_needGauge l hst z s.heap hz D cI cJ cZ cG b P ad st b0 hn hPB) (KZ_puK D cI cJ cZ cG z s.heap) hKZ (cwV 1 hts gX1_value_X1_needGauge rfl rfl rfl (by decide +kernel) ⟨Nat.le_of_ble_eq_true rfl, Nat.le_of_ble_eq_true rfl⟩) (va_recv hK hB (ci := 1) (q0 := 0) rfl rfl) rfl hl.1 rfl (Nat.le_of_ble_eq_true rfl) dX1_value_2 ⟨Nat.le_of_ble_eq_true rfl, Nat.le_of_ble_eq_true rfl⟩ hex hlocks
def F_X1_bare (x : GS) : Int32 × GS := (gC x, (gSo x, gSr x, gOp x, gK x, (0 : Int32), gV x, gM x, gH x, gL x, gR x, gW x))
set_option maxHeartbeats 4000000 in
set_option maxRecDepth 100000 in
theorem c_X1_bare (l : Launch) (H0 : Heap) (D : va_G) (cI cJ cZ cG : ClassId) (b P : Nat) (ad : Nat → ga) (st : Nat → Option GS) (j : Nat) (x : GS) (hj : j < 12) (hst1 : st j = some x) (hPB : va_P D vwCl (BW cI cJ cG b P ad st) H0) (hD0 : va_D (fun _ => True) (BW cI cJ cG b P ad st)) : wr l yX1_bare wsX1_bare ({ frames := 3, cells := 0, slots := 0, locals := 63 }) [Value.ref b, Value.int (nI j)] (KW D cI cJ cZ cG) H0 (some (.int (F_X1_bare x).1)) D (BW cI cJ cG b P ad st) (fun w => w = BW cI cJ cG b P ad (va_up st j (some (F_X1_bare x).2))) 0 0 := by
  refine Met.ofW (cc := cX1_bare) (maxL := 4) (ret := (some .int)) (by decide) rfl ?_
  intro p e s m args below meth c s₁ B hml hv
  obtain ⟨rfl, hH, hKW⟩ := hv
  have hx := B.exec
  have hb := B.bytes
  have hr := B.returns
  have hts := atoms_spec (ws := wsX1_bare) B.pre
  have hown : s.vm.findClass RX1 = some m.cls := findClass_of_methodNamed B.named
  have hlocks := B.notSynchronized
  subst hH
  have hK := hKW.1
  have hl := lv_entry ([Value.ref b, Value.int (nI j)]) (n := 4) (Nat.le_of_ble_eq_true rfl)
  rw [lg_entry_eq]
  generalize (lg_sl ([Value.ref b, Value.int (nI j)]) ++ List.replicate (4 - (lg_sl ([Value.ref b, Value.int (nI j)])).length) Slot.unset).toArray = ls at hl ⊢
  have hl : lv_has ls 4 [(0, .ref b), (1, .int (nI j))] := hl
  have hinX0 : ∀ w ∈ u_ws RX0 TX0 11, w ∈ wsX1_bare := by decide +kernel
  have hB : va_P D vwCl [(b, .inr (1, [.ref P])), (P, .inl (cG, 12, .inr (.inr (.inr (.inr (pl ad st))))))] s.heap := BW_board hPB
  have hD := hD0.self (sz := s.heap.size)
  generalize hAe : va_A (BW cI cJ cG b P ad st) s.heap.size = A at hD ⊢
  have hA : ∀ q : Nat, s.heap.size ≤ q → A q := fun q h => by rw [← hAe]; exact Or.inr h
  have hS : va_S A s.heap s.heap [] := va_S.rf
  have hP := wd_P.perm hPB (BW_perm hj hst1)
  have hD := wd_D.perm hD (BW_perm hj hst1)
  obtain ⟨Rw, hRw⟩ : ∃ R, R = BB cG b P (pl ad st) ++ BG cI cJ ad (va_up st j none) 12 := ⟨_, rfl⟩
  rw [← hRw] at hP hD
  have hP : va_P D vwCl ([((ad j).1, .inr (0, [.ref ((ad j).2.1), .ref ((ad j).2.2.1), .ref ((ad j).2.2.2), .int (gK x), .int (gC x), .long (gV x), .int (gM x), .long (gH x), .long (gL x), .int (gR x), .int (gW x)])), ((ad j).2.1, .inl (cI, 8, .inl (gSo x))), ((ad j).2.2.1, .inl (cI, 8, .inl (gSr x))), ((ad j).2.2.2, .inl (cJ, 8, .inr (.inl (gOp x))))] ++ Rw) s.heap := hP
  have hD : va_D A ([((ad j).1, .inr (0, [.ref ((ad j).2.1), .ref ((ad j).2.2.1), .ref ((ad j).2.2.2), .int (gK x), .int (gC x), .long (gV x), .int (gM x), .long (gH x), .long (gL x), .int (gR x), .int (gW x)])), ((ad j).2.1, .inl (cI, 8, .inl (gSo x))), ((ad j).2.2.1, .inl (cI, 8, .inl (gSr x))), ((ad j).2.2.2, .inl (cJ, 8, .inr (.inl (gOp x))))] ++ Rw) := hD
  refine lv_aload_n hx hb dX1_bare_0 rfl (lv_at hl 0 rfl) ?_
  refine lv_iload_n hx hb dX1_bare_1 rfl (lv_at hl 1 rfl) ?_
  refine pu_V (As := [.int (nI j)]) (rest := []) ⟨hx, hb, hml, hown, hts⟩ (c_X1_needGauge l s.heap D cI cJ cZ cG b P ad st j x hj hst1 hPB) (KW_puK D cI cJ cZ cG) hKW (cwV 1 hts gX1_bare_X1_needGauge rfl rfl rfl (by decide +kernel) ⟨Nat.le_of_ble_eq_true rfl, Nat.le_of_ble_eq_true rfl⟩) (va_recv hK hB (ci := 1) (q0 := 0) rfl rfl) rfl hl.1 rfl (Nat.le_of_ble_eq_true rfl) dX1_bare_2 ⟨Nat.zero_le _, Nat.zero_le _⟩ ?_
  refine W.eq (g2 := F0 m 5 ls [.ref ((ad j).1)]) rfl ?_
  refine lv_astore_n (lv' := [(2, .ref ((ad j).1)), (0, .ref b), (1, .int (nI j))]) hx hb dX1_bare_5 rfl hl (by decide) rfl (fun ls hl => ?_)
  refine lv_aload_n hx hb dX1_bare_6 rfl (lv_at hl 0 rfl) ?_
  refine va_getN (D := D) (ci := 0) (v := .int (gC x)) (C := RX0) (T := TX0) (N := 11) hx hb hts hinX0 hown hK hP 0 rfl rfl 4 (by decide) (hKW.n 4 rfl rfl) (fun _ h9 => h9) rfl dX1_bare_7 ?_
  refine lv_istore_n (lv' := [(3, .int (gC x)), (2, .ref ((ad j).1)), (0, .ref b), (1, .int (nI j))]) hx hb dX1_bare_10 rfl hl (by decide) rfl (fun ls hl => ?_)
  refine lv_aload_n hx hb dX1_bare_11 rfl (lv_at hl 1 rfl) ?_
  refine lv_iconst (v := 0) hx hb dX1_bare_12 (by decide) ?_
  refine va_putN (D := D) (ci := 0) (v := .int (0 : Int32)) (ty := .int) (C := RX0) (T := TX0) (N := 11) hx hb hts hinX0 tyX0 tyX0_ok nmX0 hown hK hP hD hS 0 rfl rfl 4 (by decide) (hKW.n 4 rfl rfl) (fun _ h9 => h9) rfl (by decide +kernel) rfl rfl (Nat.le_of_ble_eq_true rfl) dX1_bare_13 (fun H locs hP hD hS => ?_)
  have hP : va_P D vwCl ([((ad j).1, .inr (0, [.ref ((ad j).2.1), .ref ((ad j).2.2.1), .ref ((ad j).2.2.2), .int (gK x), .int (0 : Int32), .long (gV x), .int (gM x), .long (gH x), .long (gL x), .int (gR x), .int (gW x)])), ((ad j).2.1, .inl (cI, 8, .inl (gSo x))), ((ad j).2.2.1, .inl (cI, 8, .inl (gSr x))), ((ad j).2.2.2, .inl (cJ, 8, .inr (.inl (gOp x))))] ++ Rw) H := hP
  have hD : va_D A ([((ad j).1, .inr (0, [.ref ((ad j).2.1), .ref ((ad j).2.2.1), .ref ((ad j).2.2.2), .int (gK x), .int (0 : Int32), .long (gV x), .int (gM x), .long (gH x), .long (gL x), .int (gR x), .int (gW x)])), ((ad j).2.1, .inl (cI, 8, .inl (gSo x))), ((ad j).2.2.1, .inl (cI, 8, .inl (gSr x))), ((ad j).2.2.2, .inl (cJ, 8, .inr (.inl (gOp x))))] ++ Rw) := hD
  refine lv_iload_n hx hb dX1_bare_16 rfl (lv_at hl 0 rfl) ?_
  have hF : F_X1_bare x = (gC x, (gSo x, gSr x, gOp x, gK x, (0 : Int32), gV x, gM x, gH x, gL x, gR x, gW x)) := by
    rfl
  subst hRw
  have hP9 : va_P D vwCl (GZ cI cJ (ad j) (gSo x, gSr x, gOp x, gK x, (0 : Int32), gV x, gM x, gH x, gL x, gR x, gW x) ++ (BB cG b P (pl ad st) ++ BG cI cJ ad (va_up st j none) 12)) H := by rw [GZ_eq]; exact hP
  have hD9 : va_D A (GZ cI cJ (ad j) (gSo x, gSr x, gOp x, gK x, (0 : Int32), gV x, gM x, gH x, gL x, gR x, gW x) ++ (BB cG b P (pl ad st) ++ BG cI cJ ad (va_up st j none) 12)) := by rw [GZ_eq]; exact hD
  exact W.iret (v := gC x) hx hb hr (fun t ht hW => ⟨by rw [hF], _, rfl, by rw [hF, ht]; exact wd_P.perm hP9 (BW_back hj hst1), by rw [hF]; exact wd_D.perm hD9 (BW_back hj hst1), (hS.F ht).1, (hS.F ht).2⟩) hS.2.2 dX1_bare_17
def F_X1_clear (x : GS) : Int32 × GS := (gM x, (gSo x, gSr x, gOp x, gK x, gC x, gV x, (0 : Int32), gH x, gL x, gR x, gW x))
set_option maxHeartbeats 4000000 in
set_option maxRecDepth 100000 in
theorem c_X1_clear (l : Launch) (H0 : Heap) (D : va_G) (cI cJ cZ cG : ClassId) (b P : Nat) (ad : Nat → ga) (st : Nat → Option GS) (j : Nat) (x : GS) (hj : j < 12) (hst1 : st j = some x) (hm : gM x = 0 ∨ gM x = 1) (hPB : va_P D vwCl (BW cI cJ cG b P ad st) H0) (hD0 : va_D (fun _ => True) (BW cI cJ cG b P ad st)) : wr l yX1_clear wsX1_clear ({ frames := 3, cells := 0, slots := 0, locals := 63 }) [Value.ref b, Value.int (nI j)] (KW D cI cJ cZ cG) H0 (some (.int (F_X1_clear x).1)) D (BW cI cJ cG b P ad st) (fun w => w = BW cI cJ cG b P ad (va_up st j (some (F_X1_clear x).2))) 0 0 := by
  refine Met.ofW (cc := cX1_clear) (maxL := 4) (ret := (some .boolean)) (by decide) rfl ?_
  intro p e s m args below meth c s₁ B hml hv
  obtain ⟨rfl, hH, hKW⟩ := hv
  have hx := B.exec
  have hb := B.bytes
  have hr := B.returns
  have hts := atoms_spec (ws := wsX1_clear) B.pre
  have hown : s.vm.findClass RX1 = some m.cls := findClass_of_methodNamed B.named
  have hlocks := B.notSynchronized
  subst hH
  have hK := hKW.1
  have hl := lv_entry ([Value.ref b, Value.int (nI j)]) (n := 4) (Nat.le_of_ble_eq_true rfl)
  rw [lg_entry_eq]
  generalize (lg_sl ([Value.ref b, Value.int (nI j)]) ++ List.replicate (4 - (lg_sl ([Value.ref b, Value.int (nI j)])).length) Slot.unset).toArray = ls at hl ⊢
  have hl : lv_has ls 4 [(0, .ref b), (1, .int (nI j))] := hl
  have hinX0 : ∀ w ∈ u_ws RX0 TX0 11, w ∈ wsX1_clear := by decide +kernel
  have hB : va_P D vwCl [(b, .inr (1, [.ref P])), (P, .inl (cG, 12, .inr (.inr (.inr (.inr (pl ad st))))))] s.heap := BW_board hPB
  have hD := hD0.self (sz := s.heap.size)
  generalize hAe : va_A (BW cI cJ cG b P ad st) s.heap.size = A at hD ⊢
  have hA : ∀ q : Nat, s.heap.size ≤ q → A q := fun q h => by rw [← hAe]; exact Or.inr h
  have hS : va_S A s.heap s.heap [] := va_S.rf
  have hP := wd_P.perm hPB (BW_perm hj hst1)
  have hD := wd_D.perm hD (BW_perm hj hst1)
  obtain ⟨Rw, hRw⟩ : ∃ R, R = BB cG b P (pl ad st) ++ BG cI cJ ad (va_up st j none) 12 := ⟨_, rfl⟩
  rw [← hRw] at hP hD
  have hP : va_P D vwCl ([((ad j).1, .inr (0, [.ref ((ad j).2.1), .ref ((ad j).2.2.1), .ref ((ad j).2.2.2), .int (gK x), .int (gC x), .long (gV x), .int (gM x), .long (gH x), .long (gL x), .int (gR x), .int (gW x)])), ((ad j).2.1, .inl (cI, 8, .inl (gSo x))), ((ad j).2.2.1, .inl (cI, 8, .inl (gSr x))), ((ad j).2.2.2, .inl (cJ, 8, .inr (.inl (gOp x))))] ++ Rw) s.heap := hP
  have hD : va_D A ([((ad j).1, .inr (0, [.ref ((ad j).2.1), .ref ((ad j).2.2.1), .ref ((ad j).2.2.2), .int (gK x), .int (gC x), .long (gV x), .int (gM x), .long (gH x), .long (gL x), .int (gR x), .int (gW x)])), ((ad j).2.1, .inl (cI, 8, .inl (gSo x))), ((ad j).2.2.1, .inl (cI, 8, .inl (gSr x))), ((ad j).2.2.2, .inl (cJ, 8, .inr (.inl (gOp x))))] ++ Rw) := hD
  refine lv_aload_n hx hb dX1_clear_0 rfl (lv_at hl 0 rfl) ?_
  refine lv_iload_n hx hb dX1_clear_1 rfl (lv_at hl 1 rfl) ?_
  refine pu_V (As := [.int (nI j)]) (rest := []) ⟨hx, hb, hml, hown, hts⟩ (c_X1_needGauge l s.heap D cI cJ cZ cG b P ad st j x hj hst1 hPB) (KW_puK D cI cJ cZ cG) hKW (cwV 1 hts gX1_clear_X1_needGauge rfl rfl rfl (by decide +kernel) ⟨Nat.le_of_ble_eq_true rfl, Nat.le_of_ble_eq_true rfl⟩) (va_recv hK hB (ci := 1) (q0 := 0) rfl rfl) rfl hl.1 rfl (Nat.le_of_ble_eq_true rfl) dX1_clear_2 ⟨Nat.zero_le _, Nat.zero_le _⟩ ?_
  refine W.eq (g2 := F0 m 5 ls [.ref ((ad j).1)]) rfl ?_
  refine lv_astore_n (lv' := [(2, .ref ((ad j).1)), (0, .ref b), (1, .int (nI j))]) hx hb dX1_clear_5 rfl hl (by decide) rfl (fun ls hl => ?_)
  refine lv_aload_n hx hb dX1_clear_6 rfl (lv_at hl 0 rfl) ?_
  refine va_getN (D := D) (ci := 0) (v := .int (gM x)) (C := RX0) (T := TX0) (N := 11) hx hb hts hinX0 hown hK hP 0 rfl rfl 6 (by decide) (hKW.n 6 rfl rfl) (fun _ h9 => h9) rfl dX1_clear_7 ?_
  refine lv_istore_n (lv' := [(3, .int (gM x)), (2, .ref ((ad j).1)), (0, .ref b), (1, .int (nI j))]) hx hb dX1_clear_10 rfl hl (by decide) rfl (fun ls hl => ?_)
  refine lv_aload_n hx hb dX1_clear_11 rfl (lv_at hl 1 rfl) ?_
  refine lv_iconst (v := 0) hx hb dX1_clear_12 (by decide) ?_
  refine va_putN (D := D) (ci := 0) (v := .int (0 : Int32)) (ty := .boolean) (C := RX0) (T := TX0) (N := 11) hx hb hts hinX0 tyX0 tyX0_ok nmX0 hown hK hP hD hS 0 rfl rfl 6 (by decide) (hKW.n 6 rfl rfl) (fun _ h9 => h9) rfl (by decide +kernel) rfl rfl (Nat.le_of_ble_eq_true rfl) dX1_clear_13 (fun H locs hP hD hS => ?_)
  have hP : va_P D vwCl ([((ad j).1, .inr (0, [.ref ((ad j).2.1), .ref ((ad j).2.2.1), .ref ((ad j).2.2.2), .int (gK x), .int (gC x), .long (gV x), .int (0 : Int32), .long (gH x), .long (gL x), .int (gR x), .int (gW x)])), ((ad j).2.1, .inl (cI, 8, .inl (gSo x))), ((ad j).2.2.1, .inl (cI, 8, .inl (gSr x))), ((ad j).2.2.2, .inl (cJ, 8, .inr (.inl (gOp x))))] ++ Rw) H := hP
  have hD : va_D A ([((ad j).1, .inr (0, [.ref ((ad j).2.1), .ref ((ad j).2.2.1), .ref ((ad j).2.2.2), .int (gK x), .int (gC x), .long (gV x), .int (0 : Int32), .long (gH x), .long (gL x), .int (gR x), .int (gW x)])), ((ad j).2.1, .inl (cI, 8, .inl (gSo x))), ((ad j).2.2.1, .inl (cI, 8, .inl (gSr x))), ((ad j).2.2.2, .inl (cJ, 8, .inr (.inl (gOp x))))] ++ Rw) := hD
  refine lv_iload_n hx hb dX1_clear_16 rfl (lv_at hl 0 rfl) ?_
  have hF : F_X1_clear x = (gM x, (gSo x, gSr x, gOp x, gK x, gC x, gV x, (0 : Int32), gH x, gL x, gR x, gW x)) := by
    rfl
  subst hRw
  have hP9 : va_P D vwCl (GZ cI cJ (ad j) (gSo x, gSr x, gOp x, gK x, gC x, gV x, (0 : Int32), gH x, gL x, gR x, gW x) ++ (BB cG b P (pl ad st) ++ BG cI cJ ad (va_up st j none) 12)) H := by rw [GZ_eq]; exact hP
  have hD9 : va_D A (GZ cI cJ (ad j) (gSo x, gSr x, gOp x, gK x, gC x, gV x, (0 : Int32), gH x, gL x, gR x, gW x) ++ (BB cG b P (pl ad st) ++ BG cI cJ ad (va_up st j none) 12)) := by rw [GZ_eq]; exact hD
  exact W.zret (v := gM x) hx hb hr (bool_nar hm) (fun t ht hW => ⟨by rw [hF], _, rfl, by rw [hF, ht]; exact wd_P.perm hP9 (BW_back hj hst1), by rw [hF]; exact wd_D.perm hD9 (BW_back hj hst1), (hS.F ht).1, (hS.F ht).2⟩) hS.2.2 dX1_clear_17
set_option maxHeartbeats 4000000 in
set_option maxRecDepth 100000 in
theorem c_X1_value (l : Launch) (H0 : Heap) (D : va_G) (cI cJ cZ cG : ClassId) (b P : Nat) (ad : Nat → ga) (st : Nat → Option GS) (j : Nat) (x : GS) (hj : j < 12) (hst1 : st j = some x) (hPB : va_P D vwCl (BW cI cJ cG b P ad st) H0) : pu l yX1_value wsX1_value ({ frames := 3, cells := 0, slots := 0, locals := 63 }) [Value.ref b, Value.int (nI j)] (KW D cI cJ cZ cG) H0 (some (.long (gV x))) := by
  refine Met.ofW (cc := cX1_value) (maxL := 2) (ret := (some .long)) (by decide) rfl ?_
  intro p e s m args below meth c s₁ B hml hv
  obtain ⟨rfl, hH, hKW⟩ := hv
  have hx := B.exec
  have hb := B.bytes
  have hr := B.returns
  have hts := atoms_spec (ws := wsX1_value) B.pre
  have hown : s.vm.findClass RX1 = some m.cls := findClass_of_methodNamed B.named
  have hlocks := B.notSynchronized
  subst hH
  have hK := hKW.1
  have hl := lv_entry ([Value.ref b, Value.int (nI j)]) (n := 2) (Nat.le_of_ble_eq_true rfl)
  rw [lg_entry_eq]
  generalize (lg_sl ([Value.ref b, Value.int (nI j)]) ++ List.replicate (2 - (lg_sl ([Value.ref b, Value.int (nI j)])).length) Slot.unset).toArray = ls at hl ⊢
  have hl : lv_has ls 2 [(0, .ref b), (1, .int (nI j))] := hl
  have hinX0 : ∀ w ∈ u_ws RX0 TX0 11, w ∈ wsX1_value := by decide +kernel
  have hB : va_P D vwCl [(b, .inr (1, [.ref P])), (P, .inl (cG, 12, .inr (.inr (.inr (.inr (pl ad st))))))] s.heap := BW_board hPB
  have hg : va_P D vwCl [((ad j).1, .inr (0, [.ref ((ad j).2.1), .ref ((ad j).2.2.1), .ref ((ad j).2.2.2), .int (gK x), .int (gC x), .long (gV x), .int (gM x), .long (gH x), .long (gL x), .int (gR x), .int (gW x)])), ((ad j).2.1, .inl (cI, 8, .inl (gSo x))), ((ad j).2.2.1, .inl (cI, 8, .inl (gSr x))), ((ad j).2.2.2, .inl (cJ, 8, .inr (.inl (gOp x))))] s.heap := BW_gauge hPB hj hst1
  refine lv_aload_n hx hb dX1_value_0 rfl (lv_at hl 0 rfl) ?_
  refine lv_iload_n hx hb dX1_value_1 rfl (lv_at hl 1 rfl) ?_
  refine pu_V (As := [.int (nI j)]) (rest := []) ⟨hx, hb, hml, hown, hts⟩ (c_X1_needGauge l s.heap D cI cJ cZ cG b P ad st j x hj hst1 hPB) (KW_puK D cI cJ cZ cG) hKW (cwV 1 hts gX1_value_X1_needGauge rfl rfl rfl (by decide +kernel) ⟨Nat.le_of_ble_eq_true rfl, Nat.le_of_ble_eq_true rfl⟩) (va_recv hK hB (ci := 1) (q0 := 0) rfl rfl) rfl hl.1 rfl (Nat.le_of_ble_eq_true rfl) dX1_value_2 ⟨Nat.zero_le _, Nat.zero_le _⟩ ?_
  refine W.eq (g2 := F0 m 5 ls [.ref ((ad j).1)]) rfl ?_
  refine va_getN (D := D) (ci := 0) (v := .long (gV x)) (C := RX0) (T := TX0) (N := 11) hx hb hts hinX0 hown hK hg 0 rfl rfl 5 (by decide) (hKW.n 5 rfl rfl) (fun _ h9 => h9) rfl dX1_value_5 ?_
  exact W.lret (v := gV x) hx hb hr (fun t ht hW => ⟨congrArg (fun z => Outcome.returned (some (Value.long z))) (rfl), ht⟩) (fun _ h => nomatch h) dX1_value_8
set_option maxHeartbeats 4000000 in
set_option maxRecDepth 100000 in
theorem t_X1_mark_N (l : Launch) (hst : l.stackTraces = false) (z : Nat) (H0 : Heap) (hz : z ≤ H0.size) (D : va_G) (cI cJ cZ cG : ClassId) (b P : Nat) (ad : Nat → ga) (st : Nat → Option GS) (b0 : Int32) (b1 : Int32) (hn : gat st b0 = none) (hPB : va_P D vwCl (BW cI cJ cG b P ad st) H0) : th l yX1_mark wsX1_mark ({ frames := 7, cells := 1, slots := 6, locals := 104 }) [Value.ref b, Value.int b0, Value.int b1] (KZ D cI cJ cZ cG z H0) H0 "java/util/NoSuchElementException" := by
  refine vx_ofW (cc := cX1_mark) (maxL := 4) (ret := (some .long)) (by decide) rfl ?_
  intro p e s m args below meth c s₁ B hml hex hv
  obtain ⟨rfl, hH, hKZ⟩ := hv
  have hx := B.exec
  have hb := B.bytes
  have hr := B.returns
  have hts := atoms_spec (ws := wsX1_mark) B.pre
  have hown : s.vm.findClass RX1 = some m.cls := findClass_of_methodNamed B.named
  have hlocks := B.notSynchronized
  subst hH
  have hKW := hKZ.1
  have hK := hKW.1
  have hl := lv_entry ([Value.ref b, Value.int b0, Value.int b1]) (n := 4) (Nat.le_of_ble_eq_true rfl)
  rw [lg_entry_eq]
  generalize (lg_sl ([Value.ref b, Value.int b0, Value.int b1]) ++ List.replicate (4 - (lg_sl ([Value.ref b, Value.int b0, Value.int b1])).length) Slot.unset).toArray = ls at hl ⊢
  have hl : lv_has ls 4 [(0, .ref b), (1, .int b0), (2, .int b1)] := hl
  have hB : va_P D vwCl [(b, .inr (1, [.ref P])), (P, .inl (cG, 12, .inr (.inr (.inr (.inr (pl ad st))))))] s.heap := BW_board hPB
  refine lv_aload_n hx hb dX1_mark_0 rfl (lv_at hl 0 rfl) ?_
  refine lv_iload_n hx hb dX1_mark_1 rfl (lv_at hl 1 rfl) ?_
  exact th_V (As := [.int b0]) (rest := []) ⟨hx, hb, hml, hown, hts⟩ (t_X1_needGauge l hst z s.heap hz D cI cJ cZ cG b P ad st b0 hn hPB) (KZ_puK D cI cJ cZ cG z s.heap) hKZ (cwV 1 hts gX1_mark_X1_needGauge rfl rfl rfl (by decide +kernel) ⟨Nat.le_of_ble_eq_true rfl, Nat.le_of_ble_eq_true rfl⟩) (va_recv hK hB (ci := 1) (q0 := 0) rfl rfl) rfl hl.1 rfl (Nat.le_of_ble_eq_true rfl) dX1_mark_2 ⟨Nat.le_of_ble_eq_true rfl, Nat.le_of_ble_eq_true rfl⟩ hex hlocks
set_option maxHeartbeats 4000000 in
set_option maxRecDepth 100000 in
theorem t_X1_mark_S (l : Launch) (hst : l.stackTraces = false) (z : Nat) (H0 : Heap) (hz : z ≤ H0.size) (D : va_G) (cI cJ cZ cG : ClassId) (b P : Nat) (ad : Nat → ga) (st : Nat → Option GS) (j : Nat) (x : GS) (b1 : Int32) (hj : j < 12) (hst1 : st j = some x) (hm : (gM x) = 0) (hPB : va_P D vwCl (BW cI cJ cG b P ad st) H0) : th l yX1_mark wsX1_mark ({ frames := 7, cells := 1, slots := 6, locals := 104 }) [Value.ref b, Value.int (nI j), Value.int b1] (KZ D cI cJ cZ cG z H0) H0 "java/lang/IllegalStateException" := by
  refine vx_ofW (cc := cX1_mark) (maxL := 4) (ret := (some .long)) (by decide) rfl ?_
  intro p e s m args below meth c s₁ B hml hex hv
  obtain ⟨rfl, hH, hKZ⟩ := hv
  have hx := B.exec
  have hb := B.bytes
  have hr := B.returns
  have hts := atoms_spec (ws := wsX1_mark) B.pre
  have hown : s.vm.findClass RX1 = some m.cls := findClass_of_methodNamed B.named
  have hlocks := B.notSynchronized
  subst hH
  have hKW := hKZ.1
  have hK := hKW.1
  have hl := lv_entry ([Value.ref b, Value.int (nI j), Value.int b1]) (n := 4) (Nat.le_of_ble_eq_true rfl)
  rw [lg_entry_eq]
  generalize (lg_sl ([Value.ref b, Value.int (nI j), Value.int b1]) ++ List.replicate (4 - (lg_sl ([Value.ref b, Value.int (nI j), Value.int b1])).length) Slot.unset).toArray = ls at hl ⊢
  have hl : lv_has ls 4 [(0, .ref b), (1, .int (nI j)), (2, .int b1)] := hl
  have hinX0 : ∀ w ∈ u_ws RX0 TX0 11, w ∈ wsX1_mark := by decide +kernel
  have hB : va_P D vwCl [(b, .inr (1, [.ref P])), (P, .inl (cG, 12, .inr (.inr (.inr (.inr (pl ad st))))))] s.heap := BW_board hPB
  have hg : va_P D vwCl [((ad j).1, .inr (0, [.ref ((ad j).2.1), .ref ((ad j).2.2.1), .ref ((ad j).2.2.2), .int (gK x), .int (gC x), .long (gV x), .int (gM x), .long (gH x), .long (gL x), .int (gR x), .int (gW x)])), ((ad j).2.1, .inl (cI, 8, .inl (gSo x))), ((ad j).2.2.1, .inl (cI, 8, .inl (gSr x))), ((ad j).2.2.2, .inl (cJ, 8, .inr (.inl (gOp x))))] s.heap := BW_gauge hPB hj hst1
  refine lv_aload_n hx hb dX1_mark_0 rfl (lv_at hl 0 rfl) ?_
  refine lv_iload_n hx hb dX1_mark_1 rfl (lv_at hl 1 rfl) ?_
  refine pu_V (As := [.int (nI j)]) (rest := []) ⟨hx, hb, hml, hown, hts⟩ (c_X1_needGauge l s.heap D cI cJ cZ cG b P ad st j x hj hst1 hPB) (KW_puK D cI cJ cZ cG) hKW (cwV 1 hts gX1_mark_X1_needGauge rfl rfl rfl (by decide +kernel) ⟨Nat.le_of_ble_eq_true rfl, Nat.le_of_ble_eq_true rfl⟩) (va_recv hK hB (ci := 1) (q0 := 0) rfl rfl) rfl hl.1 rfl (Nat.le_of_ble_eq_true rfl) dX1_mark_2 ⟨Nat.zero_le _, Nat.zero_le _⟩ ?_
  refine W.eq (g2 := F0 m 5 ls [.ref ((ad j).1)]) rfl ?_
  refine lv_astore_n (lv' := [(3, .ref ((ad j).1)), (0, .ref b), (1, .int (nI j)), (2, .int b1)]) hx hb dX1_mark_5 rfl hl (by decide) rfl (fun ls hl => ?_)
  refine lv_aload_n hx hb dX1_mark_6 rfl (lv_at hl 0 rfl) ?_
  refine va_getN (D := D) (ci := 0) (v := .int (gM x)) (C := RX0) (T := TX0) (N := 11) hx hb hts hinX0 hown hK hg 0 rfl rfl 6 (by decide) (hKW.n 6 rfl rfl) (fun _ h9 => h9) rfl dX1_mark_7 ?_
  refine lv_if_ne (tgt := 23) hx hb dX1_mark_10 (by decide) (fun z_9 => absurd hm z_9) (fun z_9 => ?_)
  exact thr_S (text := "the mark is not set") hx hb hst hown hts hKZ hz (List.mem_of_getElem? (i := 11) rfl) (by decide +kernel) (by decide +kernel) (fun w h9 => List.mem_cons_of_mem _ (List.mem_append_left _ (List.mem_append_right _ h9))) (by rw [hml]; exact hl.1) dX1_mark_13 dX1_mark_16 dX1_mark_17 dX1_mark_19 dX1_mark_22 hex (Nat.le_of_ble_eq_true rfl) (Nat.le_of_ble_eq_true rfl) (Nat.le_of_ble_eq_true rfl) (Nat.le_of_ble_eq_true rfl) hlocks
def f_X1_mark (x : GS) (b1 : Int32) : Int64 := (if b1 = 0 then gL x else gH x)
set_option maxHeartbeats 4000000 in
set_option maxRecDepth 100000 in
theorem c_X1_mark (l : Launch) (H0 : Heap) (D : va_G) (cI cJ cZ cG : ClassId) (b P : Nat) (ad : Nat → ga) (st : Nat → Option GS) (j : Nat) (x : GS) (b1 : Int32) (hj : j < 12) (hst1 : st j = some x) (hm : ¬ (gM x) = 0) (hPB : va_P D vwCl (BW cI cJ cG b P ad st) H0) : pu l yX1_mark wsX1_mark ({ frames := 3, cells := 0, slots := 0, locals := 63 }) [Value.ref b, Value.int (nI j), Value.int b1] (KW D cI cJ cZ cG) H0 (some (.long (f_X1_mark x b1))) := by
  refine Met.ofW (cc := cX1_mark) (maxL := 4) (ret := (some .long)) (by decide) rfl ?_
  intro p e s m args below meth c s₁ B hml hv
  obtain ⟨rfl, hH, hKW⟩ := hv
  have hx := B.exec
  have hb := B.bytes
  have hr := B.returns
  have hts := atoms_spec (ws := wsX1_mark) B.pre
  have hown : s.vm.findClass RX1 = some m.cls := findClass_of_methodNamed B.named
  have hlocks := B.notSynchronized
  subst hH
  have hK := hKW.1
  have hl := lv_entry ([Value.ref b, Value.int (nI j), Value.int b1]) (n := 4) (Nat.le_of_ble_eq_true rfl)
  rw [lg_entry_eq]
  generalize (lg_sl ([Value.ref b, Value.int (nI j), Value.int b1]) ++ List.replicate (4 - (lg_sl ([Value.ref b, Value.int (nI j), Value.int b1])).length) Slot.unset).toArray = ls at hl ⊢
  have hl : lv_has ls 4 [(0, .ref b), (1, .int (nI j)), (2, .int b1)] := hl
  have hinX0 : ∀ w ∈ u_ws RX0 TX0 11, w ∈ wsX1_mark := by decide +kernel
  have hB : va_P D vwCl [(b, .inr (1, [.ref P])), (P, .inl (cG, 12, .inr (.inr (.inr (.inr (pl ad st))))))] s.heap := BW_board hPB
  have hg : va_P D vwCl [((ad j).1, .inr (0, [.ref ((ad j).2.1), .ref ((ad j).2.2.1), .ref ((ad j).2.2.2), .int (gK x), .int (gC x), .long (gV x), .int (gM x), .long (gH x), .long (gL x), .int (gR x), .int (gW x)])), ((ad j).2.1, .inl (cI, 8, .inl (gSo x))), ((ad j).2.2.1, .inl (cI, 8, .inl (gSr x))), ((ad j).2.2.2, .inl (cJ, 8, .inr (.inl (gOp x))))] s.heap := BW_gauge hPB hj hst1
  refine lv_aload_n hx hb dX1_mark_0 rfl (lv_at hl 0 rfl) ?_
  refine lv_iload_n hx hb dX1_mark_1 rfl (lv_at hl 1 rfl) ?_
  refine pu_V (As := [.int (nI j)]) (rest := []) ⟨hx, hb, hml, hown, hts⟩ (c_X1_needGauge l s.heap D cI cJ cZ cG b P ad st j x hj hst1 hPB) (KW_puK D cI cJ cZ cG) hKW (cwV 1 hts gX1_mark_X1_needGauge rfl rfl rfl (by decide +kernel) ⟨Nat.le_of_ble_eq_true rfl, Nat.le_of_ble_eq_true rfl⟩) (va_recv hK hB (ci := 1) (q0 := 0) rfl rfl) rfl hl.1 rfl (Nat.le_of_ble_eq_true rfl) dX1_mark_2 ⟨Nat.zero_le _, Nat.zero_le _⟩ ?_
  refine W.eq (g2 := F0 m 5 ls [.ref ((ad j).1)]) rfl ?_
  refine lv_astore_n (lv' := [(3, .ref ((ad j).1)), (0, .ref b), (1, .int (nI j)), (2, .int b1)]) hx hb dX1_mark_5 rfl hl (by decide) rfl (fun ls hl => ?_)
  refine lv_aload_n hx hb dX1_mark_6 rfl (lv_at hl 0 rfl) ?_
  refine va_getN (D := D) (ci := 0) (v := .int (gM x)) (C := RX0) (T := TX0) (N := 11) hx hb hts hinX0 hown hK hg 0 rfl rfl 6 (by decide) (hKW.n 6 rfl rfl) (fun _ h9 => h9) rfl dX1_mark_7 ?_
  refine lv_if_ne (tgt := 23) hx hb dX1_mark_10 (by decide) (fun z_9 => ?_) (fun z_9 => absurd z_9 hm)
  refine lv_iload_n hx hb dX1_mark_23 rfl (lv_at hl 3 rfl) ?_
  refine lv_if_eq (tgt := 34) hx hb dX1_mark_24 (by decide) (fun c_1 => ?_) (fun c_1 => ?_)
  · refine lv_aload_n hx hb dX1_mark_34 rfl (lv_at hl 0 rfl) ?_
    refine va_getN (D := D) (ci := 0) (v := .long (gL x)) (C := RX0) (T := TX0) (N := 11) hx hb hts hinX0 hown hK hg 0 rfl rfl 8 (by decide) (hKW.n 8 rfl rfl) (fun _ h9 => h9) rfl dX1_mark_35 ?_
    exact W.lret (v := gL x) hx hb hr (fun t ht hW => ⟨congrArg (fun z => Outcome.returned (some (Value.long z))) (by unfold f_X1_mark; rw [if_pos c_1]), ht⟩) (fun _ h => nomatch h) dX1_mark_38
  · refine lv_aload_n hx hb dX1_mark_27 rfl (lv_at hl 0 rfl) ?_
    refine va_getN (D := D) (ci := 0) (v := .long (gH x)) (C := RX0) (T := TX0) (N := 11) hx hb hts hinX0 hown hK hg 0 rfl rfl 7 (by decide) (hKW.n 7 rfl rfl) (fun _ h9 => h9) rfl dX1_mark_28 ?_
    refine lv_goto (tgt := 38) hx hb dX1_mark_31 (by decide) ?_
    exact W.lret (v := gH x) hx hb hr (fun t ht hW => ⟨congrArg (fun z => Outcome.returned (some (Value.long z))) (by unfold f_X1_mark; rw [if_neg c_1]), ht⟩) (fun _ h => nomatch h) dX1_mark_38
set_option maxHeartbeats 4000000 in
set_option maxRecDepth 100000 in
theorem t_X1_read_N (l : Launch) (hst : l.stackTraces = false) (z : Nat) (H0 : Heap) (hz : z ≤ H0.size) (D : va_G) (cI cJ cZ cG : ClassId) (b P : Nat) (ad : Nat → ga) (st : Nat → Option GS) (b0 : Int32) (b1 : Int64) (hn : gat st b0 = none) (hPB : va_P D vwCl (BW cI cJ cG b P ad st) H0) : th l yX1_read wsX1_read ({ frames := 7, cells := 1, slots := 6, locals := 104 }) [Value.ref b, Value.int b0, Value.long b1] (KZ D cI cJ cZ cG z H0) H0 "java/util/NoSuchElementException" := by
  refine vx_ofW (cc := cX1_read) (maxL := 5) (ret := (some .long)) (by decide) rfl ?_
  intro p e s m args below meth c s₁ B hml hex hv
  obtain ⟨rfl, hH, hKZ⟩ := hv
  have hx := B.exec
  have hb := B.bytes
  have hr := B.returns
  have hts := atoms_spec (ws := wsX1_read) B.pre
  have hown : s.vm.findClass RX1 = some m.cls := findClass_of_methodNamed B.named
  have hlocks := B.notSynchronized
  subst hH
  have hKW := hKZ.1
  have hK := hKW.1
  have hl := lv_entry ([Value.ref b, Value.int b0, Value.long b1]) (n := 5) (Nat.le_of_ble_eq_true rfl)
  rw [lg_entry_eq]
  generalize (lg_sl ([Value.ref b, Value.int b0, Value.long b1]) ++ List.replicate (5 - (lg_sl ([Value.ref b, Value.int b0, Value.long b1])).length) Slot.unset).toArray = ls at hl ⊢
  have hl : lv_has ls 5 [(0, .ref b), (1, .int b0), (2, .long b1)] := hl
  have hB : va_P D vwCl [(b, .inr (1, [.ref P])), (P, .inl (cG, 12, .inr (.inr (.inr (.inr (pl ad st))))))] s.heap := BW_board hPB
  refine lv_aload_n hx hb dX1_read_0 rfl (lv_at hl 0 rfl) ?_
  refine lv_iload_n hx hb dX1_read_1 rfl (lv_at hl 1 rfl) ?_
  exact th_V (As := [.int b0]) (rest := []) ⟨hx, hb, hml, hown, hts⟩ (t_X1_needGauge l hst z s.heap hz D cI cJ cZ cG b P ad st b0 hn hPB) (KZ_puK D cI cJ cZ cG z s.heap) hKZ (cwV 1 hts gX1_read_X1_needGauge rfl rfl rfl (by decide +kernel) ⟨Nat.le_of_ble_eq_true rfl, Nat.le_of_ble_eq_true rfl⟩) (va_recv hK hB (ci := 1) (q0 := 0) rfl rfl) rfl hl.1 rfl (Nat.le_of_ble_eq_true rfl) dX1_read_2 ⟨Nat.le_of_ble_eq_true rfl, Nat.le_of_ble_eq_true rfl⟩ hex hlocks
set_option maxHeartbeats 4000000 in
set_option maxRecDepth 100000 in
theorem t_X1_read_A (l : Launch) (hst : l.stackTraces = false) (z : Nat) (H0 : Heap) (hz : z ≤ H0.size) (D : va_G) (cI cJ cZ cG : ClassId) (b P : Nat) (ad : Nat → ga) (st : Nat → Option GS) (j : Nat) (x : GS) (b1 : Int64) (hj : j < 12) (hst1 : st j = some x) (hnog : e_X1_needGood (gK x) b1 = 2) (hPB : va_P D vwCl (BW cI cJ cG b P ad st) H0) : th l yX1_read wsX1_read ({ frames := 7, cells := 1, slots := 6, locals := 104 }) [Value.ref b, Value.int (nI j), Value.long b1] (KZ D cI cJ cZ cG z H0) H0 "java/lang/IllegalArgumentException" := by
  refine vx_ofW (cc := cX1_read) (maxL := 5) (ret := (some .long)) (by decide) rfl ?_
  intro p e s m args below meth c s₁ B hml hex hv
  obtain ⟨rfl, hH, hKZ⟩ := hv
  have hx := B.exec
  have hb := B.bytes
  have hr := B.returns
  have hts := atoms_spec (ws := wsX1_read) B.pre
  have hown : s.vm.findClass RX1 = some m.cls := findClass_of_methodNamed B.named
  have hlocks := B.notSynchronized
  subst hH
  have hKW := hKZ.1
  have hK := hKW.1
  have hl := lv_entry ([Value.ref b, Value.int (nI j), Value.long b1]) (n := 5) (Nat.le_of_ble_eq_true rfl)
  rw [lg_entry_eq]
  generalize (lg_sl ([Value.ref b, Value.int (nI j), Value.long b1]) ++ List.replicate (5 - (lg_sl ([Value.ref b, Value.int (nI j), Value.long b1])).length) Slot.unset).toArray = ls at hl ⊢
  have hl : lv_has ls 5 [(0, .ref b), (1, .int (nI j)), (2, .long b1)] := hl
  have hinX0 : ∀ w ∈ u_ws RX0 TX0 11, w ∈ wsX1_read := by decide +kernel
  have hB : va_P D vwCl [(b, .inr (1, [.ref P])), (P, .inl (cG, 12, .inr (.inr (.inr (.inr (pl ad st))))))] s.heap := BW_board hPB
  have hg : va_P D vwCl [((ad j).1, .inr (0, [.ref ((ad j).2.1), .ref ((ad j).2.2.1), .ref ((ad j).2.2.2), .int (gK x), .int (gC x), .long (gV x), .int (gM x), .long (gH x), .long (gL x), .int (gR x), .int (gW x)])), ((ad j).2.1, .inl (cI, 8, .inl (gSo x))), ((ad j).2.2.1, .inl (cI, 8, .inl (gSr x))), ((ad j).2.2.2, .inl (cJ, 8, .inr (.inl (gOp x))))] s.heap := BW_gauge hPB hj hst1
  refine lv_aload_n hx hb dX1_read_0 rfl (lv_at hl 0 rfl) ?_
  refine lv_iload_n hx hb dX1_read_1 rfl (lv_at hl 1 rfl) ?_
  refine pu_V (As := [.int (nI j)]) (rest := []) ⟨hx, hb, hml, hown, hts⟩ (c_X1_needGauge l s.heap D cI cJ cZ cG b P ad st j x hj hst1 hPB) (KW_puK D cI cJ cZ cG) hKW (cwV 1 hts gX1_read_X1_needGauge rfl rfl rfl (by decide +kernel) ⟨Nat.le_of_ble_eq_true rfl, Nat.le_of_ble_eq_true rfl⟩) (va_recv hK hB (ci := 1) (q0 := 0) rfl rfl) rfl hl.1 rfl (Nat.le_of_ble_eq_true rfl) dX1_read_2 ⟨Nat.zero_le _, Nat.zero_le _⟩ ?_
  refine W.eq (g2 := F0 m 5 ls [.ref ((ad j).1)]) rfl ?_
  refine lv_astore (lv' := [(4, .ref ((ad j).1)), (0, .ref b), (1, .int (nI j)), (2, .long b1)]) hx hb dX1_read_5 hl (by decide) rfl (fun ls hl => ?_)
  refine lv_aload hx hb dX1_read_7 (lv_at hl 0 rfl) ?_
  refine va_getN (D := D) (ci := 0) (v := .int (gK x)) (C := RX0) (T := TX0) (N := 11) hx hb hts hinX0 hown hK hg 0 rfl rfl 3 (by decide) (hKW.n 3 rfl rfl) (fun _ h9 => h9) rfl dX1_read_9 ?_
  refine lv_lload_n hx hb dX1_read_12 rfl (lv_at hl 3 rfl) ?_
  exact th_S (As := [.int (gK x), .long b1]) (rest := []) ⟨hx, hb, hml, hown, hts⟩ (t_X1_needGood l hst z s.heap hz D cI cJ cZ cG (gK x) b1 hnog) (KZ_puK D cI cJ cZ cG z s.heap) hKZ (va_cwS 2 hts gX1_read_X1_needGood rfl rfl rfl (by decide +kernel) ⟨Nat.le_of_ble_eq_true rfl, Nat.le_of_ble_eq_true rfl⟩) rfl hl.1 rfl (Nat.le_of_ble_eq_true rfl) dX1_read_13 ⟨Nat.le_of_ble_eq_true rfl, Nat.le_of_ble_eq_true rfl⟩ hex hlocks
set_option maxHeartbeats 4000000 in
set_option maxRecDepth 100000 in
theorem c_X1_read (l : Launch) (H0 : Heap) (D : va_G) (cI cJ cZ cG : ClassId) (b P : Nat) (ad : Nat → ga) (st : Nat → Option GS) (j : Nat) (x : GS) (b1 : Int64) (hj : j < 12) (hst1 : st j = some x) (hc : vp_in (gC x) 9) (hgd : e_X1_needGood (gK x) b1 = 0) (hPB : va_P D vwCl (BW cI cJ cG b P ad st) H0) (hD0 : va_D (fun _ => True) (BW cI cJ cG b P ad st)) : wr l yX1_read wsX1_read ({ frames := 6, cells := 0, slots := 0, locals := 141 }) [Value.ref b, Value.int (nI j), Value.long b1] (KW D cI cJ cZ cG) H0 (some (.long (F_X1_takeReading st x b1).1)) D (BW cI cJ cG b P ad st) (fun w => w = BW cI cJ cG b P ad (va_up st j (some (F_X1_takeReading st x b1).2))) 0 0 := by
  refine Met.ofW (cc := cX1_read) (maxL := 5) (ret := (some .long)) (by decide) rfl ?_
  intro p e s m args below meth c s₁ B hml hv
  obtain ⟨rfl, hH, hKW⟩ := hv
  have hx := B.exec
  have hb := B.bytes
  have hr := B.returns
  have hts := atoms_spec (ws := wsX1_read) B.pre
  have hown : s.vm.findClass RX1 = some m.cls := findClass_of_methodNamed B.named
  have hlocks := B.notSynchronized
  subst hH
  have hK := hKW.1
  have hl := lv_entry ([Value.ref b, Value.int (nI j), Value.long b1]) (n := 5) (Nat.le_of_ble_eq_true rfl)
  rw [lg_entry_eq]
  generalize (lg_sl ([Value.ref b, Value.int (nI j), Value.long b1]) ++ List.replicate (5 - (lg_sl ([Value.ref b, Value.int (nI j), Value.long b1])).length) Slot.unset).toArray = ls at hl ⊢
  have hl : lv_has ls 5 [(0, .ref b), (1, .int (nI j)), (2, .long b1)] := hl
  have hinX0 : ∀ w ∈ u_ws RX0 TX0 11, w ∈ wsX1_read := by decide +kernel
  have hB : va_P D vwCl [(b, .inr (1, [.ref P])), (P, .inl (cG, 12, .inr (.inr (.inr (.inr (pl ad st))))))] s.heap := BW_board hPB
  have hg : va_P D vwCl [((ad j).1, .inr (0, [.ref ((ad j).2.1), .ref ((ad j).2.2.1), .ref ((ad j).2.2.2), .int (gK x), .int (gC x), .long (gV x), .int (gM x), .long (gH x), .long (gL x), .int (gR x), .int (gW x)])), ((ad j).2.1, .inl (cI, 8, .inl (gSo x))), ((ad j).2.2.1, .inl (cI, 8, .inl (gSr x))), ((ad j).2.2.2, .inl (cJ, 8, .inr (.inl (gOp x))))] s.heap := BW_gauge hPB hj hst1
  have hD := hD0.self (sz := s.heap.size)
  generalize hAe : va_A (BW cI cJ cG b P ad st) s.heap.size = A at hD ⊢
  have hA : ∀ q : Nat, s.heap.size ≤ q → A q := fun q h => by rw [← hAe]; exact Or.inr h
  have hS : va_S A s.heap s.heap [] := va_S.rf
  refine lv_aload_n hx hb dX1_read_0 rfl (lv_at hl 0 rfl) ?_
  refine lv_iload_n hx hb dX1_read_1 rfl (lv_at hl 1 rfl) ?_
  refine pu_V (As := [.int (nI j)]) (rest := []) ⟨hx, hb, hml, hown, hts⟩ (c_X1_needGauge l s.heap D cI cJ cZ cG b P ad st j x hj hst1 hPB) (KW_puK D cI cJ cZ cG) hKW (cwV 1 hts gX1_read_X1_needGauge rfl rfl rfl (by decide +kernel) ⟨Nat.le_of_ble_eq_true rfl, Nat.le_of_ble_eq_true rfl⟩) (va_recv hK hB (ci := 1) (q0 := 0) rfl rfl) rfl hl.1 rfl (Nat.le_of_ble_eq_true rfl) dX1_read_2 ⟨Nat.zero_le _, Nat.zero_le _⟩ ?_
  refine W.eq (g2 := F0 m 5 ls [.ref ((ad j).1)]) rfl ?_
  refine lv_astore (lv' := [(4, .ref ((ad j).1)), (0, .ref b), (1, .int (nI j)), (2, .long b1)]) hx hb dX1_read_5 hl (by decide) rfl (fun ls hl => ?_)
  refine lv_aload hx hb dX1_read_7 (lv_at hl 0 rfl) ?_
  refine va_getN (D := D) (ci := 0) (v := .int (gK x)) (C := RX0) (T := TX0) (N := 11) hx hb hts hinX0 hown hK hg 0 rfl rfl 3 (by decide) (hKW.n 3 rfl rfl) (fun _ h9 => h9) rfl dX1_read_9 ?_
  refine lv_lload_n hx hb dX1_read_12 rfl (lv_at hl 3 rfl) ?_
  refine pu_S (As := [.int (gK x), .long b1]) (rest := []) ⟨hx, hb, hml, hown, hts⟩ (c_X1_needGood l s.heap (gK x) b1 hgd) puK_T trivial (va_cwS 2 hts gX1_read_X1_needGood rfl rfl rfl (by decide +kernel) ⟨Nat.le_of_ble_eq_true rfl, Nat.le_of_ble_eq_true rfl⟩) rfl hl.1 rfl (Nat.le_of_ble_eq_true rfl) dX1_read_13 ⟨Nat.zero_le _, Nat.zero_le _⟩ ?_
  refine W.eq (g2 := F0 m 16 ls []) rfl ?_
  refine lv_aload_n hx hb dX1_read_16 rfl (lv_at hl 1 rfl) ?_
  refine lv_aload hx hb dX1_read_17 (lv_at hl 0 rfl) ?_
  refine lv_lload_n hx hb dX1_read_19 rfl (lv_at hl 3 rfl) ?_
  refine wr_V (As := [.ref ((ad j).1), .long b1]) (rest := []) (Rw := []) ⟨hx, hb, hml, hown, hts⟩ (c_X1_takeReading l s.heap D cI cJ cZ cG b P ad st j x b1 hj hst1 hc hPB hD0) (KW_puK D cI cJ cZ cG) hKW (cwV 2 hts gX1_read_X1_takeReading rfl rfl rfl (by decide +kernel) ⟨Nat.le_of_ble_eq_true rfl, Nat.le_of_ble_eq_true rfl⟩) (va_recv hK hB (ci := 1) (q0 := 0) rfl rfl) rfl hl.1 rfl (Nat.le_of_ble_eq_true rfl) dX1_read_20 ⟨Nat.zero_le _, Nat.zero_le _⟩ (by rw [List.append_nil]; exact hPB) (by rw [List.append_nil]; exact hD) hS hA (fun w1 H locs hw hP hD hS => ?_)
  subst hw
  rw [List.append_nil] at hP hD
  refine W.eq (g2 := F0 m 23 ls [.long ((F_X1_takeReading st x b1).1)]) rfl ?_
  exact W.lret (v := (F_X1_takeReading st x b1).1) hx hb hr (fun t ht hW => ⟨rfl, _, rfl, by rw [ht]; exact hP, hD, (hS.F ht).1, (hS.F ht).2⟩) hS.2.2 dX1_read_23
set_option maxHeartbeats 4000000 in
set_option maxRecDepth 100000 in
theorem t_X1_hand_N (l : Launch) (hst : l.stackTraces = false) (z : Nat) (H0 : Heap) (hz : z ≤ H0.size) (D : va_G) (cI cJ cZ cG : ClassId) (b P : Nat) (ad : Nat → ga) (st : Nat → Option GS) (b0 : Int32) (b1 : Int32) (hn : gat st b0 = none) (hPB : va_P D vwCl (BW cI cJ cG b P ad st) H0) : th l yX1_hand wsX1_hand ({ frames := 7, cells := 1, slots := 6, locals := 104 }) [Value.ref b, Value.int b0, Value.int b1] (KZ D cI cJ cZ cG z H0) H0 "java/util/NoSuchElementException" := by
  refine vx_ofW (cc := cX1_hand) (maxL := 5) (ret := (some .long)) (by decide) rfl ?_
  intro p e s m args below meth c s₁ B hml hex hv
  obtain ⟨rfl, hH, hKZ⟩ := hv
  have hx := B.exec
  have hb := B.bytes
  have hr := B.returns
  have hts := atoms_spec (ws := wsX1_hand) B.pre
  have hown : s.vm.findClass RX1 = some m.cls := findClass_of_methodNamed B.named
  have hlocks := B.notSynchronized
  subst hH
  have hKW := hKZ.1
  have hK := hKW.1
  have hl := lv_entry ([Value.ref b, Value.int b0, Value.int b1]) (n := 5) (Nat.le_of_ble_eq_true rfl)
  rw [lg_entry_eq]
  generalize (lg_sl ([Value.ref b, Value.int b0, Value.int b1]) ++ List.replicate (5 - (lg_sl ([Value.ref b, Value.int b0, Value.int b1])).length) Slot.unset).toArray = ls at hl ⊢
  have hl : lv_has ls 5 [(0, .ref b), (1, .int b0), (2, .int b1)] := hl
  have hB : va_P D vwCl [(b, .inr (1, [.ref P])), (P, .inl (cG, 12, .inr (.inr (.inr (.inr (pl ad st))))))] s.heap := BW_board hPB
  refine lv_aload_n hx hb dX1_hand_0 rfl (lv_at hl 0 rfl) ?_
  refine lv_iload_n hx hb dX1_hand_1 rfl (lv_at hl 1 rfl) ?_
  exact th_V (As := [.int b0]) (rest := []) ⟨hx, hb, hml, hown, hts⟩ (t_X1_needGauge l hst z s.heap hz D cI cJ cZ cG b P ad st b0 hn hPB) (KZ_puK D cI cJ cZ cG z s.heap) hKZ (cwV 1 hts gX1_hand_X1_needGauge rfl rfl rfl (by decide +kernel) ⟨Nat.le_of_ble_eq_true rfl, Nat.le_of_ble_eq_true rfl⟩) (va_recv hK hB (ci := 1) (q0 := 0) rfl rfl) rfl hl.1 rfl (Nat.le_of_ble_eq_true rfl) dX1_hand_2 ⟨Nat.le_of_ble_eq_true rfl, Nat.le_of_ble_eq_true rfl⟩ hex hlocks
set_option maxHeartbeats 4000000 in
set_option maxRecDepth 100000 in
theorem t_X1_hand_M (l : Launch) (hst : l.stackTraces = false) (z : Nat) (H0 : Heap) (hz : z ≤ H0.size) (D : va_G) (cI cJ cZ cG : ClassId) (b P : Nat) (ad : Nat → ga) (st : Nat → Option GS) (j2 : Nat) (y : GS) (b1 : Int32) (hj2 : j2 < 12) (hst2 : st j2 = some y) (hn2 : gat st b1 = none) (hPB : va_P D vwCl (BW cI cJ cG b P ad st) H0) : th l yX1_hand wsX1_hand ({ frames := 7, cells := 1, slots := 6, locals := 104 }) [Value.ref b, Value.int (nI j2), Value.int b1] (KZ D cI cJ cZ cG z H0) H0 "java/util/NoSuchElementException" := by
  refine vx_ofW (cc := cX1_hand) (maxL := 5) (ret := (some .long)) (by decide) rfl ?_
  intro p e s m args below meth c s₁ B hml hex hv
  obtain ⟨rfl, hH, hKZ⟩ := hv
  have hx := B.exec
  have hb := B.bytes
  have hr := B.returns
  have hts := atoms_spec (ws := wsX1_hand) B.pre
  have hown : s.vm.findClass RX1 = some m.cls := findClass_of_methodNamed B.named
  have hlocks := B.notSynchronized
  subst hH
  have hKW := hKZ.1
  have hK := hKW.1
  have hl := lv_entry ([Value.ref b, Value.int (nI j2), Value.int b1]) (n := 5) (Nat.le_of_ble_eq_true rfl)
  rw [lg_entry_eq]
  generalize (lg_sl ([Value.ref b, Value.int (nI j2), Value.int b1]) ++ List.replicate (5 - (lg_sl ([Value.ref b, Value.int (nI j2), Value.int b1])).length) Slot.unset).toArray = ls at hl ⊢
  have hl : lv_has ls 5 [(0, .ref b), (1, .int (nI j2)), (2, .int b1)] := hl
  have hB : va_P D vwCl [(b, .inr (1, [.ref P])), (P, .inl (cG, 12, .inr (.inr (.inr (.inr (pl ad st))))))] s.heap := BW_board hPB
  have hg2 : va_P D vwCl [((ad j2).1, .inr (0, [.ref ((ad j2).2.1), .ref ((ad j2).2.2.1), .ref ((ad j2).2.2.2), .int (gK y), .int (gC y), .long (gV y), .int (gM y), .long (gH y), .long (gL y), .int (gR y), .int (gW y)])), ((ad j2).2.1, .inl (cI, 8, .inl (gSo y))), ((ad j2).2.2.1, .inl (cI, 8, .inl (gSr y))), ((ad j2).2.2.2, .inl (cJ, 8, .inr (.inl (gOp y))))] s.heap := BW_gauge hPB hj2 hst2
  refine lv_aload_n hx hb dX1_hand_0 rfl (lv_at hl 0 rfl) ?_
  refine lv_iload_n hx hb dX1_hand_1 rfl (lv_at hl 1 rfl) ?_
  refine pu_V (As := [.int (nI j2)]) (rest := []) ⟨hx, hb, hml, hown, hts⟩ (c_X1_needGauge l s.heap D cI cJ cZ cG b P ad st j2 y hj2 hst2 hPB) (KW_puK D cI cJ cZ cG) hKW (cwV 1 hts gX1_hand_X1_needGauge rfl rfl rfl (by decide +kernel) ⟨Nat.le_of_ble_eq_true rfl, Nat.le_of_ble_eq_true rfl⟩) (va_recv hK hB (ci := 1) (q0 := 0) rfl rfl) rfl hl.1 rfl (Nat.le_of_ble_eq_true rfl) dX1_hand_2 ⟨Nat.zero_le _, Nat.zero_le _⟩ ?_
  refine W.eq (g2 := F0 m 5 ls [.ref ((ad j2).1)]) rfl ?_
  refine lv_astore_n (lv' := [(3, .ref ((ad j2).1)), (0, .ref b), (1, .int (nI j2)), (2, .int b1)]) hx hb dX1_hand_5 rfl hl (by decide) rfl (fun ls hl => ?_)
  refine lv_aload_n hx hb dX1_hand_6 rfl (lv_at hl 1 rfl) ?_
  refine lv_iload_n hx hb dX1_hand_7 rfl (lv_at hl 3 rfl) ?_
  exact th_V (As := [.int b1]) (rest := []) ⟨hx, hb, hml, hown, hts⟩ (t_X1_needGauge l hst z s.heap hz D cI cJ cZ cG b P ad st b1 hn2 hPB) (KZ_puK D cI cJ cZ cG z s.heap) hKZ (cwV 1 hts gX1_hand_X1_needGauge rfl rfl rfl (by decide +kernel) ⟨Nat.le_of_ble_eq_true rfl, Nat.le_of_ble_eq_true rfl⟩) (va_recv hK hB (ci := 1) (q0 := 0) rfl rfl) rfl hl.1 rfl (Nat.le_of_ble_eq_true rfl) dX1_hand_8 ⟨Nat.le_of_ble_eq_true rfl, Nat.le_of_ble_eq_true rfl⟩ hex hlocks
set_option maxHeartbeats 4000000 in
set_option maxRecDepth 100000 in
theorem t_X1_hand_A (l : Launch) (hst : l.stackTraces = false) (z : Nat) (H0 : Heap) (hz : z ≤ H0.size) (D : va_G) (cI cJ cZ cG : ClassId) (b P : Nat) (ad : Nat → ga) (st : Nat → Option GS) (j : Nat) (x : GS) (hj : j < 12) (hst1 : st j = some x) (hPB : va_P D vwCl (BW cI cJ cG b P ad st) H0) : th l yX1_hand wsX1_hand ({ frames := 7, cells := 1, slots := 6, locals := 104 }) [Value.ref b, Value.int (nI j), Value.int (nI j)] (KZ D cI cJ cZ cG z H0) H0 "java/lang/IllegalArgumentException" := by
  refine vx_ofW (cc := cX1_hand) (maxL := 5) (ret := (some .long)) (by decide) rfl ?_
  intro p e s m args below meth c s₁ B hml hex hv
  obtain ⟨rfl, hH, hKZ⟩ := hv
  have hx := B.exec
  have hb := B.bytes
  have hr := B.returns
  have hts := atoms_spec (ws := wsX1_hand) B.pre
  have hown : s.vm.findClass RX1 = some m.cls := findClass_of_methodNamed B.named
  have hlocks := B.notSynchronized
  subst hH
  have hKW := hKZ.1
  have hK := hKW.1
  have hl := lv_entry ([Value.ref b, Value.int (nI j), Value.int (nI j)]) (n := 5) (Nat.le_of_ble_eq_true rfl)
  rw [lg_entry_eq]
  generalize (lg_sl ([Value.ref b, Value.int (nI j), Value.int (nI j)]) ++ List.replicate (5 - (lg_sl ([Value.ref b, Value.int (nI j), Value.int (nI j)])).length) Slot.unset).toArray = ls at hl ⊢
  have hl : lv_has ls 5 [(0, .ref b), (1, .int (nI j)), (2, .int (nI j))] := hl
  have hB : va_P D vwCl [(b, .inr (1, [.ref P])), (P, .inl (cG, 12, .inr (.inr (.inr (.inr (pl ad st))))))] s.heap := BW_board hPB
  have hg : va_P D vwCl [((ad j).1, .inr (0, [.ref ((ad j).2.1), .ref ((ad j).2.2.1), .ref ((ad j).2.2.2), .int (gK x), .int (gC x), .long (gV x), .int (gM x), .long (gH x), .long (gL x), .int (gR x), .int (gW x)])), ((ad j).2.1, .inl (cI, 8, .inl (gSo x))), ((ad j).2.2.1, .inl (cI, 8, .inl (gSr x))), ((ad j).2.2.2, .inl (cJ, 8, .inr (.inl (gOp x))))] s.heap := BW_gauge hPB hj hst1
  have hs : (nI j) = (nI j) := rfl
  refine lv_aload_n hx hb dX1_hand_0 rfl (lv_at hl 0 rfl) ?_
  refine lv_iload_n hx hb dX1_hand_1 rfl (lv_at hl 1 rfl) ?_
  refine pu_V (As := [.int (nI j)]) (rest := []) ⟨hx, hb, hml, hown, hts⟩ (c_X1_needGauge l s.heap D cI cJ cZ cG b P ad st j x hj hst1 hPB) (KW_puK D cI cJ cZ cG) hKW (cwV 1 hts gX1_hand_X1_needGauge rfl rfl rfl (by decide +kernel) ⟨Nat.le_of_ble_eq_true rfl, Nat.le_of_ble_eq_true rfl⟩) (va_recv hK hB (ci := 1) (q0 := 0) rfl rfl) rfl hl.1 rfl (Nat.le_of_ble_eq_true rfl) dX1_hand_2 ⟨Nat.zero_le _, Nat.zero_le _⟩ ?_
  refine W.eq (g2 := F0 m 5 ls [.ref ((ad j).1)]) rfl ?_
  refine lv_astore_n (lv' := [(3, .ref ((ad j).1)), (0, .ref b), (1, .int (nI j)), (2, .int (nI j))]) hx hb dX1_hand_5 rfl hl (by decide) rfl (fun ls hl => ?_)
  refine lv_aload_n hx hb dX1_hand_6 rfl (lv_at hl 1 rfl) ?_
  refine lv_iload_n hx hb dX1_hand_7 rfl (lv_at hl 3 rfl) ?_
  refine pu_V (As := [.int (nI j)]) (rest := []) ⟨hx, hb, hml, hown, hts⟩ (c_X1_needGauge l s.heap D cI cJ cZ cG b P ad st j x hj hst1 hPB) (KW_puK D cI cJ cZ cG) hKW (cwV 1 hts gX1_hand_X1_needGauge rfl rfl rfl (by decide +kernel) ⟨Nat.le_of_ble_eq_true rfl, Nat.le_of_ble_eq_true rfl⟩) (va_recv hK hB (ci := 1) (q0 := 0) rfl rfl) rfl hl.1 rfl (Nat.le_of_ble_eq_true rfl) dX1_hand_8 ⟨Nat.zero_le _, Nat.zero_le _⟩ ?_
  refine W.eq (g2 := F0 m 11 ls [.ref ((ad j).1)]) rfl ?_
  refine lv_astore (lv' := [(4, .ref ((ad j).1)), (3, .ref ((ad j).1)), (0, .ref b), (1, .int (nI j)), (2, .int (nI j))]) hx hb dX1_hand_11 hl (by decide) rfl (fun ls hl => ?_)
  refine lv_iload_n hx hb dX1_hand_13 rfl (lv_at hl 3 rfl) ?_
  refine lv_iload_n hx hb dX1_hand_14 rfl (lv_at hl 4 rfl) ?_
  refine lv_icmp_ne (tgt := 28) hx hb dX1_hand_15 (by decide) (fun z_9 => absurd hs z_9) (fun z_9 => ?_)
  exact thr_A (text := "a gauge can't hand on to itself") hx hb hst hown hts hKZ hz (List.mem_of_getElem? (i := 9) rfl) (by decide +kernel) (by decide +kernel) (fun w h9 => List.mem_cons_of_mem _ (List.mem_append_left _ (List.mem_append_right _ h9))) (by rw [hml]; exact hl.1) dX1_hand_18 dX1_hand_21 dX1_hand_22 dX1_hand_24 dX1_hand_27 hex (Nat.le_of_ble_eq_true rfl) (Nat.le_of_ble_eq_true rfl) (Nat.le_of_ble_eq_true rfl) (Nat.le_of_ble_eq_true rfl) hlocks
set_option maxHeartbeats 4000000 in
set_option maxRecDepth 100000 in
theorem t_X1_hand_B (l : Launch) (hst : l.stackTraces = false) (z : Nat) (H0 : Heap) (hz : z ≤ H0.size) (D : va_G) (cI cJ cZ cG : ClassId) (b P : Nat) (ad : Nat → ga) (st : Nat → Option GS) (j : Nat) (x : GS) (j2 : Nat) (y : GS) (hj : j < 12) (hst1 : st j = some x) (hj2 : j2 < 12) (hst2 : st j2 = some y) (hs : ¬ (nI j2) = (nI j)) (hcan : (f_X1_canHandOn (gK y) (gK x)) = 0) (hPB : va_P D vwCl (BW cI cJ cG b P ad st) H0) : th l yX1_hand wsX1_hand ({ frames := 7, cells := 1, slots := 6, locals := 104 }) [Value.ref b, Value.int (nI j2), Value.int (nI j)] (KZ D cI cJ cZ cG z H0) H0 "java/lang/IllegalArgumentException" := by
  refine vx_ofW (cc := cX1_hand) (maxL := 5) (ret := (some .long)) (by decide) rfl ?_
  intro p e s m args below meth c s₁ B hml hex hv
  obtain ⟨rfl, hH, hKZ⟩ := hv
  have hx := B.exec
  have hb := B.bytes
  have hr := B.returns
  have hts := atoms_spec (ws := wsX1_hand) B.pre
  have hown : s.vm.findClass RX1 = some m.cls := findClass_of_methodNamed B.named
  have hlocks := B.notSynchronized
  subst hH
  have hKW := hKZ.1
  have hK := hKW.1
  have hl := lv_entry ([Value.ref b, Value.int (nI j2), Value.int (nI j)]) (n := 5) (Nat.le_of_ble_eq_true rfl)
  rw [lg_entry_eq]
  generalize (lg_sl ([Value.ref b, Value.int (nI j2), Value.int (nI j)]) ++ List.replicate (5 - (lg_sl ([Value.ref b, Value.int (nI j2), Value.int (nI j)])).length) Slot.unset).toArray = ls at hl ⊢
  have hl : lv_has ls 5 [(0, .ref b), (1, .int (nI j2)), (2, .int (nI j))] := hl
  have hinX0 : ∀ w ∈ u_ws RX0 TX0 11, w ∈ wsX1_hand := by decide +kernel
  have hB : va_P D vwCl [(b, .inr (1, [.ref P])), (P, .inl (cG, 12, .inr (.inr (.inr (.inr (pl ad st))))))] s.heap := BW_board hPB
  have hg : va_P D vwCl [((ad j).1, .inr (0, [.ref ((ad j).2.1), .ref ((ad j).2.2.1), .ref ((ad j).2.2.2), .int (gK x), .int (gC x), .long (gV x), .int (gM x), .long (gH x), .long (gL x), .int (gR x), .int (gW x)])), ((ad j).2.1, .inl (cI, 8, .inl (gSo x))), ((ad j).2.2.1, .inl (cI, 8, .inl (gSr x))), ((ad j).2.2.2, .inl (cJ, 8, .inr (.inl (gOp x))))] s.heap := BW_gauge hPB hj hst1
  have hg2 : va_P D vwCl [((ad j2).1, .inr (0, [.ref ((ad j2).2.1), .ref ((ad j2).2.2.1), .ref ((ad j2).2.2.2), .int (gK y), .int (gC y), .long (gV y), .int (gM y), .long (gH y), .long (gL y), .int (gR y), .int (gW y)])), ((ad j2).2.1, .inl (cI, 8, .inl (gSo y))), ((ad j2).2.2.1, .inl (cI, 8, .inl (gSr y))), ((ad j2).2.2.2, .inl (cJ, 8, .inr (.inl (gOp y))))] s.heap := BW_gauge hPB hj2 hst2
  refine lv_aload_n hx hb dX1_hand_0 rfl (lv_at hl 0 rfl) ?_
  refine lv_iload_n hx hb dX1_hand_1 rfl (lv_at hl 1 rfl) ?_
  refine pu_V (As := [.int (nI j2)]) (rest := []) ⟨hx, hb, hml, hown, hts⟩ (c_X1_needGauge l s.heap D cI cJ cZ cG b P ad st j2 y hj2 hst2 hPB) (KW_puK D cI cJ cZ cG) hKW (cwV 1 hts gX1_hand_X1_needGauge rfl rfl rfl (by decide +kernel) ⟨Nat.le_of_ble_eq_true rfl, Nat.le_of_ble_eq_true rfl⟩) (va_recv hK hB (ci := 1) (q0 := 0) rfl rfl) rfl hl.1 rfl (Nat.le_of_ble_eq_true rfl) dX1_hand_2 ⟨Nat.zero_le _, Nat.zero_le _⟩ ?_
  refine W.eq (g2 := F0 m 5 ls [.ref ((ad j2).1)]) rfl ?_
  refine lv_astore_n (lv' := [(3, .ref ((ad j2).1)), (0, .ref b), (1, .int (nI j2)), (2, .int (nI j))]) hx hb dX1_hand_5 rfl hl (by decide) rfl (fun ls hl => ?_)
  refine lv_aload_n hx hb dX1_hand_6 rfl (lv_at hl 1 rfl) ?_
  refine lv_iload_n hx hb dX1_hand_7 rfl (lv_at hl 3 rfl) ?_
  refine pu_V (As := [.int (nI j)]) (rest := []) ⟨hx, hb, hml, hown, hts⟩ (c_X1_needGauge l s.heap D cI cJ cZ cG b P ad st j x hj hst1 hPB) (KW_puK D cI cJ cZ cG) hKW (cwV 1 hts gX1_hand_X1_needGauge rfl rfl rfl (by decide +kernel) ⟨Nat.le_of_ble_eq_true rfl, Nat.le_of_ble_eq_true rfl⟩) (va_recv hK hB (ci := 1) (q0 := 0) rfl rfl) rfl hl.1 rfl (Nat.le_of_ble_eq_true rfl) dX1_hand_8 ⟨Nat.zero_le _, Nat.zero_le _⟩ ?_
  refine W.eq (g2 := F0 m 11 ls [.ref ((ad j).1)]) rfl ?_
  refine lv_astore (lv' := [(4, .ref ((ad j).1)), (3, .ref ((ad j2).1)), (0, .ref b), (1, .int (nI j2)), (2, .int (nI j))]) hx hb dX1_hand_11 hl (by decide) rfl (fun ls hl => ?_)
  refine lv_iload_n hx hb dX1_hand_13 rfl (lv_at hl 3 rfl) ?_
  refine lv_iload_n hx hb dX1_hand_14 rfl (lv_at hl 4 rfl) ?_
  refine lv_icmp_ne (tgt := 28) hx hb dX1_hand_15 (by decide) (fun z_9 => ?_) (fun z_9 => absurd z_9 hs)
  refine lv_aload_n hx hb dX1_hand_28 rfl (lv_at hl 1 rfl) ?_
  refine va_getN (D := D) (ci := 0) (v := .int (gK y)) (C := RX0) (T := TX0) (N := 11) hx hb hts hinX0 hown hK hg2 0 rfl rfl 3 (by decide) (hKW.n 3 rfl rfl) (fun _ h9 => h9) rfl dX1_hand_29 ?_
  refine lv_aload hx hb dX1_hand_32 (lv_at hl 0 rfl) ?_
  refine va_getN (D := D) (ci := 0) (v := .int (gK x)) (C := RX0) (T := TX0) (N := 11) hx hb hts hinX0 hown hK hg 0 rfl rfl 3 (by decide) (hKW.n 3 rfl rfl) (fun _ h9 => h9) rfl dX1_hand_34 ?_
  refine pu_S (As := [.int (gK y), .int (gK x)]) (rest := []) ⟨hx, hb, hml, hown, hts⟩ (c_X1_canHandOn l s.heap (gK y) (gK x)) puK_T trivial (va_cwS 2 hts gX1_hand_X1_canHandOn rfl rfl rfl (by decide +kernel) ⟨Nat.le_of_ble_eq_true rfl, Nat.le_of_ble_eq_true rfl⟩) rfl hl.1 rfl (Nat.le_of_ble_eq_true rfl) dX1_hand_37 ⟨Nat.zero_le _, Nat.zero_le _⟩ ?_
  refine W.eq (g2 := F0 m 40 ls [.int (f_X1_canHandOn (gK y) (gK x))]) rfl ?_
  refine lv_if_ne (tgt := 53) hx hb dX1_hand_40 (by decide) (fun z_9 => absurd hcan z_9) (fun z_9 => ?_)
  exact thr_A (text := "these kinds can't hand on") hx hb hst hown hts hKZ hz (List.mem_of_getElem? (i := 10) rfl) (by decide +kernel) (by decide +kernel) (fun w h9 => List.mem_cons_of_mem _ (List.mem_append_left _ (List.mem_append_right _ h9))) (by rw [hml]; exact hl.1) dX1_hand_43 dX1_hand_46 dX1_hand_47 dX1_hand_49 dX1_hand_52 hex (Nat.le_of_ble_eq_true rfl) (Nat.le_of_ble_eq_true rfl) (Nat.le_of_ble_eq_true rfl) (Nat.le_of_ble_eq_true rfl) hlocks
set_option maxHeartbeats 4000000 in
set_option maxRecDepth 100000 in
theorem c_X1_hand (l : Launch) (H0 : Heap) (D : va_G) (cI cJ cZ cG : ClassId) (b P : Nat) (ad : Nat → ga) (st : Nat → Option GS) (j : Nat) (x : GS) (j2 : Nat) (y : GS) (hj : j < 12) (hst1 : st j = some x) (hj2 : j2 < 12) (hst2 : st j2 = some y) (hc : vp_in (gC x) 9) (hs : ¬ (nI j2) = (nI j)) (hcan : ¬ (f_X1_canHandOn (gK y) (gK x)) = 0) (hPB : va_P D vwCl (BW cI cJ cG b P ad st) H0) (hD0 : va_D (fun _ => True) (BW cI cJ cG b P ad st)) : wr l yX1_hand wsX1_hand ({ frames := 6, cells := 0, slots := 0, locals := 152 }) [Value.ref b, Value.int (nI j2), Value.int (nI j)] (KW D cI cJ cZ cG) H0 (some (.long (F_X1_takeReading st x (f_X1_handedOn (gV y) (gK y) (gK x))).1)) D (BW cI cJ cG b P ad st) (fun w => w = BW cI cJ cG b P ad (va_up st j (some (F_X1_takeReading st x (f_X1_handedOn (gV y) (gK y) (gK x))).2))) 0 0 := by
  refine Met.ofW (cc := cX1_hand) (maxL := 5) (ret := (some .long)) (by decide) rfl ?_
  intro p e s m args below meth c s₁ B hml hv
  obtain ⟨rfl, hH, hKW⟩ := hv
  have hx := B.exec
  have hb := B.bytes
  have hr := B.returns
  have hts := atoms_spec (ws := wsX1_hand) B.pre
  have hown : s.vm.findClass RX1 = some m.cls := findClass_of_methodNamed B.named
  have hlocks := B.notSynchronized
  subst hH
  have hK := hKW.1
  have hl := lv_entry ([Value.ref b, Value.int (nI j2), Value.int (nI j)]) (n := 5) (Nat.le_of_ble_eq_true rfl)
  rw [lg_entry_eq]
  generalize (lg_sl ([Value.ref b, Value.int (nI j2), Value.int (nI j)]) ++ List.replicate (5 - (lg_sl ([Value.ref b, Value.int (nI j2), Value.int (nI j)])).length) Slot.unset).toArray = ls at hl ⊢
  have hl : lv_has ls 5 [(0, .ref b), (1, .int (nI j2)), (2, .int (nI j))] := hl
  have hinX0 : ∀ w ∈ u_ws RX0 TX0 11, w ∈ wsX1_hand := by decide +kernel
  have hB : va_P D vwCl [(b, .inr (1, [.ref P])), (P, .inl (cG, 12, .inr (.inr (.inr (.inr (pl ad st))))))] s.heap := BW_board hPB
  have hg : va_P D vwCl [((ad j).1, .inr (0, [.ref ((ad j).2.1), .ref ((ad j).2.2.1), .ref ((ad j).2.2.2), .int (gK x), .int (gC x), .long (gV x), .int (gM x), .long (gH x), .long (gL x), .int (gR x), .int (gW x)])), ((ad j).2.1, .inl (cI, 8, .inl (gSo x))), ((ad j).2.2.1, .inl (cI, 8, .inl (gSr x))), ((ad j).2.2.2, .inl (cJ, 8, .inr (.inl (gOp x))))] s.heap := BW_gauge hPB hj hst1
  have hg2 : va_P D vwCl [((ad j2).1, .inr (0, [.ref ((ad j2).2.1), .ref ((ad j2).2.2.1), .ref ((ad j2).2.2.2), .int (gK y), .int (gC y), .long (gV y), .int (gM y), .long (gH y), .long (gL y), .int (gR y), .int (gW y)])), ((ad j2).2.1, .inl (cI, 8, .inl (gSo y))), ((ad j2).2.2.1, .inl (cI, 8, .inl (gSr y))), ((ad j2).2.2.2, .inl (cJ, 8, .inr (.inl (gOp y))))] s.heap := BW_gauge hPB hj2 hst2
  have hD := hD0.self (sz := s.heap.size)
  generalize hAe : va_A (BW cI cJ cG b P ad st) s.heap.size = A at hD ⊢
  have hA : ∀ q : Nat, s.heap.size ≤ q → A q := fun q h => by rw [← hAe]; exact Or.inr h
  have hS : va_S A s.heap s.heap [] := va_S.rf
  refine lv_aload_n hx hb dX1_hand_0 rfl (lv_at hl 0 rfl) ?_
  refine lv_iload_n hx hb dX1_hand_1 rfl (lv_at hl 1 rfl) ?_
  refine pu_V (As := [.int (nI j2)]) (rest := []) ⟨hx, hb, hml, hown, hts⟩ (c_X1_needGauge l s.heap D cI cJ cZ cG b P ad st j2 y hj2 hst2 hPB) (KW_puK D cI cJ cZ cG) hKW (cwV 1 hts gX1_hand_X1_needGauge rfl rfl rfl (by decide +kernel) ⟨Nat.le_of_ble_eq_true rfl, Nat.le_of_ble_eq_true rfl⟩) (va_recv hK hB (ci := 1) (q0 := 0) rfl rfl) rfl hl.1 rfl (Nat.le_of_ble_eq_true rfl) dX1_hand_2 ⟨Nat.zero_le _, Nat.zero_le _⟩ ?_
  refine W.eq (g2 := F0 m 5 ls [.ref ((ad j2).1)]) rfl ?_
  refine lv_astore_n (lv' := [(3, .ref ((ad j2).1)), (0, .ref b), (1, .int (nI j2)), (2, .int (nI j))]) hx hb dX1_hand_5 rfl hl (by decide) rfl (fun ls hl => ?_)
  refine lv_aload_n hx hb dX1_hand_6 rfl (lv_at hl 1 rfl) ?_
  refine lv_iload_n hx hb dX1_hand_7 rfl (lv_at hl 3 rfl) ?_
  refine pu_V (As := [.int (nI j)]) (rest := []) ⟨hx, hb, hml, hown, hts⟩ (c_X1_needGauge l s.heap D cI cJ cZ cG b P ad st j x hj hst1 hPB) (KW_puK D cI cJ cZ cG) hKW (cwV 1 hts gX1_hand_X1_needGauge rfl rfl rfl (by decide +kernel) ⟨Nat.le_of_ble_eq_true rfl, Nat.le_of_ble_eq_true rfl⟩) (va_recv hK hB (ci := 1) (q0 := 0) rfl rfl) rfl hl.1 rfl (Nat.le_of_ble_eq_true rfl) dX1_hand_8 ⟨Nat.zero_le _, Nat.zero_le _⟩ ?_
  refine W.eq (g2 := F0 m 11 ls [.ref ((ad j).1)]) rfl ?_
  refine lv_astore (lv' := [(4, .ref ((ad j).1)), (3, .ref ((ad j2).1)), (0, .ref b), (1, .int (nI j2)), (2, .int (nI j))]) hx hb dX1_hand_11 hl (by decide) rfl (fun ls hl => ?_)
  refine lv_iload_n hx hb dX1_hand_13 rfl (lv_at hl 3 rfl) ?_
  refine lv_iload_n hx hb dX1_hand_14 rfl (lv_at hl 4 rfl) ?_
  refine lv_icmp_ne (tgt := 28) hx hb dX1_hand_15 (by decide) (fun z_9 => ?_) (fun z_9 => absurd z_9 hs)
  refine lv_aload_n hx hb dX1_hand_28 rfl (lv_at hl 1 rfl) ?_
  refine va_getN (D := D) (ci := 0) (v := .int (gK y)) (C := RX0) (T := TX0) (N := 11) hx hb hts hinX0 hown hK hg2 0 rfl rfl 3 (by decide) (hKW.n 3 rfl rfl) (fun _ h9 => h9) rfl dX1_hand_29 ?_
  refine lv_aload hx hb dX1_hand_32 (lv_at hl 0 rfl) ?_
  refine va_getN (D := D) (ci := 0) (v := .int (gK x)) (C := RX0) (T := TX0) (N := 11) hx hb hts hinX0 hown hK hg 0 rfl rfl 3 (by decide) (hKW.n 3 rfl rfl) (fun _ h9 => h9) rfl dX1_hand_34 ?_
  refine pu_S (As := [.int (gK y), .int (gK x)]) (rest := []) ⟨hx, hb, hml, hown, hts⟩ (c_X1_canHandOn l s.heap (gK y) (gK x)) puK_T trivial (va_cwS 2 hts gX1_hand_X1_canHandOn rfl rfl rfl (by decide +kernel) ⟨Nat.le_of_ble_eq_true rfl, Nat.le_of_ble_eq_true rfl⟩) rfl hl.1 rfl (Nat.le_of_ble_eq_true rfl) dX1_hand_37 ⟨Nat.zero_le _, Nat.zero_le _⟩ ?_
  refine W.eq (g2 := F0 m 40 ls [.int (f_X1_canHandOn (gK y) (gK x))]) rfl ?_
  refine lv_if_ne (tgt := 53) hx hb dX1_hand_40 (by decide) (fun z_9 => ?_) (fun z_9 => absurd z_9 hcan)
  refine lv_aload_n hx hb dX1_hand_53 rfl (lv_at hl 2 rfl) ?_
  refine lv_aload hx hb dX1_hand_54 (lv_at hl 0 rfl) ?_
  refine lv_aload_n hx hb dX1_hand_56 rfl (lv_at hl 1 rfl) ?_
  refine va_getN (D := D) (ci := 0) (v := .long (gV y)) (C := RX0) (T := TX0) (N := 11) hx hb hts hinX0 hown hK hg2 0 rfl rfl 5 (by decide) (hKW.n 5 rfl rfl) (fun _ h9 => h9) rfl dX1_hand_57 ?_
  refine lv_aload_n hx hb dX1_hand_60 rfl (lv_at hl 1 rfl) ?_
  refine va_getN (D := D) (ci := 0) (v := .int (gK y)) (C := RX0) (T := TX0) (N := 11) hx hb hts hinX0 hown hK hg2 0 rfl rfl 3 (by decide) (hKW.n 3 rfl rfl) (fun _ h9 => h9) rfl dX1_hand_61 ?_
  refine lv_aload hx hb dX1_hand_64 (lv_at hl 0 rfl) ?_
  refine va_getN (D := D) (ci := 0) (v := .int (gK x)) (C := RX0) (T := TX0) (N := 11) hx hb hts hinX0 hown hK hg 0 rfl rfl 3 (by decide) (hKW.n 3 rfl rfl) (fun _ h9 => h9) rfl dX1_hand_66 ?_
  refine pu_S (As := [.long (gV y), .int (gK y), .int (gK x)]) (rest := [.ref ((ad j).1), .ref b]) ⟨hx, hb, hml, hown, hts⟩ (c_X1_handedOn l s.heap (gV y) (gK y) (gK x)) puK_T trivial (va_cwS 3 hts gX1_hand_X1_handedOn rfl rfl rfl (by decide +kernel) ⟨Nat.le_of_ble_eq_true rfl, Nat.le_of_ble_eq_true rfl⟩) rfl hl.1 rfl (Nat.le_of_ble_eq_true rfl) dX1_hand_69 ⟨Nat.zero_le _, Nat.zero_le _⟩ ?_
  refine W.eq (g2 := F0 m 72 ls [.long (f_X1_handedOn (gV y) (gK y) (gK x)), .ref ((ad j).1), .ref b]) rfl ?_
  refine wr_V (As := [.ref ((ad j).1), .long (f_X1_handedOn (gV y) (gK y) (gK x))]) (rest := []) (Rw := []) ⟨hx, hb, hml, hown, hts⟩ (c_X1_takeReading l s.heap D cI cJ cZ cG b P ad st j x (f_X1_handedOn (gV y) (gK y) (gK x)) hj hst1 hc hPB hD0) (KW_puK D cI cJ cZ cG) hKW (cwV 2 hts gX1_hand_X1_takeReading rfl rfl rfl (by decide +kernel) ⟨Nat.le_of_ble_eq_true rfl, Nat.le_of_ble_eq_true rfl⟩) (va_recv hK hB (ci := 1) (q0 := 0) rfl rfl) rfl hl.1 rfl (Nat.le_of_ble_eq_true rfl) dX1_hand_72 ⟨Nat.zero_le _, Nat.zero_le _⟩ (by rw [List.append_nil]; exact hPB) (by rw [List.append_nil]; exact hD) hS hA (fun w1 H locs hw hP hD hS => ?_)
  subst hw
  rw [List.append_nil] at hP hD
  refine W.eq (g2 := F0 m 75 ls [.long ((F_X1_takeReading st x (f_X1_handedOn (gV y) (gK y) (gK x))).1)]) rfl ?_
  exact W.lret (v := (F_X1_takeReading st x (f_X1_handedOn (gV y) (gK y) (gK x))).1) hx hb hr (fun t ht hW => ⟨rfl, _, rfl, by rw [ht]; exact hP, hD, (hS.F ht).1, (hS.F ht).2⟩) hS.2.2 dX1_hand_75
