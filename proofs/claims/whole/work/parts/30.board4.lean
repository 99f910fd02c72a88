set_option maxHeartbeats 4000000 in
set_option maxRecDepth 100000 in
theorem t_X1_fit_N (l : Launch) (hst : l.stackTraces = false) (z : Nat) (H0 : Heap) (hz : z ≤ H0.size) (D : va_G) (cI cJ cZ cG : ClassId) (b P : Nat) (ad : Nat → ga) (st : Nat → Option GS) (b0 b1 : Int32) (hp : (f_X1_isPlace b0) = 0) (hPB : va_P D vwCl (BW cI cJ cG b P ad st) H0) : th l yX1_fit wsX1_fit ({ frames := 6, cells := 1, slots := 6, locals := 82 }) [Value.ref b, Value.int b0, Value.int b1] (KZ D cI cJ cZ cG z H0) H0 "java/util/NoSuchElementException" := by
  refine vx_ofW (cc := cX1_fit) (maxL := 4) (ret := (some .boolean)) (by decide) rfl ?_
  intro p e s m args below meth c s₁ B hml hex hv
  obtain ⟨rfl, hH, hKZ⟩ := hv
  have hx := B.exec
  have hb := B.bytes
  have hr := B.returns
  have hts := atoms_spec (ws := wsX1_fit) B.pre
  have hown : s.vm.findClass RX1 = some m.cls := findClass_of_methodNamed B.named
  have hlocks := B.notSynchronized
  subst hH
  have hKW := hKZ.1
  have hK := hKW.1
  have hl := lv_entry ([Value.ref b, Value.int b0, Value.int b1]) (n := 4) (Nat.le_of_ble_eq_true rfl)
  rw [lg_entry_eq]
  generalize (lg_sl ([Value.ref b, Value.int b0, Value.int b1]) ++ List.replicate (4 - (lg_sl ([Value.ref b, Value.int b0, Value.int b1])).length) Slot.unset).toArray = ls at hl ⊢
  have hl : lv_has ls 4 [(0, .ref b), (1, .int b0), (2, .int b1)] := hl
  have hB : va_P D vwCl [(b, .inr (1, [.ref P])), (P, .inl (cG, 12, .inr (.inr (.inr (.inr (pl ad st))))))] s.heap := BW_board hPB
  refine lv_iload_n hx hb dX1_fit_0 rfl (lv_at hl 1 rfl) ?_
  refine pu_S (As := [.int b0]) (rest := []) ⟨hx, hb, hml, hown, hts⟩ (c_X1_isPlace l s.heap b0) puK_T trivial (va_cwS 1 hts gX1_fit_X1_isPlace rfl rfl rfl (by decide +kernel) ⟨Nat.le_of_ble_eq_true rfl, Nat.le_of_ble_eq_true rfl⟩) rfl hl.1 rfl (Nat.le_of_ble_eq_true rfl) dX1_fit_1 ⟨Nat.zero_le _, Nat.zero_le _⟩ ?_
  refine W.eq (g2 := F0 m 4 ls [.int (f_X1_isPlace b0)]) rfl ?_
  refine lv_if_ne (tgt := 17) hx hb dX1_fit_4 (by decide) (fun z_9 => absurd hp z_9) (fun z_9 => ?_)
  exact thr_N (text := "there is no such place") hx hb hst hown hts hKZ hz (List.mem_of_getElem? (i := 0) rfl) (by decide +kernel) (by decide +kernel) (fun w h9 => List.mem_cons_of_mem _ (List.mem_append_left _ (List.mem_append_left _ (List.mem_append_right _ h9)))) (by rw [hml]; exact hl.1) dX1_fit_7 dX1_fit_10 dX1_fit_11 dX1_fit_13 dX1_fit_16 hex (Nat.le_of_ble_eq_true rfl) (Nat.le_of_ble_eq_true rfl) (Nat.le_of_ble_eq_true rfl) (Nat.le_of_ble_eq_true rfl) hlocks
set_option maxHeartbeats 4000000 in
set_option maxRecDepth 100000 in
theorem t_X1_fit_A (l : Launch) (hst : l.stackTraces = false) (z : Nat) (H0 : Heap) (hz : z ≤ H0.size) (D : va_G) (cI cJ cZ cG : ClassId) (b P : Nat) (ad : Nat → ga) (st : Nat → Option GS) (b0 b1 : Int32) (hp : ¬ (f_X1_isPlace b0) = 0) (hno : e_X1_needKind b1 = 2) (hPB : va_P D vwCl (BW cI cJ cG b P ad st) H0) : th l yX1_fit wsX1_fit ({ frames := 7, cells := 1, slots := 6, locals := 102 }) [Value.ref b, Value.int b0, Value.int b1] (KZ D cI cJ cZ cG z H0) H0 "java/lang/IllegalArgumentException" := by
  refine vx_ofW (cc := cX1_fit) (maxL := 4) (ret := (some .boolean)) (by decide) rfl ?_
  intro p e s m args below meth c s₁ B hml hex hv
  obtain ⟨rfl, hH, hKZ⟩ := hv
  have hx := B.exec
  have hb := B.bytes
  have hr := B.returns
  have hts := atoms_spec (ws := wsX1_fit) B.pre
  have hown : s.vm.findClass RX1 = some m.cls := findClass_of_methodNamed B.named
  have hlocks := B.notSynchronized
  subst hH
  have hKW := hKZ.1
  have hK := hKW.1
  have hl := lv_entry ([Value.ref b, Value.int b0, Value.int b1]) (n := 4) (Nat.le_of_ble_eq_true rfl)
  rw [lg_entry_eq]
  generalize (lg_sl ([Value.ref b, Value.int b0, Value.int b1]) ++ List.replicate (4 - (lg_sl ([Value.ref b, Value.int b0, Value.int b1])).length) Slot.unset).toArray = ls at hl ⊢
  have hl : lv_has ls 4 [(0, .ref b), (1, .int b0), (2, .int b1)] := hl
  have hB : va_P D vwCl [(b, .inr (1, [.ref P])), (P, .inl (cG, 12, .inr (.inr (.inr (.inr (pl ad st))))))] s.heap := BW_board hPB
  refine lv_iload_n hx hb dX1_fit_0 rfl (lv_at hl 1 rfl) ?_
  refine pu_S (As := [.int b0]) (rest := []) ⟨hx, hb, hml, hown, hts⟩ (c_X1_isPlace l s.heap b0) puK_T trivial (va_cwS 1 hts gX1_fit_X1_isPlace rfl rfl rfl (by decide +kernel) ⟨Nat.le_of_ble_eq_true rfl, Nat.le_of_ble_eq_true rfl⟩) rfl hl.1 rfl (Nat.le_of_ble_eq_true rfl) dX1_fit_1 ⟨Nat.zero_le _, Nat.zero_le _⟩ ?_
  refine W.eq (g2 := F0 m 4 ls [.int (f_X1_isPlace b0)]) rfl ?_
  refine lv_if_ne (tgt := 17) hx hb dX1_fit_4 (by decide) (fun z_9 => ?_) (fun z_9 => absurd z_9 hp)
  refine lv_iload_n hx hb dX1_fit_17 rfl (lv_at hl 2 rfl) ?_
  exact th_S (As := [.int b1]) (rest := []) ⟨hx, hb, hml, hown, hts⟩ (t_X1_needKind l hst z s.heap hz D cI cJ cZ cG b1 hno) (KZ_puK D cI cJ cZ cG z s.heap) hKZ (va_cwS 1 hts gX1_fit_X1_needKind rfl rfl rfl (by decide +kernel) ⟨Nat.le_of_ble_eq_true rfl, Nat.le_of_ble_eq_true rfl⟩) rfl hl.1 rfl (Nat.le_of_ble_eq_true rfl) dX1_fit_18 ⟨Nat.le_of_ble_eq_true rfl, Nat.le_of_ble_eq_true rfl⟩ hex hlocks
set_option maxHeartbeats 4000000 in
set_option maxRecDepth 100000 in
theorem t_X1_fit_S (l : Launch) (hst : l.stackTraces = false) (z : Nat) (H0 : Heap) (hz : z ≤ H0.size) (D : va_G) (cI cJ cZ cG : ClassId) (b P : Nat) (ad : Nat → ga) (st : Nat → Option GS) (j : Nat) (x : GS) (b1 : Int32) (hI : BI st) (hj : j < 12) (hst1 : st j = some x) (hc : vp_in (gC x) 9) (hok : e_X1_needKind b1 = 0) (hk : ¬ (gK x) = b1) (htk : ¬ (f_X1_stepsTaking st (nI j)) ≤ (f_X0_ownStepsTaking x (nI j))) (hPB : va_P D vwCl (BW cI cJ cG b P ad st) H0) : th l yX1_fit wsX1_fit ({ frames := 7, cells := 1, slots := 6, locals := 102 }) [Value.ref b, Value.int (nI j), Value.int b1] (KZ D cI cJ cZ cG z H0) H0 "java/lang/IllegalStateException" := by
  refine vx_ofW (cc := cX1_fit) (maxL := 4) (ret := (some .boolean)) (by decide) rfl ?_
  intro p e s m args below meth c s₁ B hml hex hv
  obtain ⟨rfl, hH, hKZ⟩ := hv
  have hx := B.exec
  have hb := B.bytes
  have hr := B.returns
  have hts := atoms_spec (ws := wsX1_fit) B.pre
  have hown : s.vm.findClass RX1 = some m.cls := findClass_of_methodNamed B.named
  have hlocks := B.notSynchronized
  subst hH
  have hKW := hKZ.1
  have hK := hKW.1
  have hl := lv_entry ([Value.ref b, Value.int (nI j), Value.int b1]) (n := 4) (Nat.le_of_ble_eq_true rfl)
  rw [lg_entry_eq]
  generalize (lg_sl ([Value.ref b, Value.int (nI j), Value.int b1]) ++ List.replicate (4 - (lg_sl ([Value.ref b, Value.int (nI j), Value.int b1])).length) Slot.unset).toArray = ls at hl ⊢
  have hl : lv_has ls 4 [(0, .ref b), (1, .int (nI j)), (2, .int b1)] := hl
  have hinX0 : ∀ w ∈ u_ws RX0 TX0 11, w ∈ wsX1_fit := by decide +kernel
  have hB : va_P D vwCl [(b, .inr (1, [.ref P])), (P, .inl (cG, 12, .inr (.inr (.inr (.inr (pl ad st))))))] s.heap := BW_board hPB
  have hg : va_P D vwCl [((ad j).1, .inr (0, [.ref ((ad j).2.1), .ref ((ad j).2.2.1), .ref ((ad j).2.2.2), .int (gK x), .int (gC x), .long (gV x), .int (gM x), .long (gH x), .long (gL x), .int (gR x), .int (gW x)])), ((ad j).2.1, .inl (cI, 8, .inl (gSo x))), ((ad j).2.2.1, .inl (cI, 8, .inl (gSr x))), ((ad j).2.2.2, .inl (cJ, 8, .inr (.inl (gOp x))))] s.heap := BW_gauge hPB hj hst1
  have cp : ¬ (f_X1_isPlace (nI j)) = 0 := place_nI hj
  refine lv_iload_n hx hb dX1_fit_0 rfl (lv_at hl 1 rfl) ?_
  refine pu_S (As := [.int (nI j)]) (rest := []) ⟨hx, hb, hml, hown, hts⟩ (c_X1_isPlace l s.heap (nI j)) puK_T trivial (va_cwS 1 hts gX1_fit_X1_isPlace rfl rfl rfl (by decide +kernel) ⟨Nat.le_of_ble_eq_true rfl, Nat.le_of_ble_eq_true rfl⟩) rfl hl.1 rfl (Nat.le_of_ble_eq_true rfl) dX1_fit_1 ⟨Nat.zero_le _, Nat.zero_le _⟩ ?_
  refine W.eq (g2 := F0 m 4 ls [.int (f_X1_isPlace (nI j))]) rfl ?_
  refine lv_if_ne (tgt := 17) hx hb dX1_fit_4 (by decide) (fun z_9 => ?_) (fun z_9 => absurd z_9 cp)
  refine lv_iload_n hx hb dX1_fit_17 rfl (lv_at hl 2 rfl) ?_
  refine pu_S (As := [.int b1]) (rest := []) ⟨hx, hb, hml, hown, hts⟩ (c_X1_needKind l s.heap b1 hok) puK_T trivial (va_cwS 1 hts gX1_fit_X1_needKind rfl rfl rfl (by decide +kernel) ⟨Nat.le_of_ble_eq_true rfl, Nat.le_of_ble_eq_true rfl⟩) rfl hl.1 rfl (Nat.le_of_ble_eq_true rfl) dX1_fit_18 ⟨Nat.zero_le _, Nat.zero_le _⟩ ?_
  refine W.eq (g2 := F0 m 21 ls []) rfl ?_
  refine lv_aload_n hx hb dX1_fit_21 rfl (lv_at hl 0 rfl) ?_
  refine lv_iload_n hx hb dX1_fit_22 rfl (lv_at hl 1 rfl) ?_
  refine pu_V (As := [.int (nI j)]) (rest := []) ⟨hx, hb, hml, hown, hts⟩ (c_X1_gaugeAt l s.heap D cI cJ cZ cG b P ad st j x hj hst1 hPB) (KW_puK D cI cJ cZ cG) hKW (cwV 1 hts gX1_fit_X1_gaugeAt rfl rfl rfl (by decide +kernel) ⟨Nat.le_of_ble_eq_true rfl, Nat.le_of_ble_eq_true rfl⟩) (va_recv hK hB (ci := 1) (q0 := 0) rfl rfl) rfl hl.1 rfl (Nat.le_of_ble_eq_true rfl) dX1_fit_23 ⟨Nat.zero_le _, Nat.zero_le _⟩ ?_
  refine W.eq (g2 := F0 m 26 ls [.ref ((ad j).1)]) rfl ?_
  refine lv_astore_n (lv' := [(3, .ref ((ad j).1)), (0, .ref b), (1, .int (nI j)), (2, .int b1)]) hx hb dX1_fit_26 rfl hl (by decide) rfl (fun ls hl => ?_)
  refine lv_aload_n hx hb dX1_fit_27 rfl (lv_at hl 0 rfl) ?_
  refine lv_ifnonnull (tgt := 47) hx hb dX1_fit_28 (by decide) ?_
  refine lv_aload_n hx hb dX1_fit_47 rfl (lv_at hl 0 rfl) ?_
  refine va_getN (D := D) (ci := 0) (v := .int (gK x)) (C := RX0) (T := TX0) (N := 11) hx hb hts hinX0 hown hK hg 0 rfl rfl 3 (by decide) (hKW.n 3 rfl rfl) (fun _ h9 => h9) rfl dX1_fit_48 ?_
  refine lv_iload_n hx hb dX1_fit_51 rfl (lv_at hl 3 rfl) ?_
  refine lv_icmp_eq (tgt := 78) hx hb dX1_fit_52 (by decide) (fun z_9 => absurd z_9 hk) (fun z_9 => ?_)
  refine lv_aload_n hx hb dX1_fit_55 rfl (lv_at hl 1 rfl) ?_
  refine lv_iload_n hx hb dX1_fit_56 rfl (lv_at hl 2 rfl) ?_
  refine pu_V (As := [.int (nI j)]) (rest := []) ⟨hx, hb, hml, hown, hts⟩ (c_X1_stepsTaking l s.heap D cI cJ cZ cG b P ad st (nI j) hI hPB) (KW_puK D cI cJ cZ cG) hKW (cwV 1 hts gX1_fit_X1_stepsTaking rfl rfl rfl (by decide +kernel) ⟨Nat.le_of_ble_eq_true rfl, Nat.le_of_ble_eq_true rfl⟩) (va_recv hK hB (ci := 1) (q0 := 0) rfl rfl) rfl hl.1 rfl (Nat.le_of_ble_eq_true rfl) dX1_fit_57 ⟨Nat.zero_le _, Nat.zero_le _⟩ ?_
  refine W.eq (g2 := F0 m 60 ls [.int (f_X1_stepsTaking st (nI j))]) rfl ?_
  refine lv_aload_n hx hb dX1_fit_60 rfl (lv_at hl 0 rfl) ?_
  refine lv_iload_n hx hb dX1_fit_61 rfl (lv_at hl 2 rfl) ?_
  refine pu_VN (As := [.int (nI j)]) (rest := [.int (f_X1_stepsTaking st (nI j))]) ⟨hx, hb, hml, hown, hts⟩ (c_X0_ownStepsTaking l s.heap D cI cJ cZ cG (ad j) x (nI j) hc hg) (KW_puK D cI cJ cZ cG) hKW ⟨va_cnB 1 hts gX1_fit_X0_ownStepsTaking_n44 rfl rfl rfl (hKW.2 _ (List.mem_of_getElem? (i := 12) rfl)) (hts (.initialized RX0) (by decide +kernel)) (by decide +kernel) ⟨Nat.le_of_ble_eq_true rfl, Nat.le_of_ble_eq_true rfl⟩, hts (.instanceMethod yX0_ownStepsTaking) (by decide +kernel), hts (.selects RX0 yX0_ownStepsTaking yX0_ownStepsTaking) (by decide +kernel)⟩ (va_recv hK hg (ci := 0) (q0 := 0) rfl rfl) rfl hl.1 rfl (Nat.le_of_ble_eq_true rfl) dX1_fit_62 ⟨Nat.zero_le _, Nat.zero_le _⟩ ?_
  refine W.eq (g2 := F0 m 65 ls [.int (f_X0_ownStepsTaking x (nI j)), .int (f_X1_stepsTaking st (nI j))]) rfl ?_
  refine lv_icmp_le (tgt := 78) hx hb dX1_fit_65 (by decide) (fun z_9 => absurd z_9 htk) (fun z_9 => ?_)
  exact thr_S (text := "a step of another gauge takes its value") hx hb hst hown hts hKZ hz (List.mem_of_getElem? (i := 2) rfl) (by decide +kernel) (by decide +kernel) (fun w h9 => List.mem_cons_of_mem _ (List.mem_append_left _ (List.mem_append_right _ h9))) (by rw [hml]; exact hl.1) dX1_fit_68 dX1_fit_71 dX1_fit_72 dX1_fit_74 dX1_fit_77 hex (Nat.le_of_ble_eq_true rfl) (Nat.le_of_ble_eq_true rfl) (Nat.le_of_ble_eq_true rfl) (Nat.le_of_ble_eq_true rfl) hlocks
def F_X1_fit (st : Nat → Option GS) (j : Nat) (x : GS) (b1 : Int32) : Int32 × GS := (if (gK x) = b1 then ((1 : Int32), (F_X0_startAs x b1)) else (if (f_X1_stepsTaking st (nI j)) ≤ (f_X0_ownStepsTaking x (nI j)) then ((1 : Int32), (F_X0_startAs x b1)) else ((1 : Int32), F_X0_startAs x b1)))
set_option maxHeartbeats 4000000 in
set_option maxRecDepth 100000 in
theorem c_X1_fit_old (l : Launch) (H0 : Heap) (D : va_G) (cI cJ cZ cG : ClassId) (b P : Nat) (ad : Nat → ga) (st : Nat → Option GS) (j : Nat) (x : GS) (b1 : Int32) (hI : BI st) (hj : j < 12) (hst1 : st j = some x) (hc : vp_in (gC x) 9) (hok : e_X1_needKind b1 = 0) (hor : (gK x) = b1 ∨ (f_X1_stepsTaking st (nI j)) ≤ (f_X0_ownStepsTaking x (nI j))) (hPB : va_P D vwCl (BW cI cJ cG b P ad st) H0) (hD0 : va_D (fun _ => True) (BW cI cJ cG b P ad st)) : wr l yX1_fit wsX1_fit ({ frames := 2, cells := 0, slots := 0, locals := 47 }) [Value.ref b, Value.int (nI j), Value.int b1] (KW D cI cJ cZ cG) H0 (some (.int (F_X1_fit st j x b1).1)) D (BW cI cJ cG b P ad st) (fun w => w = BW cI cJ cG b P ad (va_up st j (some (F_X1_fit st j x b1).2))) 0 0 := by
  refine Met.ofW (cc := cX1_fit) (maxL := 4) (ret := (some .boolean)) (by decide) rfl ?_
  intro p e s m args below meth c s₁ B hml hv
  obtain ⟨rfl, hH, hKW⟩ := hv
  have hx := B.exec
  have hb := B.bytes
  have hr := B.returns
  have hts := atoms_spec (ws := wsX1_fit) B.pre
  have hown : s.vm.findClass RX1 = some m.cls := findClass_of_methodNamed B.named
  have hlocks := B.notSynchronized
  subst hH
  have hK := hKW.1
  have hl := lv_entry ([Value.ref b, Value.int (nI j), Value.int b1]) (n := 4) (Nat.le_of_ble_eq_true rfl)
  rw [lg_entry_eq]
  generalize (lg_sl ([Value.ref b, Value.int (nI j), Value.int b1]) ++ List.replicate (4 - (lg_sl ([Value.ref b, Value.int (nI j), Value.int b1])).length) Slot.unset).toArray = ls at hl ⊢
  have hl : lv_has ls 4 [(0, .ref b), (1, .int (nI j)), (2, .int b1)] := hl
  have hinX0 : ∀ w ∈ u_ws RX0 TX0 11, w ∈ wsX1_fit := by decide +kernel
  have hB : va_P D vwCl [(b, .inr (1, [.ref P])), (P, .inl (cG, 12, .inr (.inr (.inr (.inr (pl ad st))))))] s.heap := BW_board hPB
  have hD := hD0.self (sz := s.heap.size)
  generalize hAe : va_A (BW cI cJ cG b P ad st) s.heap.size = A at hD ⊢
  have hA : ∀ q : Nat, s.heap.size ≤ q → A q := fun q h => by rw [← hAe]; exact Or.inr h
  have hS : va_S A s.heap s.heap [] := va_S.rf
  have hP := wd_P.perm hPB (BW_perm hj hst1)
  have hD := wd_D.perm hD (BW_perm hj hst1)
  obtain ⟨Rw, hRw⟩ : ∃ R, R = BB cG b P (pl ad st) ++ BG cI cJ ad (va_up st j none) 12 := ⟨_, rfl⟩
  rw [← hRw] at hP hD
  have hP : va_P D vwCl ([((ad j).1, .inr (0, [.ref ((ad j).2.1), .ref ((ad j).2.2.1), .ref ((ad j).2.2.2), .int (gK x), .int (gC x), .long (gV x), .int (gM x), .long (gH x), .long (gL x), .int (gR x), .int (gW x)])), ((ad j).2.1, .inl (cI, 8, .inl (gSo x))), ((ad j).2.2.1, .inl (cI, 8, .inl (gSr x))), ((ad j).2.2.2, .inl (cJ, 8, .inr (.inl (gOp x))))] ++ Rw) s.heap := hP
  have hD : va_D A ([((ad j).1, .inr (0, [.ref ((ad j).2.1), .ref ((ad j).2.2.1), .ref ((ad j).2.2.2), .int (gK x), .int (gC x), .long (gV x), .int (gM x), .long (gH x), .long (gL x), .int (gR x), .int (gW x)])), ((ad j).2.1, .inl (cI, 8, .inl (gSo x))), ((ad j).2.2.1, .inl (cI, 8, .inl (gSr x))), ((ad j).2.2.2, .inl (cJ, 8, .inr (.inl (gOp x))))] ++ Rw) := hD
  have cp : ¬ (f_X1_isPlace (nI j)) = 0 := place_nI hj
  refine lv_iload_n hx hb dX1_fit_0 rfl (lv_at hl 1 rfl) ?_
  refine pu_S (As := [.int (nI j)]) (rest := []) ⟨hx, hb, hml, hown, hts⟩ (c_X1_isPlace l s.heap (nI j)) puK_T trivial (va_cwS 1 hts gX1_fit_X1_isPlace rfl rfl rfl (by decide +kernel) ⟨Nat.le_of_ble_eq_true rfl, Nat.le_of_ble_eq_true rfl⟩) rfl hl.1 rfl (Nat.le_of_ble_eq_true rfl) dX1_fit_1 ⟨Nat.zero_le _, Nat.zero_le _⟩ ?_
  refine W.eq (g2 := F0 m 4 ls [.int (f_X1_isPlace (nI j))]) rfl ?_
  refine lv_if_ne (tgt := 17) hx hb dX1_fit_4 (by decide) (fun z_9 => ?_) (fun z_9 => absurd z_9 cp)
  refine lv_iload_n hx hb dX1_fit_17 rfl (lv_at hl 2 rfl) ?_
  refine pu_S (As := [.int b1]) (rest := []) ⟨hx, hb, hml, hown, hts⟩ (c_X1_needKind l s.heap b1 hok) puK_T trivial (va_cwS 1 hts gX1_fit_X1_needKind rfl rfl rfl (by decide +kernel) ⟨Nat.le_of_ble_eq_true rfl, Nat.le_of_ble_eq_true rfl⟩) rfl hl.1 rfl (Nat.le_of_ble_eq_true rfl) dX1_fit_18 ⟨Nat.zero_le _, Nat.zero_le _⟩ ?_
  refine W.eq (g2 := F0 m 21 ls []) rfl ?_
  refine lv_aload_n hx hb dX1_fit_21 rfl (lv_at hl 0 rfl) ?_
  refine lv_iload_n hx hb dX1_fit_22 rfl (lv_at hl 1 rfl) ?_
  refine pu_V (As := [.int (nI j)]) (rest := []) ⟨hx, hb, hml, hown, hts⟩ (c_X1_gaugeAt l s.heap D cI cJ cZ cG b P ad st j x hj hst1 hPB) (KW_puK D cI cJ cZ cG) hKW (cwV 1 hts gX1_fit_X1_gaugeAt rfl rfl rfl (by decide +kernel) ⟨Nat.le_of_ble_eq_true rfl, Nat.le_of_ble_eq_true rfl⟩) (va_recv hK hB (ci := 1) (q0 := 0) rfl rfl) rfl hl.1 rfl (Nat.le_of_ble_eq_true rfl) dX1_fit_23 ⟨Nat.zero_le _, Nat.zero_le _⟩ ?_
  refine W.eq (g2 := F0 m 26 ls [.ref ((ad j).1)]) rfl ?_
  refine lv_astore_n (lv' := [(3, .ref ((ad j).1)), (0, .ref b), (1, .int (nI j)), (2, .int b1)]) hx hb dX1_fit_26 rfl hl (by decide) rfl (fun ls hl => ?_)
  refine lv_aload_n hx hb dX1_fit_27 rfl (lv_at hl 0 rfl) ?_
  refine lv_ifnonnull (tgt := 47) hx hb dX1_fit_28 (by decide) ?_
  refine lv_aload_n hx hb dX1_fit_47 rfl (lv_at hl 0 rfl) ?_
  refine va_getN (D := D) (ci := 0) (v := .int (gK x)) (C := RX0) (T := TX0) (N := 11) hx hb hts hinX0 hown hK hP 0 rfl rfl 3 (by decide) (hKW.n 3 rfl rfl) (fun _ h9 => h9) rfl dX1_fit_48 ?_
  refine lv_iload_n hx hb dX1_fit_51 rfl (lv_at hl 3 rfl) ?_
  refine lv_icmp_eq (tgt := 78) hx hb dX1_fit_52 (by decide) (fun c_1 => ?_) (fun c_1 => ?_)
  · refine lv_aload_n hx hb dX1_fit_78 rfl (lv_at hl 0 rfl) ?_
    refine lv_iload_n hx hb dX1_fit_79 rfl (lv_at hl 3 rfl) ?_
    refine wr_VN (As := [.int b1]) (rest := []) (Rw := Rw) ⟨hx, hb, hml, hown, hts⟩ (c_X0_startAs l s.heap D cI cJ cZ cG (ad j) x b1 (wd_gz hP) (wd_D.left (hD.weaken (fun _ _ _ _ => trivial)))) (KW_puK D cI cJ cZ cG) hKW ⟨va_cnB 1 hts gX1_fit_X0_startAs_n52 rfl rfl rfl (hKW.2 _ (List.mem_of_getElem? (i := 13) rfl)) (hts (.initialized RX0) (by decide +kernel)) (by decide +kernel) ⟨Nat.le_of_ble_eq_true rfl, Nat.le_of_ble_eq_true rfl⟩, hts (.instanceMethod yX0_startAs) (by decide +kernel), hts (.selects RX0 yX0_startAs yX0_startAs) (by decide +kernel)⟩ (va_recv hK hP (ci := 0) (q0 := 0) rfl rfl) rfl hl.1 rfl (Nat.le_of_ble_eq_true rfl) dX1_fit_80 ⟨Nat.zero_le _, Nat.zero_le _⟩ hP hD hS hA (fun w1 H locs hw hP hD hS => ?_)
    subst hw
    obtain ⟨z_2, hz_2⟩ : ∃ u, u = F_X0_startAs x b1 := ⟨_, rfl⟩
    rw [← hz_2] at hP hD
    have hP : va_P D vwCl ([((ad j).1, .inr (0, [.ref ((ad j).2.1), .ref ((ad j).2.2.1), .ref ((ad j).2.2.2), .int (gK z_2), .int (gC z_2), .long (gV z_2), .int (gM z_2), .long (gH z_2), .long (gL z_2), .int (gR z_2), .int (gW z_2)])), ((ad j).2.1, .inl (cI, 8, .inl (gSo z_2))), ((ad j).2.2.1, .inl (cI, 8, .inl (gSr z_2))), ((ad j).2.2.2, .inl (cJ, 8, .inr (.inl (gOp z_2))))] ++ Rw) H := hP
    have hD : va_D A ([((ad j).1, .inr (0, [.ref ((ad j).2.1), .ref ((ad j).2.2.1), .ref ((ad j).2.2.2), .int (gK z_2), .int (gC z_2), .long (gV z_2), .int (gM z_2), .long (gH z_2), .long (gL z_2), .int (gR z_2), .int (gW z_2)])), ((ad j).2.1, .inl (cI, 8, .inl (gSo z_2))), ((ad j).2.2.1, .inl (cI, 8, .inl (gSr z_2))), ((ad j).2.2.2, .inl (cJ, 8, .inr (.inl (gOp z_2))))] ++ Rw) := hD
    refine W.eq (g2 := F0 m 83 ls []) rfl ?_
    refine lv_iconst (v := 1) hx hb dX1_fit_83 (by decide) ?_
    have hF : F_X1_fit st j x b1 = ((1 : Int32), z_2) := by
      unfold F_X1_fit; rw [if_pos c_1, ← hz_2]
    subst hRw
    exact W.zret (v := (1 : Int32)) hx hb hr rfl (fun t ht hW => ⟨by rw [hF], _, rfl, by rw [hF, ht]; exact wd_P.perm hP (BW_back hj hst1), by rw [hF]; exact wd_D.perm hD (BW_back hj hst1), (hS.F ht).1, (hS.F ht).2⟩) hS.2.2 dX1_fit_84
  · refine lv_aload_n hx hb dX1_fit_55 rfl (lv_at hl 1 rfl) ?_
    refine lv_iload_n hx hb dX1_fit_56 rfl (lv_at hl 2 rfl) ?_
    refine pu_V (As := [.int (nI j)]) (rest := []) ⟨hx, hb, hml, hown, hts⟩ (c_X1_stepsTaking l s.heap D cI cJ cZ cG b P ad st (nI j) hI hPB) (KW_puK D cI cJ cZ cG) hKW (cwV 1 hts gX1_fit_X1_stepsTaking rfl rfl rfl (by decide +kernel) ⟨Nat.le_of_ble_eq_true rfl, Nat.le_of_ble_eq_true rfl⟩) (va_recv hK hB (ci := 1) (q0 := 0) rfl rfl) rfl hl.1 rfl (Nat.le_of_ble_eq_true rfl) dX1_fit_57 ⟨Nat.zero_le _, Nat.zero_le _⟩ ?_
    refine W.eq (g2 := F0 m 60 ls [.int (f_X1_stepsTaking st (nI j))]) rfl ?_
    refine lv_aload_n hx hb dX1_fit_60 rfl (lv_at hl 0 rfl) ?_
    refine lv_iload_n hx hb dX1_fit_61 rfl (lv_at hl 2 rfl) ?_
    refine pu_VN (As := [.int (nI j)]) (rest := [.int (f_X1_stepsTaking st (nI j))]) ⟨hx, hb, hml, hown, hts⟩ (c_X0_ownStepsTaking l s.heap D cI cJ cZ cG (ad j) x (nI j) hc (wd_gz hP)) (KW_puK D cI cJ cZ cG) hKW ⟨va_cnB 1 hts gX1_fit_X0_ownStepsTaking_n44 rfl rfl rfl (hKW.2 _ (List.mem_of_getElem? (i := 12) rfl)) (hts (.initialized RX0) (by decide +kernel)) (by decide +kernel) ⟨Nat.le_of_ble_eq_true rfl, Nat.le_of_ble_eq_true rfl⟩, hts (.instanceMethod yX0_ownStepsTaking) (by decide +kernel), hts (.selects RX0 yX0_ownStepsTaking yX0_ownStepsTaking) (by decide +kernel)⟩ (va_recv hK hP (ci := 0) (q0 := 0) rfl rfl) rfl hl.1 rfl (Nat.le_of_ble_eq_true rfl) dX1_fit_62 ⟨Nat.zero_le _, Nat.zero_le _⟩ ?_
    refine W.eq (g2 := F0 m 65 ls [.int (f_X0_ownStepsTaking x (nI j)), .int (f_X1_stepsTaking st (nI j))]) rfl ?_
    refine lv_icmp_le (tgt := 78) hx hb dX1_fit_65 (by decide) (fun c_3 => ?_) (fun c_3 => ?_)
    · refine lv_aload_n hx hb dX1_fit_78 rfl (lv_at hl 0 rfl) ?_
      refine lv_iload_n hx hb dX1_fit_79 rfl (lv_at hl 3 rfl) ?_
      refine wr_VN (As := [.int b1]) (rest := []) (Rw := Rw) ⟨hx, hb, hml, hown, hts⟩ (c_X0_startAs l s.heap D cI cJ cZ cG (ad j) x b1 (wd_gz hP) (wd_D.left (hD.weaken (fun _ _ _ _ => trivial)))) (KW_puK D cI cJ cZ cG) hKW ⟨va_cnB 1 hts gX1_fit_X0_startAs_n52 rfl rfl rfl (hKW.2 _ (List.mem_of_getElem? (i := 13) rfl)) (hts (.initialized RX0) (by decide +kernel)) (by decide +kernel) ⟨Nat.le_of_ble_eq_true rfl, Nat.le_of_ble_eq_true rfl⟩, hts (.instanceMethod yX0_startAs) (by decide +kernel), hts (.selects RX0 yX0_startAs yX0_startAs) (by decide +kernel)⟩ (va_recv hK hP (ci := 0) (q0 := 0) rfl rfl) rfl hl.1 rfl (Nat.le_of_ble_eq_true rfl) dX1_fit_80 ⟨Nat.zero_le _, Nat.zero_le _⟩ hP hD hS hA (fun w1 H locs hw hP hD hS => ?_)
      subst hw
      obtain ⟨z_4, hz_4⟩ : ∃ u, u = F_X0_startAs x b1 := ⟨_, rfl⟩
      rw [← hz_4] at hP hD
      have hP : va_P D vwCl ([((ad j).1, .inr (0, [.ref ((ad j).2.1), .ref ((ad j).2.2.1), .ref ((ad j).2.2.2), .int (gK z_4), .int (gC z_4), .long (gV z_4), .int (gM z_4), .long (gH z_4), .long (gL z_4), .int (gR z_4), .int (gW z_4)])), ((ad j).2.1, .inl (cI, 8, .inl (gSo z_4))), ((ad j).2.2.1, .inl (cI, 8, .inl (gSr z_4))), ((ad j).2.2.2, .inl (cJ, 8, .inr (.inl (gOp z_4))))] ++ Rw) H := hP
      have hD : va_D A ([((ad j).1, .inr (0, [.ref ((ad j).2.1), .ref ((ad j).2.2.1), .ref ((ad j).2.2.2), .int (gK z_4), .int (gC z_4), .long (gV z_4), .int (gM z_4), .long (gH z_4), .long (gL z_4), .int (gR z_4), .int (gW z_4)])), ((ad j).2.1, .inl (cI, 8, .inl (gSo z_4))), ((ad j).2.2.1, .inl (cI, 8, .inl (gSr z_4))), ((ad j).2.2.2, .inl (cJ, 8, .inr (.inl (gOp z_4))))] ++ Rw) := hD
      refine W.eq (g2 := F0 m 83 ls []) rfl ?_
      refine lv_iconst (v := 1) hx hb dX1_fit_83 (by decide) ?_
      have hF : F_X1_fit st j x b1 = ((1 : Int32), z_4) := by
        unfold F_X1_fit; rw [if_neg c_1, if_pos c_3, ← hz_4]
      subst hRw
      exact W.zret (v := (1 : Int32)) hx hb hr rfl (fun t ht hW => ⟨by rw [hF], _, rfl, by rw [hF, ht]; exact wd_P.perm hP (BW_back hj hst1), by rw [hF]; exact wd_D.perm hD (BW_back hj hst1), (hS.F ht).1, (hS.F ht).2⟩) hS.2.2 dX1_fit_84
    · exact absurd hor (not_or.mpr ⟨c_1, c_3⟩)
set_option maxHeartbeats 4000000 in
set_option maxRecDepth 100000 in
theorem c_X1_fit_new (l : Launch) (H0 : Heap) (D : va_G) (cI cJ cZ cG : ClassId) (b P : Nat) (ad : Nat → ga) (st : Nat → Option GS) (j : Nat) (b1 : Int32) (hj : j < 12) (hst0 : st j = none) (hok : e_X1_needKind b1 = 0) (hPB : va_P D vwCl (BW cI cJ cG b P ad st) H0) (hD0 : va_D (fun _ => True) (BW cI cJ cG b P ad st)) : wr l yX1_fit wsX1_fit ({ frames := 2, cells := 4, slots := 35, locals := 45 }) [Value.ref b, Value.int (nI j), Value.int b1] (KW D cI cJ cZ cG) H0 (some (.int (0 : Int32))) D (BW cI cJ cG b P ad st) (fun w => ∃ q : ga, w = BW cI cJ cG b P (va_up ad j q) (va_up st j (some (g0 b1)))) 4 35 := by
  refine Met.ofW (cc := cX1_fit) (maxL := 4) (ret := (some .boolean)) (by decide) rfl ?_
  intro p e s m args below meth c s₁ B hml hv
  obtain ⟨rfl, hH, hKW⟩ := hv
  have hx := B.exec
  have hb := B.bytes
  have hr := B.returns
  have hts := atoms_spec (ws := wsX1_fit) B.pre
  have hown : s.vm.findClass RX1 = some m.cls := findClass_of_methodNamed B.named
  have hlocks := B.notSynchronized
  subst hH
  have hK := hKW.1
  have hl := lv_entry ([Value.ref b, Value.int (nI j), Value.int b1]) (n := 4) (Nat.le_of_ble_eq_true rfl)
  rw [lg_entry_eq]
  generalize (lg_sl ([Value.ref b, Value.int (nI j), Value.int b1]) ++ List.replicate (4 - (lg_sl ([Value.ref b, Value.int (nI j), Value.int b1])).length) Slot.unset).toArray = ls at hl ⊢
  have hl : lv_has ls 4 [(0, .ref b), (1, .int (nI j)), (2, .int b1)] := hl
  have hinX0 : ∀ w ∈ u_ws RX0 TX0 11, w ∈ wsX1_fit := by decide +kernel
  have hinX1 : ∀ w ∈ u_ws RX1 TX1 1, w ∈ wsX1_fit := by decide +kernel
  have hB : va_P D vwCl [(b, .inr (1, [.ref P])), (P, .inl (cG, 12, .inr (.inr (.inr (.inr (pl ad st))))))] s.heap := BW_board hPB
  have cp : ¬ (f_X1_isPlace (nI j)) = 0 := place_nI hj
  have hgn : gat st (nI j) = none := by rw [gat_nI hj]; exact hst0
  have hD := hD0.self (sz := s.heap.size)
  generalize hAe : va_A (BW cI cJ cG b P ad st) s.heap.size = A at hD ⊢
  have hA : ∀ q : Nat, s.heap.size ≤ q → A q := fun q h => by rw [← hAe]; exact Or.inr h
  have hS : va_S A s.heap s.heap [] := va_S.rf
  obtain ⟨Rw, hRw⟩ : ∃ R, R = BG cI cJ ad st 12 := ⟨_, rfl⟩
  have hP : va_P D vwCl ([(b, .inr (1, [.ref P])), (P, .inl (cG, 12, .inr (.inr (.inr (.inr (pl ad st))))))] ++ Rw) s.heap := by rw [hRw]; exact hPB
  have hD : va_D A ([(b, .inr (1, [.ref P])), (P, .inl (cG, 12, .inr (.inr (.inr (.inr (pl ad st))))))] ++ Rw) := by rw [hRw]; exact hD
  refine lv_iload_n hx hb dX1_fit_0 rfl (lv_at hl 1 rfl) ?_
  refine pu_S (As := [.int (nI j)]) (rest := []) ⟨hx, hb, hml, hown, hts⟩ (c_X1_isPlace l s.heap (nI j)) puK_T trivial (va_cwS 1 hts gX1_fit_X1_isPlace rfl rfl rfl (by decide +kernel) ⟨Nat.le_of_ble_eq_true rfl, Nat.le_of_ble_eq_true rfl⟩) rfl hl.1 rfl (Nat.le_of_ble_eq_true rfl) dX1_fit_1 ⟨Nat.zero_le _, Nat.zero_le _⟩ ?_
  refine W.eq (g2 := F0 m 4 ls [.int (f_X1_isPlace (nI j))]) rfl ?_
  refine lv_if_ne (tgt := 17) hx hb dX1_fit_4 (by decide) (fun z_9 => ?_) (fun z_9 => absurd z_9 cp)
  refine lv_iload_n hx hb dX1_fit_17 rfl (lv_at hl 2 rfl) ?_
  refine pu_S (As := [.int b1]) (rest := []) ⟨hx, hb, hml, hown, hts⟩ (c_X1_needKind l s.heap b1 hok) puK_T trivial (va_cwS 1 hts gX1_fit_X1_needKind rfl rfl rfl (by decide +kernel) ⟨Nat.le_of_ble_eq_true rfl, Nat.le_of_ble_eq_true rfl⟩) rfl hl.1 rfl (Nat.le_of_ble_eq_true rfl) dX1_fit_18 ⟨Nat.zero_le _, Nat.zero_le _⟩ ?_
  refine W.eq (g2 := F0 m 21 ls []) rfl ?_
  refine lv_aload_n hx hb dX1_fit_21 rfl (lv_at hl 0 rfl) ?_
  refine lv_iload_n hx hb dX1_fit_22 rfl (lv_at hl 1 rfl) ?_
  refine pu_V (As := [.int (nI j)]) (rest := []) ⟨hx, hb, hml, hown, hts⟩ (n_X1_gaugeAt l s.heap D cI cJ cZ cG b P ad st (nI j) hgn hPB) (KW_puK D cI cJ cZ cG) hKW (cwV 1 hts gX1_fit_X1_gaugeAt rfl rfl rfl (by decide +kernel) ⟨Nat.le_of_ble_eq_true rfl, Nat.le_of_ble_eq_true rfl⟩) (va_recv hK hB (ci := 1) (q0 := 0) rfl rfl) rfl hl.1 rfl (Nat.le_of_ble_eq_true rfl) dX1_fit_23 ⟨Nat.zero_le _, Nat.zero_le _⟩ ?_
  refine W.eq (g2 := F0 m 26 ls [.null]) rfl ?_
  refine lv_astore_nN (lv' := [(3, .null), (0, .ref b), (1, .int (nI j)), (2, .int b1)]) hx hb dX1_fit_26 rfl hl (by decide) rfl (fun ls hl => ?_)
  refine lv_aload_nN hx hb dX1_fit_27 rfl (lv_at hl 0 rfl) ?_
  refine lv_ifnonnullN hx hb dX1_fit_28 ?_
  refine lv_aload_n hx hb dX1_fit_31 rfl (lv_at hl 1 rfl) ?_
  refine va_get (D := D) (ci := 1) (v := .ref P) (C := RX1) (T := TX1) (N := 1) hx hb hts hinX1 hown hK hB 0 rfl rfl 0 (by decide) (hts (.fieldLink RX1 11 "GaugeBoard" "places" "[LGaugeBoard$Gauge;") (by decide +kernel)) (fun _ h9 => h9) rfl dX1_fit_32 ?_
  refine lv_iload_n hx hb dX1_fit_35 rfl (lv_at hl 2 rfl) ?_
  refine va_new (ci := 0) (fs := [.null, .null, .null, .int 0, .int 0, .long 0, .int 0, .long 0, .long 0, .int 0, .int 0]) (C := RX0) (T := TX0) (N := 11) hx hb hts hinX0 tyX0 tyX0_ok hown (hts (.classLink RX1 9 RX0) (by decide +kernel)) (hts (.instantiable RX0 11) (by decide +kernel)) (hts (.initialized RX0) (by decide +kernel)) hK hP hD hS hA rfl (fun j hj => by rcases (show j = 0 ∨ j = 1 ∨ j = 2 ∨ j = 3 ∨ j = 4 ∨ j = 5 ∨ j = 6 ∨ j = 7 ∨ j = 8 ∨ j = 9 ∨ j = 10 by omega) with rfl | rfl | rfl | rfl | rfl | rfl | rfl | rfl | rfl | rfl | rfl <;> rfl) (Nat.le_of_ble_eq_true rfl) (Nat.le_of_ble_eq_true rfl) dX1_fit_36 (fun q0 H hP hD hS => ?_)
  have hP := wd_P.perm hP (perm_last _ _ _)
  have hD := wd_D.perm hD (perm_last _ _ _)
  have hP : va_P D vwCl ([(q0, .inr (0, [.null, .null, .null, .int 0, .int 0, .long 0, .int 0, .long 0, .long 0, .int 0, .int 0]))] ++ ([(b, .inr (1, [.ref P])), (P, .inl (cG, 12, .inr (.inr (.inr (.inr (pl ad st))))))] ++ Rw)) H := hP
  have hD : va_D A ([(q0, .inr (0, [.null, .null, .null, .int 0, .int 0, .long 0, .int 0, .long 0, .long 0, .int 0, .int 0]))] ++ ([(b, .inr (1, [.ref P])), (P, .inl (cG, 12, .inr (.inr (.inr (.inr (pl ad st))))))] ++ Rw)) := hD
  refine lv_dup hx hb dX1_fit_39 rfl ?_
  refine lv_iload_n hx hb dX1_fit_40 rfl (lv_at hl 3 rfl) ?_
  refine wr_IN (As := [.int b1]) (rest := [.ref q0, .int (nI j), .ref P]) (Rw := [(b, .inr (1, [.ref P])), (P, .inl (cG, 12, .inr (.inr (.inr (.inr (pl ad st))))))] ++ Rw) ⟨hx, hb, hml, hown, hts⟩ (c_X0_init l H D cI cJ cZ cG q0 b1 (wd_P.part hP (fun _ h => List.mem_append_left _ h)) (wd_D.left (hD.weaken (fun _ _ _ _ => trivial)))) (KW_puK D cI cJ cZ cG) hKW ⟨va_cnB 1 hts gX1_fit_X0_init_n34 rfl rfl rfl (hKW.2 _ (List.mem_of_getElem? (i := 11) rfl)) (hts (.initialized RX0) (by decide +kernel)) (by decide +kernel) ⟨Nat.le_of_ble_eq_true rfl, Nat.le_of_ble_eq_true rfl⟩, rfl, hts (.instanceMethod yX0_init) (by decide +kernel)⟩ rfl hl.1 rfl (Nat.le_of_ble_eq_true rfl) dX1_fit_41 ⟨Nat.le_of_ble_eq_true rfl, Nat.le_of_ble_eq_true rfl⟩ hP hD hS hA (fun w1 H2 locs2 hw hP2 hD2 hS2 => ?_)
  obtain ⟨qq, hqq, rfl⟩ := hw
  subst hqq
  have hP := hP2
  have hD := hD2
  have hS := hS2
  refine W.eq (g2 := F0 m 44 ls [.ref qq.1, .int (nI j), .ref P]) rfl ?_
  refine va_astq (r := (RX0, TX0, 11)) hx hb hK hP hD hS 5 3 0 0 rfl rfl rfl rfl (vp_in_nI hj (by decide)) dX1_fit_44 (fun H locs hP hD hS => ?_)
  have hP : va_P D vwCl (GZ cI cJ qq (g0 b1) ++ (BB cG b P (va_up (pl ad st) j (some qq.1)) ++ Rw)) H := by have h := hP; rw [nI_clamp (by omega)] at h; exact h
  have hD : va_D A (GZ cI cJ qq (g0 b1) ++ (BB cG b P (va_up (pl ad st) j (some qq.1)) ++ Rw)) := by have h := hD; rw [nI_clamp (by omega)] at h; exact h
  refine lv_iconst (v := 0) hx hb dX1_fit_45 (by decide) ?_
  subst hRw
  exact W.zret (v := (0 : Int32)) hx hb hr rfl (fun t ht hW => ⟨rfl, _, ⟨qq, rfl⟩, by rw [ht]; exact wd_P.perm hP (BW_new hj hst0), wd_D.perm hD (BW_new hj hst0), (hS.F ht).1, (hS.F ht).2⟩) hS.2.2 dX1_fit_46
