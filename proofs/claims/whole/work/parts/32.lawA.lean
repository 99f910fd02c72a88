set_option maxHeartbeats 4000000 in
set_option maxRecDepth 100000 in
theorem l_fit_N (l : Launch) (hst : l.stackTraces = false) (z : Nat) (H0 : Heap) (hz : z ≤ H0.size) (D : va_G) (cI cJ cZ cG : ClassId) (b P : Nat) (ad : Nat → ga) (st : Nat → Option GS) (o : Nat) (f : Nat → Int64) (b0 b1 : Int32) (hp : f_X1_isPlace b0 = 0) (hPO : va_P D vwCl (OW cI cJ cG o b P ad st f) H0) (hDO : va_D (fun _ => True) (OW cI cJ cG o b P ad st f)) : LC l yL_fit wsL_fit [Value.ref b, Value.int b0, Value.int b1, Value.ref o] D cI cJ cZ cG z o b P ad st f H0 (1, st, 0) := by
  unfold LC
  refine va_MetW (y := yL_fit) (ws := wsL_fit) (cc := cL_fit) (maxL := 5) (ret := (some .int)) (by decide) rfl ?_
  intro p e s m args below meth c s₁ B hml hv
  obtain ⟨rfl, hH, hKX⟩ := hv
  have hx := B.exec
  have hb := B.bytes
  have hr := B.returns
  have hts := atoms_spec (ws := wsL_fit) B.pre
  have hown : s.vm.findClass RL = some m.cls := findClass_of_methodNamed B.named
  have hlocks := B.notSynchronized
  subst hH
  have hKW := hKX.1.1
  have hK := hKW.1
  have htab : c.exceptionTable.toList = [⟨0, 17, 20, 13⟩, ⟨0, 17, 24, 15⟩, ⟨0, 17, 28, 17⟩] := by rw [vx_table (x := yL_fit) B (hts _ List.mem_cons_self)]; rfl
  have hl := lv_entry ([Value.ref b, Value.int b0, Value.int b1, Value.ref o]) (n := 5) (Nat.le_of_ble_eq_true rfl)
  rw [lg_entry_eq]
  generalize (lg_sl ([Value.ref b, Value.int b0, Value.int b1, Value.ref o]) ++ List.replicate (5 - (lg_sl ([Value.ref b, Value.int b0, Value.int b1, Value.ref o])).length) Slot.unset).toArray = ls at hl ⊢
  have hl : lv_has ls 5 [(0, .ref b), (1, .int b0), (2, .int b1), (3, .ref o)] := hl
  have hPB : va_P D vwCl (BW cI cJ cG b P ad st) s.heap := wd_P.part hPO (fun _ h => List.mem_append_right _ h)
  have hD0 : va_D (fun _ => True) (BW cI cJ cG b P ad st) := wd_D.left (wd_D.perm hDO List.perm_append_comm)
  have hD := hDO.self (sz := s.heap.size)
  generalize hAe : va_A (OW cI cJ cG o b P ad st f) s.heap.size = A at hD ⊢
  have hA : ∀ q : Nat, s.heap.size ≤ q → A q := fun q h => by rw [← hAe]; exact Or.inr h
  have hS : va_S A s.heap s.heap [] := va_S.rf
  have hP := hPO
  refine lv_aload_n hx hb dL_fit_0 rfl (lv_at hl 3 rfl) ?_
  refine lv_iconst (v := 0) hx hb dL_fit_1 (by decide) ?_
  refine lv_aload_n hx hb dL_fit_2 rfl (lv_at hl 0 rfl) ?_
  refine lv_iload_n hx hb dL_fit_3 rfl (lv_at hl 1 rfl) ?_
  refine lv_iload_n hx hb dL_fit_4 rfl (lv_at hl 2 rfl) ?_
  refine ct_V (As := [.int b0, .int b1]) (rest := [.int (0 : Int32), .ref o]) ⟨hx, hb, hml, hown, hts⟩ (t_X1_fit_N l hst z s.heap hz D cI cJ cZ cG b P ad st b0 b1 hp hPB) (KZ_puK D cI cJ cZ cG z s.heap) hKX.1 (cwV 2 hts gL_fit_X1_fit rfl rfl rfl (by decide +kernel) ⟨Nat.le_of_ble_eq_true rfl, Nat.le_of_ble_eq_true rfl⟩) (va_recv hK hPB (ci := 1) (q0 := 0) rfl rfl) rfl hl.1 rfl (Nat.le_of_ble_eq_true rfl) dL_fit_5 ⟨Nat.le_of_ble_eq_true rfl, Nat.le_of_ble_eq_true rfl⟩ (name := xN) [] ⟨0, 17, 20, 13⟩ [⟨0, 17, 24, 15⟩, ⟨0, 17, 28, 17⟩] htab (fun _ h => nomatch h) (by decide) (by decide) (hts (.classLink RL 13 xN) (by decide +kernel)) (hKW.n 19 rfl rfl) (fun H1 q9 hz1 hk1 => ?_)
  have hP1 : va_P D vwCl (OW cI cJ cG o b P ad st f) H1 := hPO.kept (fun k9 x9 hx9 => hk1 x9.1 ((hPO k9 x9 hx9).lt))
  refine W.eq (g2 := F0 m 20 ls [.ref q9]) rfl ?_
  refine lv_astore (lv' := [(4, .ref q9), (0, .ref b), (1, .int b0), (2, .int b1), (3, .ref o)]) hx hb dL_fit_20 hl (by decide) rfl (fun ls hl => ?_)
  refine lv_iconst (v := 1) hx hb dL_fit_22 (by decide) ?_
  exact W.iret (v := (1 : Int32)) hx hb hr (fun t ht hW => ⟨rfl, _, ⟨ad, f, rfl, fun h => absurd (show (1 : Int32) = 0 from h) (by decide)⟩, by rw [ht]; exact hP1, hD, by rw [ht]; exact hz1, fun q h1 _ => by rw [ht]; exact hk1 q h1⟩) (fun _ h => nomatch h) dL_fit_23
set_option maxHeartbeats 4000000 in
set_option maxRecDepth 100000 in
theorem l_fit_A (l : Launch) (hst : l.stackTraces = false) (z : Nat) (H0 : Heap) (hz : z ≤ H0.size) (D : va_G) (cI cJ cZ cG : ClassId) (b P : Nat) (ad : Nat → ga) (st : Nat → Option GS) (o : Nat) (f : Nat → Int64) (b0 b1 : Int32) (hp : ¬ f_X1_isPlace b0 = 0) (hno : e_X1_needKind b1 = 2) (hPO : va_P D vwCl (OW cI cJ cG o b P ad st f) H0) (hDO : va_D (fun _ => True) (OW cI cJ cG o b P ad st f)) : LC l yL_fit wsL_fit [Value.ref b, Value.int b0, Value.int b1, Value.ref o] D cI cJ cZ cG z o b P ad st f H0 (2, st, 0) := by
  unfold LC
  refine va_MetW (y := yL_fit) (ws := wsL_fit) (cc := cL_fit) (maxL := 5) (ret := (some .int)) (by decide) rfl ?_
  intro p e s m args below meth c s₁ B hml hv
  obtain ⟨rfl, hH, hKX⟩ := hv
  have hx := B.exec
  have hb := B.bytes
  have hr := B.returns
  have hts := atoms_spec (ws := wsL_fit) B.pre
  have hown : s.vm.findClass RL = some m.cls := findClass_of_methodNamed B.named
  have hlocks := B.notSynchronized
  subst hH
  have hKW := hKX.1.1
  have hK := hKW.1
  have htab : c.exceptionTable.toList = [⟨0, 17, 20, 13⟩, ⟨0, 17, 24, 15⟩, ⟨0, 17, 28, 17⟩] := by rw [vx_table (x := yL_fit) B (hts _ List.mem_cons_self)]; rfl
  have hl := lv_entry ([Value.ref b, Value.int b0, Value.int b1, Value.ref o]) (n := 5) (Nat.le_of_ble_eq_true rfl)
  rw [lg_entry_eq]
  generalize (lg_sl ([Value.ref b, Value.int b0, Value.int b1, Value.ref o]) ++ List.replicate (5 - (lg_sl ([Value.ref b, Value.int b0, Value.int b1, Value.ref o])).length) Slot.unset).toArray = ls at hl ⊢
  have hl : lv_has ls 5 [(0, .ref b), (1, .int b0), (2, .int b1), (3, .ref o)] := hl
  have hPB : va_P D vwCl (BW cI cJ cG b P ad st) s.heap := wd_P.part hPO (fun _ h => List.mem_append_right _ h)
  have hD0 : va_D (fun _ => True) (BW cI cJ cG b P ad st) := wd_D.left (wd_D.perm hDO List.perm_append_comm)
  have hD := hDO.self (sz := s.heap.size)
  generalize hAe : va_A (OW cI cJ cG o b P ad st f) s.heap.size = A at hD ⊢
  have hA : ∀ q : Nat, s.heap.size ≤ q → A q := fun q h => by rw [← hAe]; exact Or.inr h
  have hS : va_S A s.heap s.heap [] := va_S.rf
  have hP := hPO
  refine lv_aload_n hx hb dL_fit_0 rfl (lv_at hl 3 rfl) ?_
  refine lv_iconst (v := 0) hx hb dL_fit_1 (by decide) ?_
  refine lv_aload_n hx hb dL_fit_2 rfl (lv_at hl 0 rfl) ?_
  refine lv_iload_n hx hb dL_fit_3 rfl (lv_at hl 1 rfl) ?_
  refine lv_iload_n hx hb dL_fit_4 rfl (lv_at hl 2 rfl) ?_
  refine ct_V (As := [.int b0, .int b1]) (rest := [.int (0 : Int32), .ref o]) ⟨hx, hb, hml, hown, hts⟩ (t_X1_fit_A l hst z s.heap hz D cI cJ cZ cG b P ad st b0 b1 hp hno hPB) (KZ_puK D cI cJ cZ cG z s.heap) hKX.1 (cwV 2 hts gL_fit_X1_fit rfl rfl rfl (by decide +kernel) ⟨Nat.le_of_ble_eq_true rfl, Nat.le_of_ble_eq_true rfl⟩) (va_recv hK hPB (ci := 1) (q0 := 0) rfl rfl) rfl hl.1 rfl (Nat.le_of_ble_eq_true rfl) dL_fit_5 ⟨Nat.le_of_ble_eq_true rfl, Nat.le_of_ble_eq_true rfl⟩ (name := xA) [⟨0, 17, 20, 13⟩] ⟨0, 17, 24, 15⟩ [⟨0, 17, 28, 17⟩] htab (List.forall_mem_cons.mpr ⟨Or.inr ⟨by decide, xN, hts (.classLink RL 13 xN) (by decide +kernel), hKX.2.1⟩, fun _ h => nomatch h⟩) (by decide) (by decide) (hts (.classLink RL 15 xA) (by decide +kernel)) (hKW.n 20 rfl rfl) (fun H1 q9 hz1 hk1 => ?_)
  have hP1 : va_P D vwCl (OW cI cJ cG o b P ad st f) H1 := hPO.kept (fun k9 x9 hx9 => hk1 x9.1 ((hPO k9 x9 hx9).lt))
  refine W.eq (g2 := F0 m 24 ls [.ref q9]) rfl ?_
  refine lv_astore (lv' := [(4, .ref q9), (0, .ref b), (1, .int b0), (2, .int b1), (3, .ref o)]) hx hb dL_fit_24 hl (by decide) rfl (fun ls hl => ?_)
  refine lv_iconst (v := 2) hx hb dL_fit_26 (by decide) ?_
  exact W.iret (v := (2 : Int32)) hx hb hr (fun t ht hW => ⟨rfl, _, ⟨ad, f, rfl, fun h => absurd (show (2 : Int32) = 0 from h) (by decide)⟩, by rw [ht]; exact hP1, hD, by rw [ht]; exact hz1, fun q h1 _ => by rw [ht]; exact hk1 q h1⟩) (fun _ h => nomatch h) dL_fit_27
set_option maxHeartbeats 4000000 in
set_option maxRecDepth 100000 in
theorem l_fit_S (l : Launch) (hst : l.stackTraces = false) (z : Nat) (H0 : Heap) (hz : z ≤ H0.size) (D : va_G) (cI cJ cZ cG : ClassId) (b P : Nat) (ad : Nat → ga) (st : Nat → Option GS) (o : Nat) (f : Nat → Int64) (j : Nat) (x : GS) (b1 : Int32) (hI : BI st) (hj : j < 12) (hst1 : st j = some x) (hok : e_X1_needKind b1 = 0) (hk : ¬ gK x = b1) (htk : ¬ f_X1_stepsTaking st (nI j) ≤ f_X0_ownStepsTaking x (nI j)) (hPO : va_P D vwCl (OW cI cJ cG o b P ad st f) H0) (hDO : va_D (fun _ => True) (OW cI cJ cG o b P ad st f)) : LC l yL_fit wsL_fit [Value.ref b, Value.int (nI j), Value.int b1, Value.ref o] D cI cJ cZ cG z o b P ad st f H0 (3, st, 0) := by
  unfold LC
  refine va_MetW (y := yL_fit) (ws := wsL_fit) (cc := cL_fit) (maxL := 5) (ret := (some .int)) (by decide) rfl ?_
  intro p e s m args below meth c s₁ B hml hv
  obtain ⟨rfl, hH, hKX⟩ := hv
  have hx := B.exec
  have hb := B.bytes
  have hr := B.returns
  have hts := atoms_spec (ws := wsL_fit) B.pre
  have hown : s.vm.findClass RL = some m.cls := findClass_of_methodNamed B.named
  have hlocks := B.notSynchronized
  subst hH
  have hKW := hKX.1.1
  have hK := hKW.1
  have htab : c.exceptionTable.toList = [⟨0, 17, 20, 13⟩, ⟨0, 17, 24, 15⟩, ⟨0, 17, 28, 17⟩] := by rw [vx_table (x := yL_fit) B (hts _ List.mem_cons_self)]; rfl
  have hl := lv_entry ([Value.ref b, Value.int (nI j), Value.int b1, Value.ref o]) (n := 5) (Nat.le_of_ble_eq_true rfl)
  rw [lg_entry_eq]
  generalize (lg_sl ([Value.ref b, Value.int (nI j), Value.int b1, Value.ref o]) ++ List.replicate (5 - (lg_sl ([Value.ref b, Value.int (nI j), Value.int b1, Value.ref o])).length) Slot.unset).toArray = ls at hl ⊢
  have hl : lv_has ls 5 [(0, .ref b), (1, .int (nI j)), (2, .int b1), (3, .ref o)] := hl
  have hPB : va_P D vwCl (BW cI cJ cG b P ad st) s.heap := wd_P.part hPO (fun _ h => List.mem_append_right _ h)
  have hD0 : va_D (fun _ => True) (BW cI cJ cG b P ad st) := wd_D.left (wd_D.perm hDO List.perm_append_comm)
  have hD := hDO.self (sz := s.heap.size)
  generalize hAe : va_A (OW cI cJ cG o b P ad st f) s.heap.size = A at hD ⊢
  have hA : ∀ q : Nat, s.heap.size ≤ q → A q := fun q h => by rw [← hAe]; exact Or.inr h
  have hS : va_S A s.heap s.heap [] := va_S.rf
  have hP := hPO
  refine lv_aload_n hx hb dL_fit_0 rfl (lv_at hl 3 rfl) ?_
  refine lv_iconst (v := 0) hx hb dL_fit_1 (by decide) ?_
  refine lv_aload_n hx hb dL_fit_2 rfl (lv_at hl 0 rfl) ?_
  refine lv_iload_n hx hb dL_fit_3 rfl (lv_at hl 1 rfl) ?_
  refine lv_iload_n hx hb dL_fit_4 rfl (lv_at hl 2 rfl) ?_
  refine ct_V (As := [.int (nI j), .int b1]) (rest := [.int (0 : Int32), .ref o]) ⟨hx, hb, hml, hown, hts⟩ (t_X1_fit_S l hst z s.heap hz D cI cJ cZ cG b P ad st j x b1 hI hj hst1 (hI j hj x hst1).1 hok hk htk hPB) (KZ_puK D cI cJ cZ cG z s.heap) hKX.1 (cwV 2 hts gL_fit_X1_fit rfl rfl rfl (by decide +kernel) ⟨Nat.le_of_ble_eq_true rfl, Nat.le_of_ble_eq_true rfl⟩) (va_recv hK hPB (ci := 1) (q0 := 0) rfl rfl) rfl hl.1 rfl (Nat.le_of_ble_eq_true rfl) dL_fit_5 ⟨Nat.le_of_ble_eq_true rfl, Nat.le_of_ble_eq_true rfl⟩ (name := xS) [⟨0, 17, 20, 13⟩, ⟨0, 17, 24, 15⟩] ⟨0, 17, 28, 17⟩ [] htab (List.forall_mem_cons.mpr ⟨Or.inr ⟨by decide, xN, hts (.classLink RL 13 xN) (by decide +kernel), hKX.2.2.1⟩, List.forall_mem_cons.mpr ⟨Or.inr ⟨by decide, xA, hts (.classLink RL 15 xA) (by decide +kernel), hKX.2.2.2⟩, fun _ h => nomatch h⟩⟩) (by decide) (by decide) (hts (.classLink RL 17 xS) (by decide +kernel)) (hKW.n 21 rfl rfl) (fun H1 q9 hz1 hk1 => ?_)
  have hP1 : va_P D vwCl (OW cI cJ cG o b P ad st f) H1 := hPO.kept (fun k9 x9 hx9 => hk1 x9.1 ((hPO k9 x9 hx9).lt))
  refine W.eq (g2 := F0 m 28 ls [.ref q9]) rfl ?_
  refine lv_astore (lv' := [(4, .ref q9), (0, .ref b), (1, .int (nI j)), (2, .int b1), (3, .ref o)]) hx hb dL_fit_28 hl (by decide) rfl (fun ls hl => ?_)
  refine lv_iconst (v := 3) hx hb dL_fit_30 (by decide) ?_
  exact W.iret (v := (3 : Int32)) hx hb hr (fun t ht hW => ⟨rfl, _, ⟨ad, f, rfl, fun h => absurd (show (3 : Int32) = 0 from h) (by decide)⟩, by rw [ht]; exact hP1, hD, by rw [ht]; exact hz1, fun q h1 _ => by rw [ht]; exact hk1 q h1⟩) (fun _ h => nomatch h) dL_fit_31
set_option maxHeartbeats 4000000 in
set_option maxRecDepth 100000 in
theorem l_fit_O (l : Launch) (hst : l.stackTraces = false) (z : Nat) (H0 : Heap) (hz : z ≤ H0.size) (D : va_G) (cI cJ cZ cG : ClassId) (b P : Nat) (ad : Nat → ga) (st : Nat → Option GS) (o : Nat) (f : Nat → Int64) (j : Nat) (x : GS) (b1 : Int32) (hI : BI st) (hj : j < 12) (hst1 : st j = some x) (hok : e_X1_needKind b1 = 0) (hor : gK x = b1 ∨ f_X1_stepsTaking st (nI j) ≤ f_X0_ownStepsTaking x (nI j)) (hPO : va_P D vwCl (OW cI cJ cG o b P ad st f) H0) (hDO : va_D (fun _ => True) (OW cI cJ cG o b P ad st f)) : LC l yL_fit wsL_fit [Value.ref b, Value.int (nI j), Value.int b1, Value.ref o] D cI cJ cZ cG z o b P ad st f H0 (0, va_up st j (some (F_X0_startAs x b1)), 1) := by
  unfold LC
  refine va_MetW (y := yL_fit) (ws := wsL_fit) (cc := cL_fit) (maxL := 5) (ret := (some .int)) (by decide) rfl ?_
  intro p e s m args below meth c s₁ B hml hv
  obtain ⟨rfl, hH, hKX⟩ := hv
  have hx := B.exec
  have hb := B.bytes
  have hr := B.returns
  have hts := atoms_spec (ws := wsL_fit) B.pre
  have hown : s.vm.findClass RL = some m.cls := findClass_of_methodNamed B.named
  have hlocks := B.notSynchronized
  subst hH
  have hKW := hKX.1.1
  have hK := hKW.1
  have htab : c.exceptionTable.toList = [⟨0, 17, 20, 13⟩, ⟨0, 17, 24, 15⟩, ⟨0, 17, 28, 17⟩] := by rw [vx_table (x := yL_fit) B (hts _ List.mem_cons_self)]; rfl
  have hl := lv_entry ([Value.ref b, Value.int (nI j), Value.int b1, Value.ref o]) (n := 5) (Nat.le_of_ble_eq_true rfl)
  rw [lg_entry_eq]
  generalize (lg_sl ([Value.ref b, Value.int (nI j), Value.int b1, Value.ref o]) ++ List.replicate (5 - (lg_sl ([Value.ref b, Value.int (nI j), Value.int b1, Value.ref o])).length) Slot.unset).toArray = ls at hl ⊢
  have hl : lv_has ls 5 [(0, .ref b), (1, .int (nI j)), (2, .int b1), (3, .ref o)] := hl
  have hPB : va_P D vwCl (BW cI cJ cG b P ad st) s.heap := wd_P.part hPO (fun _ h => List.mem_append_right _ h)
  have hD0 : va_D (fun _ => True) (BW cI cJ cG b P ad st) := wd_D.left (wd_D.perm hDO List.perm_append_comm)
  have hD := hDO.self (sz := s.heap.size)
  generalize hAe : va_A (OW cI cJ cG o b P ad st f) s.heap.size = A at hD ⊢
  have hA : ∀ q : Nat, s.heap.size ≤ q → A q := fun q h => by rw [← hAe]; exact Or.inr h
  have hS : va_S A s.heap s.heap [] := va_S.rf
  have hP := hPO
  refine lv_aload_n hx hb dL_fit_0 rfl (lv_at hl 3 rfl) ?_
  refine lv_iconst (v := 0) hx hb dL_fit_1 (by decide) ?_
  refine lv_aload_n hx hb dL_fit_2 rfl (lv_at hl 0 rfl) ?_
  refine lv_iload_n hx hb dL_fit_3 rfl (lv_at hl 1 rfl) ?_
  refine lv_iload_n hx hb dL_fit_4 rfl (lv_at hl 2 rfl) ?_
  refine wr_V (As := [.int (nI j), .int b1]) (rest := [.int (0 : Int32), .ref o]) (Rw := [(o, .inl (cJ, 1, .inr (.inl f)))]) ⟨hx, hb, hml, hown, hts⟩ ((by have h9 := c_X1_fit_old l s.heap D cI cJ cZ cG b P ad st j x b1 hI hj hst1 (hI j hj x hst1).1 hok hor hPB hD0; rw [fit_eq] at h9; exact h9)) (KW_puK D cI cJ cZ cG) hKW (cwV 2 hts gL_fit_X1_fit rfl rfl rfl (by decide +kernel) ⟨Nat.le_of_ble_eq_true rfl, Nat.le_of_ble_eq_true rfl⟩) (va_recv hK hPB (ci := 1) (q0 := 0) rfl rfl) rfl hl.1 rfl (Nat.le_of_ble_eq_true rfl) dL_fit_5 ⟨Nat.le_of_ble_eq_true rfl, Nat.le_of_ble_eq_true rfl⟩ (wd_P.perm hPO List.perm_append_comm) (wd_D.perm hD List.perm_append_comm) hS hA (fun w1 H locs hw hP hD hS => ?_)
  subst hw
  have hP := wd_P.perm hP List.perm_append_comm
  have hD := wd_D.perm hD List.perm_append_comm
  refine W.eq (g2 := F0 m 8 ls [.int (1 : Int32), .int (0 : Int32), .ref o]) rfl ?_
  refine lv_if_eq (tgt := 15) hx hb dL_fit_8 (by decide) (fun z_9 => absurd z_9 (by decide)) (fun z_9 => ?_)
  refine lv_lconst (v := 1) hx hb dL_fit_11 (by decide) ?_
  refine lv_goto (tgt := 16) hx hb dL_fit_12 (by decide) ?_
  refine va_last (x := (1 : Int64)) hx hb hK hP hD hS 0 1 rfl rfl (show vp_in (nI 0) 1 from vp_in_nI (by decide) (by decide)) dL_fit_16 (fun H locs hP hD hS => ?_)
  have hP : va_P D vwCl ([(o, .inl (cJ, 1, .inr (.inl (vp_updL f (0 : Int32).toNatClampNeg (1 : Int64)))))] ++ BW cI cJ cG b P ad (va_up st j (some (F_X0_startAs x b1)))) H := hP
  have hD : va_D A ([(o, .inl (cJ, 1, .inr (.inl (vp_updL f (0 : Int32).toNatClampNeg (1 : Int64)))))] ++ BW cI cJ cG b P ad (va_up st j (some (F_X0_startAs x b1)))) := hD
  refine lv_goto (tgt := 32) hx hb dL_fit_17 (by decide) ?_
  refine lv_iconst (v := 0) hx hb dL_fit_32 (by decide) ?_
  refine W.widen (k := 4) (n := 35) (Nat.le_of_ble_eq_true rfl) (Nat.le_of_ble_eq_true rfl) ?_
  exact W.iret (v := (0 : Int32)) hx hb hr (fun t ht hW => ⟨rfl, _, ⟨ad, _, rfl, fun _ => updL0 f _⟩, by rw [ht]; exact hP, hD, (hS.F ht).1, (hS.F ht).2⟩) hS.2.2 dL_fit_33
set_option maxHeartbeats 4000000 in
set_option maxRecDepth 100000 in
theorem l_fit_W (l : Launch) (hst : l.stackTraces = false) (z : Nat) (H0 : Heap) (hz : z ≤ H0.size) (D : va_G) (cI cJ cZ cG : ClassId) (b P : Nat) (ad : Nat → ga) (st : Nat → Option GS) (o : Nat) (f : Nat → Int64) (j : Nat) (b1 : Int32) (hj : j < 12) (hst0 : st j = none) (hok : e_X1_needKind b1 = 0) (hPO : va_P D vwCl (OW cI cJ cG o b P ad st f) H0) (hDO : va_D (fun _ => True) (OW cI cJ cG o b P ad st f)) : LC l yL_fit wsL_fit [Value.ref b, Value.int (nI j), Value.int b1, Value.ref o] D cI cJ cZ cG z o b P ad st f H0 (0, va_up st j (some (g0 b1)), 0) := by
  unfold LC
  refine va_MetW (y := yL_fit) (ws := wsL_fit) (cc := cL_fit) (maxL := 5) (ret := (some .int)) (by decide) rfl ?_
  intro p e s m args below meth c s₁ B hml hv
  obtain ⟨rfl, hH, hKX⟩ := hv
  have hx := B.exec
  have hb := B.bytes
  have hr := B.returns
  have hts := atoms_spec (ws := wsL_fit) B.pre
  have hown : s.vm.findClass RL = some m.cls := findClass_of_methodNamed B.named
  have hlocks := B.notSynchronized
  subst hH
  have hKW := hKX.1.1
  have hK := hKW.1
  have htab : c.exceptionTable.toList = [⟨0, 17, 20, 13⟩, ⟨0, 17, 24, 15⟩, ⟨0, 17, 28, 17⟩] := by rw [vx_table (x := yL_fit) B (hts _ List.mem_cons_self)]; rfl
  have hl := lv_entry ([Value.ref b, Value.int (nI j), Value.int b1, Value.ref o]) (n := 5) (Nat.le_of_ble_eq_true rfl)
  rw [lg_entry_eq]
  generalize (lg_sl ([Value.ref b, Value.int (nI j), Value.int b1, Value.ref o]) ++ List.replicate (5 - (lg_sl ([Value.ref b, Value.int (nI j), Value.int b1, Value.ref o])).length) Slot.unset).toArray = ls at hl ⊢
  have hl : lv_has ls 5 [(0, .ref b), (1, .int (nI j)), (2, .int b1), (3, .ref o)] := hl
  have hPB : va_P D vwCl (BW cI cJ cG b P ad st) s.heap := wd_P.part hPO (fun _ h => List.mem_append_right _ h)
  have hD0 : va_D (fun _ => True) (BW cI cJ cG b P ad st) := wd_D.left (wd_D.perm hDO List.perm_append_comm)
  have hD := hDO.self (sz := s.heap.size)
  generalize hAe : va_A (OW cI cJ cG o b P ad st f) s.heap.size = A at hD ⊢
  have hA : ∀ q : Nat, s.heap.size ≤ q → A q := fun q h => by rw [← hAe]; exact Or.inr h
  have hS : va_S A s.heap s.heap [] := va_S.rf
  have hP := hPO
  refine lv_aload_n hx hb dL_fit_0 rfl (lv_at hl 3 rfl) ?_
  refine lv_iconst (v := 0) hx hb dL_fit_1 (by decide) ?_
  refine lv_aload_n hx hb dL_fit_2 rfl (lv_at hl 0 rfl) ?_
  refine lv_iload_n hx hb dL_fit_3 rfl (lv_at hl 1 rfl) ?_
  refine lv_iload_n hx hb dL_fit_4 rfl (lv_at hl 2 rfl) ?_
  refine wr_V (As := [.int (nI j), .int b1]) (rest := [.int (0 : Int32), .ref o]) (Rw := [(o, .inl (cJ, 1, .inr (.inl f)))]) ⟨hx, hb, hml, hown, hts⟩ (c_X1_fit_new l s.heap D cI cJ cZ cG b P ad st j b1 hj hst0 hok hPB hD0) (KW_puK D cI cJ cZ cG) hKW (cwV 2 hts gL_fit_X1_fit rfl rfl rfl (by decide +kernel) ⟨Nat.le_of_ble_eq_true rfl, Nat.le_of_ble_eq_true rfl⟩) (va_recv hK hPB (ci := 1) (q0 := 0) rfl rfl) rfl hl.1 rfl (Nat.le_of_ble_eq_true rfl) dL_fit_5 ⟨Nat.le_of_ble_eq_true rfl, Nat.le_of_ble_eq_true rfl⟩ (wd_P.perm hPO List.perm_append_comm) (wd_D.perm hD List.perm_append_comm) hS hA (fun w1 H locs hw hP hD hS => ?_)
  obtain ⟨q9, rfl⟩ := hw
  have hP := wd_P.perm hP List.perm_append_comm
  have hD := wd_D.perm hD List.perm_append_comm
  refine W.eq (g2 := F0 m 8 ls [.int (0 : Int32), .int (0 : Int32), .ref o]) rfl ?_
  refine lv_if_eq (tgt := 15) hx hb dL_fit_8 (by decide) (fun z_9 => ?_) (fun z_9 => absurd z_9 (by decide))
  refine lv_lconst (v := 0) hx hb dL_fit_15 (by decide) ?_
  refine va_last (x := (0 : Int64)) hx hb hK hP hD hS 0 1 rfl rfl (show vp_in (nI 0) 1 from vp_in_nI (by decide) (by decide)) dL_fit_16 (fun H locs hP hD hS => ?_)
  have hP : va_P D vwCl ([(o, .inl (cJ, 1, .inr (.inl (vp_updL f (0 : Int32).toNatClampNeg (0 : Int64)))))] ++ BW cI cJ cG b P (va_up ad j q9) (va_up st j (some (g0 b1)))) H := hP
  have hD : va_D A ([(o, .inl (cJ, 1, .inr (.inl (vp_updL f (0 : Int32).toNatClampNeg (0 : Int64)))))] ++ BW cI cJ cG b P (va_up ad j q9) (va_up st j (some (g0 b1)))) := hD
  refine lv_goto (tgt := 32) hx hb dL_fit_17 (by decide) ?_
  refine lv_iconst (v := 0) hx hb dL_fit_32 (by decide) ?_
  refine W.widen (k := 4) (n := 35) (Nat.le_of_ble_eq_true rfl) (Nat.le_of_ble_eq_true rfl) ?_
  exact W.iret (v := (0 : Int32)) hx hb hr (fun t ht hW => ⟨rfl, _, ⟨(va_up ad j q9), _, rfl, fun _ => updL0 f _⟩, by rw [ht]; exact hP, hD, (hS.F ht).1, (hS.F ht).2⟩) hS.2.2 dL_fit_33
set_option maxHeartbeats 4000000 in
set_option maxRecDepth 100000 in
theorem l_step_N (l : Launch) (hst : l.stackTraces = false) (z : Nat) (H0 : Heap) (hz : z ≤ H0.size) (D : va_G) (cI cJ cZ cG : ClassId) (b P : Nat) (ad : Nat → ga) (st : Nat → Option GS) (o : Nat) (f : Nat → Int64) (b0 : Int32) (b1 : Int32) (hn : gat st b0 = none) (hPO : va_P D vwCl (OW cI cJ cG o b P ad st f) H0) (hDO : va_D (fun _ => True) (OW cI cJ cG o b P ad st f)) : LC l yL_step wsL_step [Value.ref b, Value.int b0, Value.int b1, Value.ref o] D cI cJ cZ cG z o b P ad st f H0 (1, st, 0) := by
  unfold LC
  refine va_MetW (y := yL_step) (ws := wsL_step) (cc := cL_step) (maxL := 5) (ret := (some .int)) (by decide) rfl ?_
  intro p e s m args below meth c s₁ B hml hv
  obtain ⟨rfl, hH, hKX⟩ := hv
  have hx := B.exec
  have hb := B.bytes
  have hr := B.returns
  have hts := atoms_spec (ws := wsL_step) B.pre
  have hown : s.vm.findClass RL = some m.cls := findClass_of_methodNamed B.named
  have hlocks := B.notSynchronized
  subst hH
  have hKW := hKX.1.1
  have hK := hKW.1
  have htab : c.exceptionTable.toList = [⟨0, 10, 13, 13⟩, ⟨0, 10, 17, 15⟩, ⟨0, 10, 21, 17⟩] := by rw [vx_table (x := yL_step) B (hts _ List.mem_cons_self)]; rfl
  have hl := lv_entry ([Value.ref b, Value.int b0, Value.int b1, Value.ref o]) (n := 5) (Nat.le_of_ble_eq_true rfl)
  rw [lg_entry_eq]
  generalize (lg_sl ([Value.ref b, Value.int b0, Value.int b1, Value.ref o]) ++ List.replicate (5 - (lg_sl ([Value.ref b, Value.int b0, Value.int b1, Value.ref o])).length) Slot.unset).toArray = ls at hl ⊢
  have hl : lv_has ls 5 [(0, .ref b), (1, .int b0), (2, .int b1), (3, .ref o)] := hl
  have hPB : va_P D vwCl (BW cI cJ cG b P ad st) s.heap := wd_P.part hPO (fun _ h => List.mem_append_right _ h)
  have hD0 : va_D (fun _ => True) (BW cI cJ cG b P ad st) := wd_D.left (wd_D.perm hDO List.perm_append_comm)
  have hD := hDO.self (sz := s.heap.size)
  generalize hAe : va_A (OW cI cJ cG o b P ad st f) s.heap.size = A at hD ⊢
  have hA : ∀ q : Nat, s.heap.size ≤ q → A q := fun q h => by rw [← hAe]; exact Or.inr h
  have hS : va_S A s.heap s.heap [] := va_S.rf
  have hP := hPO
  refine lv_aload_n hx hb dL_step_0 rfl (lv_at hl 3 rfl) ?_
  refine lv_iconst (v := 0) hx hb dL_step_1 (by decide) ?_
  refine lv_aload_n hx hb dL_step_2 rfl (lv_at hl 0 rfl) ?_
  refine lv_iload_n hx hb dL_step_3 rfl (lv_at hl 1 rfl) ?_
  refine lv_iload_n hx hb dL_step_4 rfl (lv_at hl 2 rfl) ?_
  refine ct_V (As := [.int b0, .int b1]) (rest := [.int (0 : Int32), .ref o]) ⟨hx, hb, hml, hown, hts⟩ (t_X1_step_N l hst z s.heap hz D cI cJ cZ cG b P ad st b0 b1 hn hPB) (KZ_puK D cI cJ cZ cG z s.heap) hKX.1 (cwV 2 hts gL_step_X1_step rfl rfl rfl (by decide +kernel) ⟨Nat.le_of_ble_eq_true rfl, Nat.le_of_ble_eq_true rfl⟩) (va_recv hK hPB (ci := 1) (q0 := 0) rfl rfl) rfl hl.1 rfl (Nat.le_of_ble_eq_true rfl) dL_step_5 ⟨Nat.le_of_ble_eq_true rfl, Nat.le_of_ble_eq_true rfl⟩ (name := xN) [] ⟨0, 10, 13, 13⟩ [⟨0, 10, 17, 15⟩, ⟨0, 10, 21, 17⟩] htab (fun _ h => nomatch h) (by decide) (by decide) (hts (.classLink RL 13 xN) (by decide +kernel)) (hKW.n 19 rfl rfl) (fun H1 q9 hz1 hk1 => ?_)
  have hP1 : va_P D vwCl (OW cI cJ cG o b P ad st f) H1 := hPO.kept (fun k9 x9 hx9 => hk1 x9.1 ((hPO k9 x9 hx9).lt))
  refine W.eq (g2 := F0 m 13 ls [.ref q9]) rfl ?_
  refine lv_astore (lv' := [(4, .ref q9), (0, .ref b), (1, .int b0), (2, .int b1), (3, .ref o)]) hx hb dL_step_13 hl (by decide) rfl (fun ls hl => ?_)
  refine lv_iconst (v := 1) hx hb dL_step_15 (by decide) ?_
  exact W.iret (v := (1 : Int32)) hx hb hr (fun t ht hW => ⟨rfl, _, ⟨ad, f, rfl, fun h => absurd (show (1 : Int32) = 0 from h) (by decide)⟩, by rw [ht]; exact hP1, hD, by rw [ht]; exact hz1, fun q h1 _ => by rw [ht]; exact hk1 q h1⟩) (fun _ h => nomatch h) dL_step_16
set_option maxHeartbeats 4000000 in
set_option maxRecDepth 100000 in
theorem l_step_A (l : Launch) (hst : l.stackTraces = false) (z : Nat) (H0 : Heap) (hz : z ≤ H0.size) (D : va_G) (cI cJ cZ cG : ClassId) (b P : Nat) (ad : Nat → ga) (st : Nat → Option GS) (o : Nat) (f : Nat → Int64) (j : Nat) (x : GS) (b1 : Int32) (hj : j < 12) (hst1 : st j = some x) (hno : e_X1_needSort (gK x) b1 0 = 2) (hPO : va_P D vwCl (OW cI cJ cG o b P ad st f) H0) (hDO : va_D (fun _ => True) (OW cI cJ cG o b P ad st f)) : LC l yL_step wsL_step [Value.ref b, Value.int (nI j), Value.int b1, Value.ref o] D cI cJ cZ cG z o b P ad st f H0 (2, st, 0) := by
  unfold LC
  refine va_MetW (y := yL_step) (ws := wsL_step) (cc := cL_step) (maxL := 5) (ret := (some .int)) (by decide) rfl ?_
  intro p e s m args below meth c s₁ B hml hv
  obtain ⟨rfl, hH, hKX⟩ := hv
  have hx := B.exec
  have hb := B.bytes
  have hr := B.returns
  have hts := atoms_spec (ws := wsL_step) B.pre
  have hown : s.vm.findClass RL = some m.cls := findClass_of_methodNamed B.named
  have hlocks := B.notSynchronized
  subst hH
  have hKW := hKX.1.1
  have hK := hKW.1
  have htab : c.exceptionTable.toList = [⟨0, 10, 13, 13⟩, ⟨0, 10, 17, 15⟩, ⟨0, 10, 21, 17⟩] := by rw [vx_table (x := yL_step) B (hts _ List.mem_cons_self)]; rfl
  have hl := lv_entry ([Value.ref b, Value.int (nI j), Value.int b1, Value.ref o]) (n := 5) (Nat.le_of_ble_eq_true rfl)
  rw [lg_entry_eq]
  generalize (lg_sl ([Value.ref b, Value.int (nI j), Value.int b1, Value.ref o]) ++ List.replicate (5 - (lg_sl ([Value.ref b, Value.int (nI j), Value.int b1, Value.ref o])).length) Slot.unset).toArray = ls at hl ⊢
  have hl : lv_has ls 5 [(0, .ref b), (1, .int (nI j)), (2, .int b1), (3, .ref o)] := hl
  have hPB : va_P D vwCl (BW cI cJ cG b P ad st) s.heap := wd_P.part hPO (fun _ h => List.mem_append_right _ h)
  have hD0 : va_D (fun _ => True) (BW cI cJ cG b P ad st) := wd_D.left (wd_D.perm hDO List.perm_append_comm)
  have hD := hDO.self (sz := s.heap.size)
  generalize hAe : va_A (OW cI cJ cG o b P ad st f) s.heap.size = A at hD ⊢
  have hA : ∀ q : Nat, s.heap.size ≤ q → A q := fun q h => by rw [← hAe]; exact Or.inr h
  have hS : va_S A s.heap s.heap [] := va_S.rf
  have hP := hPO
  refine lv_aload_n hx hb dL_step_0 rfl (lv_at hl 3 rfl) ?_
  refine lv_iconst (v := 0) hx hb dL_step_1 (by decide) ?_
  refine lv_aload_n hx hb dL_step_2 rfl (lv_at hl 0 rfl) ?_
  refine lv_iload_n hx hb dL_step_3 rfl (lv_at hl 1 rfl) ?_
  refine lv_iload_n hx hb dL_step_4 rfl (lv_at hl 2 rfl) ?_
  refine ct_V (As := [.int (nI j), .int b1]) (rest := [.int (0 : Int32), .ref o]) ⟨hx, hb, hml, hown, hts⟩ (t_X1_step_A l hst z s.heap hz D cI cJ cZ cG b P ad st j x b1 hj hst1 hno hPB) (KZ_puK D cI cJ cZ cG z s.heap) hKX.1 (cwV 2 hts gL_step_X1_step rfl rfl rfl (by decide +kernel) ⟨Nat.le_of_ble_eq_true rfl, Nat.le_of_ble_eq_true rfl⟩) (va_recv hK hPB (ci := 1) (q0 := 0) rfl rfl) rfl hl.1 rfl (Nat.le_of_ble_eq_true rfl) dL_step_5 ⟨Nat.le_of_ble_eq_true rfl, Nat.le_of_ble_eq_true rfl⟩ (name := xA) [⟨0, 10, 13, 13⟩] ⟨0, 10, 17, 15⟩ [⟨0, 10, 21, 17⟩] htab (List.forall_mem_cons.mpr ⟨Or.inr ⟨by decide, xN, hts (.classLink RL 13 xN) (by decide +kernel), hKX.2.1⟩, fun _ h => nomatch h⟩) (by decide) (by decide) (hts (.classLink RL 15 xA) (by decide +kernel)) (hKW.n 20 rfl rfl) (fun H1 q9 hz1 hk1 => ?_)
  have hP1 : va_P D vwCl (OW cI cJ cG o b P ad st f) H1 := hPO.kept (fun k9 x9 hx9 => hk1 x9.1 ((hPO k9 x9 hx9).lt))
  refine W.eq (g2 := F0 m 17 ls [.ref q9]) rfl ?_
  refine lv_astore (lv' := [(4, .ref q9), (0, .ref b), (1, .int (nI j)), (2, .int b1), (3, .ref o)]) hx hb dL_step_17 hl (by decide) rfl (fun ls hl => ?_)
  refine lv_iconst (v := 2) hx hb dL_step_19 (by decide) ?_
  exact W.iret (v := (2 : Int32)) hx hb hr (fun t ht hW => ⟨rfl, _, ⟨ad, f, rfl, fun h => absurd (show (2 : Int32) = 0 from h) (by decide)⟩, by rw [ht]; exact hP1, hD, by rw [ht]; exact hz1, fun q h1 _ => by rw [ht]; exact hk1 q h1⟩) (fun _ h => nomatch h) dL_step_20
set_option maxHeartbeats 4000000 in
set_option maxRecDepth 100000 in
theorem l_step_S (l : Launch) (hst : l.stackTraces = false) (z : Nat) (H0 : Heap) (hz : z ≤ H0.size) (D : va_G) (cI cJ cZ cG : ClassId) (b P : Nat) (ad : Nat → ga) (st : Nat → Option GS) (o : Nat) (f : Nat → Int64) (j : Nat) (x : GS) (b1 : Int32) (hj : j < 12) (hst1 : st j = some x) (hok : e_X1_needSort (gK x) b1 0 = 0) (hge : ¬ gC x < (8 : Int32)) (hPO : va_P D vwCl (OW cI cJ cG o b P ad st f) H0) (hDO : va_D (fun _ => True) (OW cI cJ cG o b P ad st f)) : LC l yL_step wsL_step [Value.ref b, Value.int (nI j), Value.int b1, Value.ref o] D cI cJ cZ cG z o b P ad st f H0 (3, st, 0) := by
  unfold LC
  refine va_MetW (y := yL_step) (ws := wsL_step) (cc := cL_step) (maxL := 5) (ret := (some .int)) (by decide) rfl ?_
  intro p e s m args below meth c s₁ B hml hv
  obtain ⟨rfl, hH, hKX⟩ := hv
  have hx := B.exec
  have hb := B.bytes
  have hr := B.returns
  have hts := atoms_spec (ws := wsL_step) B.pre
  have hown : s.vm.findClass RL = some m.cls := findClass_of_methodNamed B.named
  have hlocks := B.notSynchronized
  subst hH
  have hKW := hKX.1.1
  have hK := hKW.1
  have htab : c.exceptionTable.toList = [⟨0, 10, 13, 13⟩, ⟨0, 10, 17, 15⟩, ⟨0, 10, 21, 17⟩] := by rw [vx_table (x := yL_step) B (hts _ List.mem_cons_self)]; rfl
  have hl := lv_entry ([Value.ref b, Value.int (nI j), Value.int b1, Value.ref o]) (n := 5) (Nat.le_of_ble_eq_true rfl)
  rw [lg_entry_eq]
  generalize (lg_sl ([Value.ref b, Value.int (nI j), Value.int b1, Value.ref o]) ++ List.replicate (5 - (lg_sl ([Value.ref b, Value.int (nI j), Value.int b1, Value.ref o])).length) Slot.unset).toArray = ls at hl ⊢
  have hl : lv_has ls 5 [(0, .ref b), (1, .int (nI j)), (2, .int b1), (3, .ref o)] := hl
  have hPB : va_P D vwCl (BW cI cJ cG b P ad st) s.heap := wd_P.part hPO (fun _ h => List.mem_append_right _ h)
  have hD0 : va_D (fun _ => True) (BW cI cJ cG b P ad st) := wd_D.left (wd_D.perm hDO List.perm_append_comm)
  have hD := hDO.self (sz := s.heap.size)
  generalize hAe : va_A (OW cI cJ cG o b P ad st f) s.heap.size = A at hD ⊢
  have hA : ∀ q : Nat, s.heap.size ≤ q → A q := fun q h => by rw [← hAe]; exact Or.inr h
  have hS : va_S A s.heap s.heap [] := va_S.rf
  have hP := hPO
  refine lv_aload_n hx hb dL_step_0 rfl (lv_at hl 3 rfl) ?_
  refine lv_iconst (v := 0) hx hb dL_step_1 (by decide) ?_
  refine lv_aload_n hx hb dL_step_2 rfl (lv_at hl 0 rfl) ?_
  refine lv_iload_n hx hb dL_step_3 rfl (lv_at hl 1 rfl) ?_
  refine lv_iload_n hx hb dL_step_4 rfl (lv_at hl 2 rfl) ?_
  refine ct_V (As := [.int (nI j), .int b1]) (rest := [.int (0 : Int32), .ref o]) ⟨hx, hb, hml, hown, hts⟩ (t_X1_step_S l hst z s.heap hz D cI cJ cZ cG b P ad st j x b1 hj hst1 hok hge hPB) (KZ_puK D cI cJ cZ cG z s.heap) hKX.1 (cwV 2 hts gL_step_X1_step rfl rfl rfl (by decide +kernel) ⟨Nat.le_of_ble_eq_true rfl, Nat.le_of_ble_eq_true rfl⟩) (va_recv hK hPB (ci := 1) (q0 := 0) rfl rfl) rfl hl.1 rfl (Nat.le_of_ble_eq_true rfl) dL_step_5 ⟨Nat.le_of_ble_eq_true rfl, Nat.le_of_ble_eq_true rfl⟩ (name := xS) [⟨0, 10, 13, 13⟩, ⟨0, 10, 17, 15⟩] ⟨0, 10, 21, 17⟩ [] htab (List.forall_mem_cons.mpr ⟨Or.inr ⟨by decide, xN, hts (.classLink RL 13 xN) (by decide +kernel), hKX.2.2.1⟩, List.forall_mem_cons.mpr ⟨Or.inr ⟨by decide, xA, hts (.classLink RL 15 xA) (by decide +kernel), hKX.2.2.2⟩, fun _ h => nomatch h⟩⟩) (by decide) (by decide) (hts (.classLink RL 17 xS) (by decide +kernel)) (hKW.n 21 rfl rfl) (fun H1 q9 hz1 hk1 => ?_)
  have hP1 : va_P D vwCl (OW cI cJ cG o b P ad st f) H1 := hPO.kept (fun k9 x9 hx9 => hk1 x9.1 ((hPO k9 x9 hx9).lt))
  refine W.eq (g2 := F0 m 21 ls [.ref q9]) rfl ?_
  refine lv_astore (lv' := [(4, .ref q9), (0, .ref b), (1, .int (nI j)), (2, .int b1), (3, .ref o)]) hx hb dL_step_21 hl (by decide) rfl (fun ls hl => ?_)
  refine lv_iconst (v := 3) hx hb dL_step_23 (by decide) ?_
  exact W.iret (v := (3 : Int32)) hx hb hr (fun t ht hW => ⟨rfl, _, ⟨ad, f, rfl, fun h => absurd (show (3 : Int32) = 0 from h) (by decide)⟩, by rw [ht]; exact hP1, hD, by rw [ht]; exact hz1, fun q h1 _ => by rw [ht]; exact hk1 q h1⟩) (fun _ h => nomatch h) dL_step_24
set_option maxHeartbeats 4000000 in
set_option maxRecDepth 100000 in
theorem l_step_O (l : Launch) (hst : l.stackTraces = false) (z : Nat) (H0 : Heap) (hz : z ≤ H0.size) (D : va_G) (cI cJ cZ cG : ClassId) (b P : Nat) (ad : Nat → ga) (st : Nat → Option GS) (o : Nat) (f : Nat → Int64) (j : Nat) (x : GS) (b1 : Int32) (hI : BI st) (hj : j < 12) (hst1 : st j = some x) (hok : e_X1_needSort (gK x) b1 0 = 0) (hlt : gC x < (8 : Int32)) (hPO : va_P D vwCl (OW cI cJ cG o b P ad st f) H0) (hDO : va_D (fun _ => True) (OW cI cJ cG o b P ad st f)) : LC l yL_step wsL_step [Value.ref b, Value.int (nI j), Value.int b1, Value.ref o] D cI cJ cZ cG z o b P ad st f H0 (0, va_up st j (some (F_X1_step x b1).2), (F_X1_step x b1).1.toInt64) := by
  unfold LC
  refine va_MetW (y := yL_step) (ws := wsL_step) (cc := cL_step) (maxL := 5) (ret := (some .int)) (by decide) rfl ?_
  intro p e s m args below meth c s₁ B hml hv
  obtain ⟨rfl, hH, hKX⟩ := hv
  have hx := B.exec
  have hb := B.bytes
  have hr := B.returns
  have hts := atoms_spec (ws := wsL_step) B.pre
  have hown : s.vm.findClass RL = some m.cls := findClass_of_methodNamed B.named
  have hlocks := B.notSynchronized
  subst hH
  have hKW := hKX.1.1
  have hK := hKW.1
  have htab : c.exceptionTable.toList = [⟨0, 10, 13, 13⟩, ⟨0, 10, 17, 15⟩, ⟨0, 10, 21, 17⟩] := by rw [vx_table (x := yL_step) B (hts _ List.mem_cons_self)]; rfl
  have hl := lv_entry ([Value.ref b, Value.int (nI j), Value.int b1, Value.ref o]) (n := 5) (Nat.le_of_ble_eq_true rfl)
  rw [lg_entry_eq]
  generalize (lg_sl ([Value.ref b, Value.int (nI j), Value.int b1, Value.ref o]) ++ List.replicate (5 - (lg_sl ([Value.ref b, Value.int (nI j), Value.int b1, Value.ref o])).length) Slot.unset).toArray = ls at hl ⊢
  have hl : lv_has ls 5 [(0, .ref b), (1, .int (nI j)), (2, .int b1), (3, .ref o)] := hl
  have hPB : va_P D vwCl (BW cI cJ cG b P ad st) s.heap := wd_P.part hPO (fun _ h => List.mem_append_right _ h)
  have hD0 : va_D (fun _ => True) (BW cI cJ cG b P ad st) := wd_D.left (wd_D.perm hDO List.perm_append_comm)
  have hD := hDO.self (sz := s.heap.size)
  generalize hAe : va_A (OW cI cJ cG o b P ad st f) s.heap.size = A at hD ⊢
  have hA : ∀ q : Nat, s.heap.size ≤ q → A q := fun q h => by rw [← hAe]; exact Or.inr h
  have hS : va_S A s.heap s.heap [] := va_S.rf
  have hP := hPO
  refine lv_aload_n hx hb dL_step_0 rfl (lv_at hl 3 rfl) ?_
  refine lv_iconst (v := 0) hx hb dL_step_1 (by decide) ?_
  refine lv_aload_n hx hb dL_step_2 rfl (lv_at hl 0 rfl) ?_
  refine lv_iload_n hx hb dL_step_3 rfl (lv_at hl 1 rfl) ?_
  refine lv_iload_n hx hb dL_step_4 rfl (lv_at hl 2 rfl) ?_
  refine wr_V (As := [.int (nI j), .int b1]) (rest := [.int (0 : Int32), .ref o]) (Rw := [(o, .inl (cJ, 1, .inr (.inl f)))]) ⟨hx, hb, hml, hown, hts⟩ (c_X1_step l s.heap D cI cJ cZ cG b P ad st j x b1 hj hst1 (hI j hj x hst1).1 hok hlt hPB hD0) (KW_puK D cI cJ cZ cG) hKW (cwV 2 hts gL_step_X1_step rfl rfl rfl (by decide +kernel) ⟨Nat.le_of_ble_eq_true rfl, Nat.le_of_ble_eq_true rfl⟩) (va_recv hK hPB (ci := 1) (q0 := 0) rfl rfl) rfl hl.1 rfl (Nat.le_of_ble_eq_true rfl) dL_step_5 ⟨Nat.le_of_ble_eq_true rfl, Nat.le_of_ble_eq_true rfl⟩ (wd_P.perm hPO List.perm_append_comm) (wd_D.perm hD List.perm_append_comm) hS hA (fun w1 H locs hw hP hD hS => ?_)
  subst hw
  have hP := wd_P.perm hP List.perm_append_comm
  have hD := wd_D.perm hD List.perm_append_comm
  refine W.eq (g2 := F0 m 8 ls [.int ((F_X1_step x b1).1), .int (0 : Int32), .ref o]) rfl ?_
  refine lv_i2l hx hb dL_step_8 rfl ?_
  refine va_last (x := ((F_X1_step x b1).1).toInt64) hx hb hK hP hD hS 0 1 rfl rfl (show vp_in (nI 0) 1 from vp_in_nI (by decide) (by decide)) dL_step_9 (fun H locs hP hD hS => ?_)
  have hP : va_P D vwCl ([(o, .inl (cJ, 1, .inr (.inl (vp_updL f (0 : Int32).toNatClampNeg (((F_X1_step x b1).1).toInt64)))))] ++ BW cI cJ cG b P ad (va_up st j (some (F_X1_step x b1).2))) H := hP
  have hD : va_D A ([(o, .inl (cJ, 1, .inr (.inl (vp_updL f (0 : Int32).toNatClampNeg (((F_X1_step x b1).1).toInt64)))))] ++ BW cI cJ cG b P ad (va_up st j (some (F_X1_step x b1).2))) := hD
  refine lv_goto (tgt := 25) hx hb dL_step_10 (by decide) ?_
  refine lv_iconst (v := 0) hx hb dL_step_25 (by decide) ?_
  refine W.widen (k := 4) (n := 35) (Nat.le_of_ble_eq_true rfl) (Nat.le_of_ble_eq_true rfl) ?_
  exact W.iret (v := (0 : Int32)) hx hb hr (fun t ht hW => ⟨rfl, _, ⟨ad, _, rfl, fun _ => updL0 f _⟩, by rw [ht]; exact hP, hD, (hS.F ht).1, (hS.F ht).2⟩) hS.2.2 dL_step_26
set_option maxHeartbeats 4000000 in
set_option maxRecDepth 100000 in
theorem l_stepBy_N (l : Launch) (hst : l.stackTraces = false) (z : Nat) (H0 : Heap) (hz : z ≤ H0.size) (D : va_G) (cI cJ cZ cG : ClassId) (b P : Nat) (ad : Nat → ga) (st : Nat → Option GS) (o : Nat) (f : Nat → Int64) (b0 : Int32) (b1 : Int32) (b2 : Int64) (hn : gat st b0 = none) (hPO : va_P D vwCl (OW cI cJ cG o b P ad st f) H0) (hDO : va_D (fun _ => True) (OW cI cJ cG o b P ad st f)) : LC l yL_stepBy wsL_stepBy [Value.ref b, Value.int b0, Value.int b1, Value.long b2, Value.ref o] D cI cJ cZ cG z o b P ad st f H0 (1, st, 0) := by
  unfold LC
  refine va_MetW (y := yL_stepBy) (ws := wsL_stepBy) (cc := cL_stepBy) (maxL := 7) (ret := (some .int)) (by decide) rfl ?_
  intro p e s m args below meth c s₁ B hml hv
  obtain ⟨rfl, hH, hKX⟩ := hv
  have hx := B.exec
  have hb := B.bytes
  have hr := B.returns
  have hts := atoms_spec (ws := wsL_stepBy) B.pre
  have hown : s.vm.findClass RL = some m.cls := findClass_of_methodNamed B.named
  have hlocks := B.notSynchronized
  subst hH
  have hKW := hKX.1.1
  have hK := hKW.1
  have htab : c.exceptionTable.toList = [⟨0, 12, 15, 13⟩, ⟨0, 12, 19, 15⟩, ⟨0, 12, 23, 17⟩] := by rw [vx_table (x := yL_stepBy) B (hts _ List.mem_cons_self)]; rfl
  have hl := lv_entry ([Value.ref b, Value.int b0, Value.int b1, Value.long b2, Value.ref o]) (n := 7) (Nat.le_of_ble_eq_true rfl)
  rw [lg_entry_eq]
  generalize (lg_sl ([Value.ref b, Value.int b0, Value.int b1, Value.long b2, Value.ref o]) ++ List.replicate (7 - (lg_sl ([Value.ref b, Value.int b0, Value.int b1, Value.long b2, Value.ref o])).length) Slot.unset).toArray = ls at hl ⊢
  have hl : lv_has ls 7 [(0, .ref b), (1, .int b0), (2, .int b1), (3, .long b2), (5, .ref o)] := hl
  have hPB : va_P D vwCl (BW cI cJ cG b P ad st) s.heap := wd_P.part hPO (fun _ h => List.mem_append_right _ h)
  have hD0 : va_D (fun _ => True) (BW cI cJ cG b P ad st) := wd_D.left (wd_D.perm hDO List.perm_append_comm)
  have hD := hDO.self (sz := s.heap.size)
  generalize hAe : va_A (OW cI cJ cG o b P ad st f) s.heap.size = A at hD ⊢
  have hA : ∀ q : Nat, s.heap.size ≤ q → A q := fun q h => by rw [← hAe]; exact Or.inr h
  have hS : va_S A s.heap s.heap [] := va_S.rf
  have hP := hPO
  refine lv_aload hx hb dL_stepBy_0 (lv_at hl 4 rfl) ?_
  refine lv_iconst (v := 0) hx hb dL_stepBy_2 (by decide) ?_
  refine lv_aload_n hx hb dL_stepBy_3 rfl (lv_at hl 0 rfl) ?_
  refine lv_iload_n hx hb dL_stepBy_4 rfl (lv_at hl 1 rfl) ?_
  refine lv_iload_n hx hb dL_stepBy_5 rfl (lv_at hl 2 rfl) ?_
  refine lv_lload_n hx hb dL_stepBy_6 rfl (lv_at hl 3 rfl) ?_
  refine ct_V (As := [.int b0, .int b1, .long b2]) (rest := [.int (0 : Int32), .ref o]) ⟨hx, hb, hml, hown, hts⟩ (t_X1_stepBy_N l hst z s.heap hz D cI cJ cZ cG b P ad st b0 b1 b2 hn hPB) (KZ_puK D cI cJ cZ cG z s.heap) hKX.1 (cwV 3 hts gL_stepBy_X1_stepBy rfl rfl rfl (by decide +kernel) ⟨Nat.le_of_ble_eq_true rfl, Nat.le_of_ble_eq_true rfl⟩) (va_recv hK hPB (ci := 1) (q0 := 0) rfl rfl) rfl hl.1 rfl (Nat.le_of_ble_eq_true rfl) dL_stepBy_7 ⟨Nat.le_of_ble_eq_true rfl, Nat.le_of_ble_eq_true rfl⟩ (name := xN) [] ⟨0, 12, 15, 13⟩ [⟨0, 12, 19, 15⟩, ⟨0, 12, 23, 17⟩] htab (fun _ h => nomatch h) (by decide) (by decide) (hts (.classLink RL 13 xN) (by decide +kernel)) (hKW.n 19 rfl rfl) (fun H1 q9 hz1 hk1 => ?_)
  have hP1 : va_P D vwCl (OW cI cJ cG o b P ad st f) H1 := hPO.kept (fun k9 x9 hx9 => hk1 x9.1 ((hPO k9 x9 hx9).lt))
  refine W.eq (g2 := F0 m 15 ls [.ref q9]) rfl ?_
  refine lv_astore (lv' := [(6, .ref q9), (0, .ref b), (1, .int b0), (2, .int b1), (3, .long b2), (5, .ref o)]) hx hb dL_stepBy_15 hl (by decide) rfl (fun ls hl => ?_)
  refine lv_iconst (v := 1) hx hb dL_stepBy_17 (by decide) ?_
  exact W.iret (v := (1 : Int32)) hx hb hr (fun t ht hW => ⟨rfl, _, ⟨ad, f, rfl, fun h => absurd (show (1 : Int32) = 0 from h) (by decide)⟩, by rw [ht]; exact hP1, hD, by rw [ht]; exact hz1, fun q h1 _ => by rw [ht]; exact hk1 q h1⟩) (fun _ h => nomatch h) dL_stepBy_18
set_option maxHeartbeats 4000000 in
set_option maxRecDepth 100000 in
theorem l_stepBy_A (l : Launch) (hst : l.stackTraces = false) (z : Nat) (H0 : Heap) (hz : z ≤ H0.size) (D : va_G) (cI cJ cZ cG : ClassId) (b P : Nat) (ad : Nat → ga) (st : Nat → Option GS) (o : Nat) (f : Nat → Int64) (j : Nat) (x : GS) (b1 : Int32) (b2 : Int64) (hj : j < 12) (hst1 : st j = some x) (hno : e_X1_needSort (gK x) b1 1 = 2) (hPO : va_P D vwCl (OW cI cJ cG o b P ad st f) H0) (hDO : va_D (fun _ => True) (OW cI cJ cG o b P ad st f)) : LC l yL_stepBy wsL_stepBy [Value.ref b, Value.int (nI j), Value.int b1, Value.long b2, Value.ref o] D cI cJ cZ cG z o b P ad st f H0 (2, st, 0) := by
  unfold LC
  refine va_MetW (y := yL_stepBy) (ws := wsL_stepBy) (cc := cL_stepBy) (maxL := 7) (ret := (some .int)) (by decide) rfl ?_
  intro p e s m args below meth c s₁ B hml hv
  obtain ⟨rfl, hH, hKX⟩ := hv
  have hx := B.exec
  have hb := B.bytes
  have hr := B.returns
  have hts := atoms_spec (ws := wsL_stepBy) B.pre
  have hown : s.vm.findClass RL = some m.cls := findClass_of_methodNamed B.named
  have hlocks := B.notSynchronized
  subst hH
  have hKW := hKX.1.1
  have hK := hKW.1
  have htab : c.exceptionTable.toList = [⟨0, 12, 15, 13⟩, ⟨0, 12, 19, 15⟩, ⟨0, 12, 23, 17⟩] := by rw [vx_table (x := yL_stepBy) B (hts _ List.mem_cons_self)]; rfl
  have hl := lv_entry ([Value.ref b, Value.int (nI j), Value.int b1, Value.long b2, Value.ref o]) (n := 7) (Nat.le_of_ble_eq_true rfl)
  rw [lg_entry_eq]
  generalize (lg_sl ([Value.ref b, Value.int (nI j), Value.int b1, Value.long b2, Value.ref o]) ++ List.replicate (7 - (lg_sl ([Value.ref b, Value.int (nI j), Value.int b1, Value.long b2, Value.ref o])).length) Slot.unset).toArray = ls at hl ⊢
  have hl : lv_has ls 7 [(0, .ref b), (1, .int (nI j)), (2, .int b1), (3, .long b2), (5, .ref o)] := hl
  have hPB : va_P D vwCl (BW cI cJ cG b P ad st) s.heap := wd_P.part hPO (fun _ h => List.mem_append_right _ h)
  have hD0 : va_D (fun _ => True) (BW cI cJ cG b P ad st) := wd_D.left (wd_D.perm hDO List.perm_append_comm)
  have hD := hDO.self (sz := s.heap.size)
  generalize hAe : va_A (OW cI cJ cG o b P ad st f) s.heap.size = A at hD ⊢
  have hA : ∀ q : Nat, s.heap.size ≤ q → A q := fun q h => by rw [← hAe]; exact Or.inr h
  have hS : va_S A s.heap s.heap [] := va_S.rf
  have hP := hPO
  refine lv_aload hx hb dL_stepBy_0 (lv_at hl 4 rfl) ?_
  refine lv_iconst (v := 0) hx hb dL_stepBy_2 (by decide) ?_
  refine lv_aload_n hx hb dL_stepBy_3 rfl (lv_at hl 0 rfl) ?_
  refine lv_iload_n hx hb dL_stepBy_4 rfl (lv_at hl 1 rfl) ?_
  refine lv_iload_n hx hb dL_stepBy_5 rfl (lv_at hl 2 rfl) ?_
  refine lv_lload_n hx hb dL_stepBy_6 rfl (lv_at hl 3 rfl) ?_
  refine ct_V (As := [.int (nI j), .int b1, .long b2]) (rest := [.int (0 : Int32), .ref o]) ⟨hx, hb, hml, hown, hts⟩ (t_X1_stepBy_A l hst z s.heap hz D cI cJ cZ cG b P ad st j x b1 b2 hj hst1 hno hPB) (KZ_puK D cI cJ cZ cG z s.heap) hKX.1 (cwV 3 hts gL_stepBy_X1_stepBy rfl rfl rfl (by decide +kernel) ⟨Nat.le_of_ble_eq_true rfl, Nat.le_of_ble_eq_true rfl⟩) (va_recv hK hPB (ci := 1) (q0 := 0) rfl rfl) rfl hl.1 rfl (Nat.le_of_ble_eq_true rfl) dL_stepBy_7 ⟨Nat.le_of_ble_eq_true rfl, Nat.le_of_ble_eq_true rfl⟩ (name := xA) [⟨0, 12, 15, 13⟩] ⟨0, 12, 19, 15⟩ [⟨0, 12, 23, 17⟩] htab (List.forall_mem_cons.mpr ⟨Or.inr ⟨by decide, xN, hts (.classLink RL 13 xN) (by decide +kernel), hKX.2.1⟩, fun _ h => nomatch h⟩) (by decide) (by decide) (hts (.classLink RL 15 xA) (by decide +kernel)) (hKW.n 20 rfl rfl) (fun H1 q9 hz1 hk1 => ?_)
  have hP1 : va_P D vwCl (OW cI cJ cG o b P ad st f) H1 := hPO.kept (fun k9 x9 hx9 => hk1 x9.1 ((hPO k9 x9 hx9).lt))
  refine W.eq (g2 := F0 m 19 ls [.ref q9]) rfl ?_
  refine lv_astore (lv' := [(6, .ref q9), (0, .ref b), (1, .int (nI j)), (2, .int b1), (3, .long b2), (5, .ref o)]) hx hb dL_stepBy_19 hl (by decide) rfl (fun ls hl => ?_)
  refine lv_iconst (v := 2) hx hb dL_stepBy_21 (by decide) ?_
  exact W.iret (v := (2 : Int32)) hx hb hr (fun t ht hW => ⟨rfl, _, ⟨ad, f, rfl, fun h => absurd (show (2 : Int32) = 0 from h) (by decide)⟩, by rw [ht]; exact hP1, hD, by rw [ht]; exact hz1, fun q h1 _ => by rw [ht]; exact hk1 q h1⟩) (fun _ h => nomatch h) dL_stepBy_22
set_option maxHeartbeats 4000000 in
set_option maxRecDepth 100000 in
theorem l_stepBy_B (l : Launch) (hst : l.stackTraces = false) (z : Nat) (H0 : Heap) (hz : z ≤ H0.size) (D : va_G) (cI cJ cZ cG : ClassId) (b P : Nat) (ad : Nat → ga) (st : Nat → Option GS) (o : Nat) (f : Nat → Int64) (j : Nat) (x : GS) (b1 : Int32) (b2 : Int64) (hj : j < 12) (hst1 : st j = some x) (hok : e_X1_needSort (gK x) b1 1 = 0) (hnog : e_X1_needGood (gK x) b2 = 2) (hPO : va_P D vwCl (OW cI cJ cG o b P ad st f) H0) (hDO : va_D (fun _ => True) (OW cI cJ cG o b P ad st f)) : LC l yL_stepBy wsL_stepBy [Value.ref b, Value.int (nI j), Value.int b1, Value.long b2, Value.ref o] D cI cJ cZ cG z o b P ad st f H0 (2, st, 0) := by
  unfold LC
  refine va_MetW (y := yL_stepBy) (ws := wsL_stepBy) (cc := cL_stepBy) (maxL := 7) (ret := (some .int)) (by decide) rfl ?_
  intro p e s m args below meth c s₁ B hml hv
  obtain ⟨rfl, hH, hKX⟩ := hv
  have hx := B.exec
  have hb := B.bytes
  have hr := B.returns
  have hts := atoms_spec (ws := wsL_stepBy) B.pre
  have hown : s.vm.findClass RL = some m.cls := findClass_of_methodNamed B.named
  have hlocks := B.notSynchronized
  subst hH
  have hKW := hKX.1.1
  have hK := hKW.1
  have htab : c.exceptionTable.toList = [⟨0, 12, 15, 13⟩, ⟨0, 12, 19, 15⟩, ⟨0, 12, 23, 17⟩] := by rw [vx_table (x := yL_stepBy) B (hts _ List.mem_cons_self)]; rfl
  have hl := lv_entry ([Value.ref b, Value.int (nI j), Value.int b1, Value.long b2, Value.ref o]) (n := 7) (Nat.le_of_ble_eq_true rfl)
  rw [lg_entry_eq]
  generalize (lg_sl ([Value.ref b, Value.int (nI j), Value.int b1, Value.long b2, Value.ref o]) ++ List.replicate (7 - (lg_sl ([Value.ref b, Value.int (nI j), Value.int b1, Value.long b2, Value.ref o])).length) Slot.unset).toArray = ls at hl ⊢
  have hl : lv_has ls 7 [(0, .ref b), (1, .int (nI j)), (2, .int b1), (3, .long b2), (5, .ref o)] := hl
  have hPB : va_P D vwCl (BW cI cJ cG b P ad st) s.heap := wd_P.part hPO (fun _ h => List.mem_append_right _ h)
  have hD0 : va_D (fun _ => True) (BW cI cJ cG b P ad st) := wd_D.left (wd_D.perm hDO List.perm_append_comm)
  have hD := hDO.self (sz := s.heap.size)
  generalize hAe : va_A (OW cI cJ cG o b P ad st f) s.heap.size = A at hD ⊢
  have hA : ∀ q : Nat, s.heap.size ≤ q → A q := fun q h => by rw [← hAe]; exact Or.inr h
  have hS : va_S A s.heap s.heap [] := va_S.rf
  have hP := hPO
  refine lv_aload hx hb dL_stepBy_0 (lv_at hl 4 rfl) ?_
  refine lv_iconst (v := 0) hx hb dL_stepBy_2 (by decide) ?_
  refine lv_aload_n hx hb dL_stepBy_3 rfl (lv_at hl 0 rfl) ?_
  refine lv_iload_n hx hb dL_stepBy_4 rfl (lv_at hl 1 rfl) ?_
  refine lv_iload_n hx hb dL_stepBy_5 rfl (lv_at hl 2 rfl) ?_
  refine lv_lload_n hx hb dL_stepBy_6 rfl (lv_at hl 3 rfl) ?_
  refine ct_V (As := [.int (nI j), .int b1, .long b2]) (rest := [.int (0 : Int32), .ref o]) ⟨hx, hb, hml, hown, hts⟩ (t_X1_stepBy_B l hst z s.heap hz D cI cJ cZ cG b P ad st j x b1 b2 hj hst1 hok hnog hPB) (KZ_puK D cI cJ cZ cG z s.heap) hKX.1 (cwV 3 hts gL_stepBy_X1_stepBy rfl rfl rfl (by decide +kernel) ⟨Nat.le_of_ble_eq_true rfl, Nat.le_of_ble_eq_true rfl⟩) (va_recv hK hPB (ci := 1) (q0 := 0) rfl rfl) rfl hl.1 rfl (Nat.le_of_ble_eq_true rfl) dL_stepBy_7 ⟨Nat.le_of_ble_eq_true rfl, Nat.le_of_ble_eq_true rfl⟩ (name := xA) [⟨0, 12, 15, 13⟩] ⟨0, 12, 19, 15⟩ [⟨0, 12, 23, 17⟩] htab (List.forall_mem_cons.mpr ⟨Or.inr ⟨by decide, xN, hts (.classLink RL 13 xN) (by decide +kernel), hKX.2.1⟩, fun _ h => nomatch h⟩) (by decide) (by decide) (hts (.classLink RL 15 xA) (by decide +kernel)) (hKW.n 20 rfl rfl) (fun H1 q9 hz1 hk1 => ?_)
  have hP1 : va_P D vwCl (OW cI cJ cG o b P ad st f) H1 := hPO.kept (fun k9 x9 hx9 => hk1 x9.1 ((hPO k9 x9 hx9).lt))
  refine W.eq (g2 := F0 m 19 ls [.ref q9]) rfl ?_
  refine lv_astore (lv' := [(6, .ref q9), (0, .ref b), (1, .int (nI j)), (2, .int b1), (3, .long b2), (5, .ref o)]) hx hb dL_stepBy_19 hl (by decide) rfl (fun ls hl => ?_)
  refine lv_iconst (v := 2) hx hb dL_stepBy_21 (by decide) ?_
  exact W.iret (v := (2 : Int32)) hx hb hr (fun t ht hW => ⟨rfl, _, ⟨ad, f, rfl, fun h => absurd (show (2 : Int32) = 0 from h) (by decide)⟩, by rw [ht]; exact hP1, hD, by rw [ht]; exact hz1, fun q h1 _ => by rw [ht]; exact hk1 q h1⟩) (fun _ h => nomatch h) dL_stepBy_22
set_option maxHeartbeats 4000000 in
set_option maxRecDepth 100000 in
theorem l_stepBy_S (l : Launch) (hst : l.stackTraces = false) (z : Nat) (H0 : Heap) (hz : z ≤ H0.size) (D : va_G) (cI cJ cZ cG : ClassId) (b P : Nat) (ad : Nat → ga) (st : Nat → Option GS) (o : Nat) (f : Nat → Int64) (j : Nat) (x : GS) (b1 : Int32) (b2 : Int64) (hj : j < 12) (hst1 : st j = some x) (hok : e_X1_needSort (gK x) b1 1 = 0) (hgd : e_X1_needGood (gK x) b2 = 0) (hge : ¬ gC x < (8 : Int32)) (hPO : va_P D vwCl (OW cI cJ cG o b P ad st f) H0) (hDO : va_D (fun _ => True) (OW cI cJ cG o b P ad st f)) : LC l yL_stepBy wsL_stepBy [Value.ref b, Value.int (nI j), Value.int b1, Value.long b2, Value.ref o] D cI cJ cZ cG z o b P ad st f H0 (3, st, 0) := by
  unfold LC
  refine va_MetW (y := yL_stepBy) (ws := wsL_stepBy) (cc := cL_stepBy) (maxL := 7) (ret := (some .int)) (by decide) rfl ?_
  intro p e s m args below meth c s₁ B hml hv
  obtain ⟨rfl, hH, hKX⟩ := hv
  have hx := B.exec
  have hb := B.bytes
  have hr := B.returns
  have hts := atoms_spec (ws := wsL_stepBy) B.pre
  have hown : s.vm.findClass RL = some m.cls := findClass_of_methodNamed B.named
  have hlocks := B.notSynchronized
  subst hH
  have hKW := hKX.1.1
  have hK := hKW.1
  have htab : c.exceptionTable.toList = [⟨0, 12, 15, 13⟩, ⟨0, 12, 19, 15⟩, ⟨0, 12, 23, 17⟩] := by rw [vx_table (x := yL_stepBy) B (hts _ List.mem_cons_self)]; rfl
  have hl := lv_entry ([Value.ref b, Value.int (nI j), Value.int b1, Value.long b2, Value.ref o]) (n := 7) (Nat.le_of_ble_eq_true rfl)
  rw [lg_entry_eq]
  generalize (lg_sl ([Value.ref b, Value.int (nI j), Value.int b1, Value.long b2, Value.ref o]) ++ List.replicate (7 - (lg_sl ([Value.ref b, Value.int (nI j), Value.int b1, Value.long b2, Value.ref o])).length) Slot.unset).toArray = ls at hl ⊢
  have hl : lv_has ls 7 [(0, .ref b), (1, .int (nI j)), (2, .int b1), (3, .long b2), (5, .ref o)] := hl
  have hPB : va_P D vwCl (BW cI cJ cG b P ad st) s.heap := wd_P.part hPO (fun _ h => List.mem_append_right _ h)
  have hD0 : va_D (fun _ => True) (BW cI cJ cG b P ad st) := wd_D.left (wd_D.perm hDO List.perm_append_comm)
  have hD := hDO.self (sz := s.heap.size)
  generalize hAe : va_A (OW cI cJ cG o b P ad st f) s.heap.size = A at hD ⊢
  have hA : ∀ q : Nat, s.heap.size ≤ q → A q := fun q h => by rw [← hAe]; exact Or.inr h
  have hS : va_S A s.heap s.heap [] := va_S.rf
  have hP := hPO
  refine lv_aload hx hb dL_stepBy_0 (lv_at hl 4 rfl) ?_
  refine lv_iconst (v := 0) hx hb dL_stepBy_2 (by decide) ?_
  refine lv_aload_n hx hb dL_stepBy_3 rfl (lv_at hl 0 rfl) ?_
  refine lv_iload_n hx hb dL_stepBy_4 rfl (lv_at hl 1 rfl) ?_
  refine lv_iload_n hx hb dL_stepBy_5 rfl (lv_at hl 2 rfl) ?_
  refine lv_lload_n hx hb dL_stepBy_6 rfl (lv_at hl 3 rfl) ?_
  refine ct_V (As := [.int (nI j), .int b1, .long b2]) (rest := [.int (0 : Int32), .ref o]) ⟨hx, hb, hml, hown, hts⟩ (t_X1_stepBy_S l hst z s.heap hz D cI cJ cZ cG b P ad st j x b1 b2 hj hst1 hok hgd hge hPB) (KZ_puK D cI cJ cZ cG z s.heap) hKX.1 (cwV 3 hts gL_stepBy_X1_stepBy rfl rfl rfl (by decide +kernel) ⟨Nat.le_of_ble_eq_true rfl, Nat.le_of_ble_eq_true rfl⟩) (va_recv hK hPB (ci := 1) (q0 := 0) rfl rfl) rfl hl.1 rfl (Nat.le_of_ble_eq_true rfl) dL_stepBy_7 ⟨Nat.le_of_ble_eq_true rfl, Nat.le_of_ble_eq_true rfl⟩ (name := xS) [⟨0, 12, 15, 13⟩, ⟨0, 12, 19, 15⟩] ⟨0, 12, 23, 17⟩ [] htab (List.forall_mem_cons.mpr ⟨Or.inr ⟨by decide, xN, hts (.classLink RL 13 xN) (by decide +kernel), hKX.2.2.1⟩, List.forall_mem_cons.mpr ⟨Or.inr ⟨by decide, xA, hts (.classLink RL 15 xA) (by decide +kernel), hKX.2.2.2⟩, fun _ h => nomatch h⟩⟩) (by decide) (by decide) (hts (.classLink RL 17 xS) (by decide +kernel)) (hKW.n 21 rfl rfl) (fun H1 q9 hz1 hk1 => ?_)
  have hP1 : va_P D vwCl (OW cI cJ cG o b P ad st f) H1 := hPO.kept (fun k9 x9 hx9 => hk1 x9.1 ((hPO k9 x9 hx9).lt))
  refine W.eq (g2 := F0 m 23 ls [.ref q9]) rfl ?_
  refine lv_astore (lv' := [(6, .ref q9), (0, .ref b), (1, .int (nI j)), (2, .int b1), (3, .long b2), (5, .ref o)]) hx hb dL_stepBy_23 hl (by decide) rfl (fun ls hl => ?_)
  refine lv_iconst (v := 3) hx hb dL_stepBy_25 (by decide) ?_
  exact W.iret (v := (3 : Int32)) hx hb hr (fun t ht hW => ⟨rfl, _, ⟨ad, f, rfl, fun h => absurd (show (3 : Int32) = 0 from h) (by decide)⟩, by rw [ht]; exact hP1, hD, by rw [ht]; exact hz1, fun q h1 _ => by rw [ht]; exact hk1 q h1⟩) (fun _ h => nomatch h) dL_stepBy_26
set_option maxHeartbeats 4000000 in
set_option maxRecDepth 100000 in
theorem l_stepBy_O (l : Launch) (hst : l.stackTraces = false) (z : Nat) (H0 : Heap) (hz : z ≤ H0.size) (D : va_G) (cI cJ cZ cG : ClassId) (b P : Nat) (ad : Nat → ga) (st : Nat → Option GS) (o : Nat) (f : Nat → Int64) (j : Nat) (x : GS) (b1 : Int32) (b2 : Int64) (hI : BI st) (hj : j < 12) (hst1 : st j = some x) (hok : e_X1_needSort (gK x) b1 1 = 0) (hgd : e_X1_needGood (gK x) b2 = 0) (hlt : gC x < (8 : Int32)) (hPO : va_P D vwCl (OW cI cJ cG o b P ad st f) H0) (hDO : va_D (fun _ => True) (OW cI cJ cG o b P ad st f)) : LC l yL_stepBy wsL_stepBy [Value.ref b, Value.int (nI j), Value.int b1, Value.long b2, Value.ref o] D cI cJ cZ cG z o b P ad st f H0 (0, va_up st j (some (F_X1_stepBy x b1 b2).2), (F_X1_stepBy x b1 b2).1.toInt64) := by
  unfold LC
  refine va_MetW (y := yL_stepBy) (ws := wsL_stepBy) (cc := cL_stepBy) (maxL := 7) (ret := (some .int)) (by decide) rfl ?_
  intro p e s m args below meth c s₁ B hml hv
  obtain ⟨rfl, hH, hKX⟩ := hv
  have hx := B.exec
  have hb := B.bytes
  have hr := B.returns
  have hts := atoms_spec (ws := wsL_stepBy) B.pre
  have hown : s.vm.findClass RL = some m.cls := findClass_of_methodNamed B.named
  have hlocks := B.notSynchronized
  subst hH
  have hKW := hKX.1.1
  have hK := hKW.1
  have htab : c.exceptionTable.toList = [⟨0, 12, 15, 13⟩, ⟨0, 12, 19, 15⟩, ⟨0, 12, 23, 17⟩] := by rw [vx_table (x := yL_stepBy) B (hts _ List.mem_cons_self)]; rfl
  have hl := lv_entry ([Value.ref b, Value.int (nI j), Value.int b1, Value.long b2, Value.ref o]) (n := 7) (Nat.le_of_ble_eq_true rfl)
  rw [lg_entry_eq]
  generalize (lg_sl ([Value.ref b, Value.int (nI j), Value.int b1, Value.long b2, Value.ref o]) ++ List.replicate (7 - (lg_sl ([Value.ref b, Value.int (nI j), Value.int b1, Value.long b2, Value.ref o])).length) Slot.unset).toArray = ls at hl ⊢
  have hl : lv_has ls 7 [(0, .ref b), (1, .int (nI j)), (2, .int b1), (3, .long b2), (5, .ref o)] := hl
  have hPB : va_P D vwCl (BW cI cJ cG b P ad st) s.heap := wd_P.part hPO (fun _ h => List.mem_append_right _ h)
  have hD0 : va_D (fun _ => True) (BW cI cJ cG b P ad st) := wd_D.left (wd_D.perm hDO List.perm_append_comm)
  have hD := hDO.self (sz := s.heap.size)
  generalize hAe : va_A (OW cI cJ cG o b P ad st f) s.heap.size = A at hD ⊢
  have hA : ∀ q : Nat, s.heap.size ≤ q → A q := fun q h => by rw [← hAe]; exact Or.inr h
  have hS : va_S A s.heap s.heap [] := va_S.rf
  have hP := hPO
  refine lv_aload hx hb dL_stepBy_0 (lv_at hl 4 rfl) ?_
  refine lv_iconst (v := 0) hx hb dL_stepBy_2 (by decide) ?_
  refine lv_aload_n hx hb dL_stepBy_3 rfl (lv_at hl 0 rfl) ?_
  refine lv_iload_n hx hb dL_stepBy_4 rfl (lv_at hl 1 rfl) ?_
  refine lv_iload_n hx hb dL_stepBy_5 rfl (lv_at hl 2 rfl) ?_
  refine lv_lload_n hx hb dL_stepBy_6 rfl (lv_at hl 3 rfl) ?_
  refine wr_V (As := [.int (nI j), .int b1, .long b2]) (rest := [.int (0 : Int32), .ref o]) (Rw := [(o, .inl (cJ, 1, .inr (.inl f)))]) ⟨hx, hb, hml, hown, hts⟩ (c_X1_stepBy l s.heap D cI cJ cZ cG b P ad st j x b1 b2 hj hst1 (hI j hj x hst1).1 hok hgd hlt hPB hD0) (KW_puK D cI cJ cZ cG) hKW (cwV 3 hts gL_stepBy_X1_stepBy rfl rfl rfl (by decide +kernel) ⟨Nat.le_of_ble_eq_true rfl, Nat.le_of_ble_eq_true rfl⟩) (va_recv hK hPB (ci := 1) (q0 := 0) rfl rfl) rfl hl.1 rfl (Nat.le_of_ble_eq_true rfl) dL_stepBy_7 ⟨Nat.le_of_ble_eq_true rfl, Nat.le_of_ble_eq_true rfl⟩ (wd_P.perm hPO List.perm_append_comm) (wd_D.perm hD List.perm_append_comm) hS hA (fun w1 H locs hw hP hD hS => ?_)
  subst hw
  have hP := wd_P.perm hP List.perm_append_comm
  have hD := wd_D.perm hD List.perm_append_comm
  refine W.eq (g2 := F0 m 10 ls [.int ((F_X1_stepBy x b1 b2).1), .int (0 : Int32), .ref o]) rfl ?_
  refine lv_i2l hx hb dL_stepBy_10 rfl ?_
  refine va_last (x := ((F_X1_stepBy x b1 b2).1).toInt64) hx hb hK hP hD hS 0 1 rfl rfl (show vp_in (nI 0) 1 from vp_in_nI (by decide) (by decide)) dL_stepBy_11 (fun H locs hP hD hS => ?_)
  have hP : va_P D vwCl ([(o, .inl (cJ, 1, .inr (.inl (vp_updL f (0 : Int32).toNatClampNeg (((F_X1_stepBy x b1 b2).1).toInt64)))))] ++ BW cI cJ cG b P ad (va_up st j (some (F_X1_stepBy x b1 b2).2))) H := hP
  have hD : va_D A ([(o, .inl (cJ, 1, .inr (.inl (vp_updL f (0 : Int32).toNatClampNeg (((F_X1_stepBy x b1 b2).1).toInt64)))))] ++ BW cI cJ cG b P ad (va_up st j (some (F_X1_stepBy x b1 b2).2))) := hD
  refine lv_goto (tgt := 27) hx hb dL_stepBy_12 (by decide) ?_
  refine lv_iconst (v := 0) hx hb dL_stepBy_27 (by decide) ?_
  refine W.widen (k := 4) (n := 35) (Nat.le_of_ble_eq_true rfl) (Nat.le_of_ble_eq_true rfl) ?_
  exact W.iret (v := (0 : Int32)) hx hb hr (fun t ht hW => ⟨rfl, _, ⟨ad, _, rfl, fun _ => updL0 f _⟩, by rw [ht]; exact hP, hD, (hS.F ht).1, (hS.F ht).2⟩) hS.2.2 dL_stepBy_28
