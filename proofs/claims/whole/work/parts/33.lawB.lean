set_option maxHeartbeats 4000000 in
set_option maxRecDepth 100000 in
theorem l_stepOf_N (l : Launch) (hst : l.stackTraces = false) (z : Nat) (H0 : Heap) (hz : z ≤ H0.size) (D : va_G) (cI cJ cZ cG : ClassId) (b P : Nat) (ad : Nat → ga) (st : Nat → Option GS) (o : Nat) (f : Nat → Int64) (b0 : Int32) (b1 : Int32) (b2 : Int32) (hn : gat st b0 = none) (hPO : va_P D vwCl (OW cI cJ cG o b P ad st f) H0) (hDO : va_D (fun _ => True) (OW cI cJ cG o b P ad st f)) : LC l yL_stepOf wsL_stepOf [Value.ref b, Value.int b0, Value.int b1, Value.int b2, Value.ref o] D cI cJ cZ cG z o b P ad st f H0 (1, st, 0) := by
  unfold LC
  refine va_MetW (y := yL_stepOf) (ws := wsL_stepOf) (cc := cL_stepOf) (maxL := 6) (ret := (some .int)) (by decide) rfl ?_
  intro p e s m args below meth c s₁ B hml hv
  obtain ⟨rfl, hH, hKX⟩ := hv
  have hx := B.exec
  have hb := B.bytes
  have hr := B.returns
  have hts := atoms_spec (ws := wsL_stepOf) B.pre
  have hown : s.vm.findClass RL = some m.cls := findClass_of_methodNamed B.named
  have hlocks := B.notSynchronized
  subst hH
  have hKW := hKX.1.1
  have hK := hKW.1
  have htab : c.exceptionTable.toList = [⟨0, 12, 15, 13⟩, ⟨0, 12, 19, 15⟩, ⟨0, 12, 23, 17⟩] := by rw [vx_table (x := yL_stepOf) B (hts _ List.mem_cons_self)]; rfl
  have hl := lv_entry ([Value.ref b, Value.int b0, Value.int b1, Value.int b2, Value.ref o]) (n := 6) (Nat.le_of_ble_eq_true rfl)
  rw [lg_entry_eq]
  generalize (lg_sl ([Value.ref b, Value.int b0, Value.int b1, Value.int b2, Value.ref o]) ++ List.replicate (6 - (lg_sl ([Value.ref b, Value.int b0, Value.int b1, Value.int b2, Value.ref o])).length) Slot.unset).toArray = ls at hl ⊢
  have hl : lv_has ls 6 [(0, .ref b), (1, .int b0), (2, .int b1), (3, .int b2), (4, .ref o)] := hl
  have hPB : va_P D vwCl (BW cI cJ cG b P ad st) s.heap := wd_P.part hPO (fun _ h => List.mem_append_right _ h)
  have hD0 : va_D (fun _ => True) (BW cI cJ cG b P ad st) := wd_D.left (wd_D.perm hDO List.perm_append_comm)
  have hD := hDO.self (sz := s.heap.size)
  generalize hAe : va_A (OW cI cJ cG o b P ad st f) s.heap.size = A at hD ⊢
  have hA : ∀ q : Nat, s.heap.size ≤ q → A q := fun q h => by rw [← hAe]; exact Or.inr h
  have hS : va_S A s.heap s.heap [] := va_S.rf
  have hP := hPO
  refine lv_aload hx hb dL_stepOf_0 (lv_at hl 4 rfl) ?_
  refine lv_iconst (v := 0) hx hb dL_stepOf_2 (by decide) ?_
  refine lv_aload_n hx hb dL_stepOf_3 rfl (lv_at hl 0 rfl) ?_
  refine lv_iload_n hx hb dL_stepOf_4 rfl (lv_at hl 1 rfl) ?_
  refine lv_iload_n hx hb dL_stepOf_5 rfl (lv_at hl 2 rfl) ?_
  refine lv_iload_n hx hb dL_stepOf_6 rfl (lv_at hl 3 rfl) ?_
  refine ct_V (As := [.int b0, .int b1, .int b2]) (rest := [.int (0 : Int32), .ref o]) ⟨hx, hb, hml, hown, hts⟩ (t_X1_stepOf_N l hst z s.heap hz D cI cJ cZ cG b P ad st b0 b1 b2 hn hPB) (KZ_puK D cI cJ cZ cG z s.heap) hKX.1 (cwV 3 hts gL_stepOf_X1_stepOf rfl rfl rfl (by decide +kernel) ⟨Nat.le_of_ble_eq_true rfl, Nat.le_of_ble_eq_true rfl⟩) (va_recv hK hPB (ci := 1) (q0 := 0) rfl rfl) rfl hl.1 rfl (Nat.le_of_ble_eq_true rfl) dL_stepOf_7 ⟨Nat.le_of_ble_eq_true rfl, Nat.le_of_ble_eq_true rfl⟩ (name := xN) [] ⟨0, 12, 15, 13⟩ [⟨0, 12, 19, 15⟩, ⟨0, 12, 23, 17⟩] htab (fun _ h => nomatch h) (by decide) (by decide) (hts (.classLink RL 13 xN) (by decide +kernel)) (hKW.n 19 rfl rfl) (fun H1 q9 hz1 hk1 => ?_)
  have hP1 : va_P D vwCl (OW cI cJ cG o b P ad st f) H1 := hPO.kept (fun k9 x9 hx9 => hk1 x9.1 ((hPO k9 x9 hx9).lt))
  refine W.eq (g2 := F0 m 15 ls [.ref q9]) rfl ?_
  refine lv_astore (lv' := [(5, .ref q9), (0, .ref b), (1, .int b0), (2, .int b1), (3, .int b2), (4, .ref o)]) hx hb dL_stepOf_15 hl (by decide) rfl (fun ls hl => ?_)
  refine lv_iconst (v := 1) hx hb dL_stepOf_17 (by decide) ?_
  exact W.iret (v := (1 : Int32)) hx hb hr (fun t ht hW => ⟨rfl, _, ⟨ad, f, rfl, fun h => absurd (show (1 : Int32) = 0 from h) (by decide)⟩, by rw [ht]; exact hP1, hD, by rw [ht]; exact hz1, fun q h1 _ => by rw [ht]; exact hk1 q h1⟩) (fun _ h => nomatch h) dL_stepOf_18
set_option maxHeartbeats 4000000 in
set_option maxRecDepth 100000 in
theorem l_stepOf_M (l : Launch) (hst : l.stackTraces = false) (z : Nat) (H0 : Heap) (hz : z ≤ H0.size) (D : va_G) (cI cJ cZ cG : ClassId) (b P : Nat) (ad : Nat → ga) (st : Nat → Option GS) (o : Nat) (f : Nat → Int64) (j : Nat) (x : GS) (b1 b2 : Int32) (hj : j < 12) (hst1 : st j = some x) (hn2 : gat st b2 = none) (hPO : va_P D vwCl (OW cI cJ cG o b P ad st f) H0) (hDO : va_D (fun _ => True) (OW cI cJ cG o b P ad st f)) : LC l yL_stepOf wsL_stepOf [Value.ref b, Value.int (nI j), Value.int b1, Value.int b2, Value.ref o] D cI cJ cZ cG z o b P ad st f H0 (1, st, 0) := by
  unfold LC
  refine va_MetW (y := yL_stepOf) (ws := wsL_stepOf) (cc := cL_stepOf) (maxL := 6) (ret := (some .int)) (by decide) rfl ?_
  intro p e s m args below meth c s₁ B hml hv
  obtain ⟨rfl, hH, hKX⟩ := hv
  have hx := B.exec
  have hb := B.bytes
  have hr := B.returns
  have hts := atoms_spec (ws := wsL_stepOf) B.pre
  have hown : s.vm.findClass RL = some m.cls := findClass_of_methodNamed B.named
  have hlocks := B.notSynchronized
  subst hH
  have hKW := hKX.1.1
  have hK := hKW.1
  have htab : c.exceptionTable.toList = [⟨0, 12, 15, 13⟩, ⟨0, 12, 19, 15⟩, ⟨0, 12, 23, 17⟩] := by rw [vx_table (x := yL_stepOf) B (hts _ List.mem_cons_self)]; rfl
  have hl := lv_entry ([Value.ref b, Value.int (nI j), Value.int b1, Value.int b2, Value.ref o]) (n := 6) (Nat.le_of_ble_eq_true rfl)
  rw [lg_entry_eq]
  generalize (lg_sl ([Value.ref b, Value.int (nI j), Value.int b1, Value.int b2, Value.ref o]) ++ List.replicate (6 - (lg_sl ([Value.ref b, Value.int (nI j), Value.int b1, Value.int b2, Value.ref o])).length) Slot.unset).toArray = ls at hl ⊢
  have hl : lv_has ls 6 [(0, .ref b), (1, .int (nI j)), (2, .int b1), (3, .int b2), (4, .ref o)] := hl
  have hPB : va_P D vwCl (BW cI cJ cG b P ad st) s.heap := wd_P.part hPO (fun _ h => List.mem_append_right _ h)
  have hD0 : va_D (fun _ => True) (BW cI cJ cG b P ad st) := wd_D.left (wd_D.perm hDO List.perm_append_comm)
  have hD := hDO.self (sz := s.heap.size)
  generalize hAe : va_A (OW cI cJ cG o b P ad st f) s.heap.size = A at hD ⊢
  have hA : ∀ q : Nat, s.heap.size ≤ q → A q := fun q h => by rw [← hAe]; exact Or.inr h
  have hS : va_S A s.heap s.heap [] := va_S.rf
  have hP := hPO
  refine lv_aload hx hb dL_stepOf_0 (lv_at hl 4 rfl) ?_
  refine lv_iconst (v := 0) hx hb dL_stepOf_2 (by decide) ?_
  refine lv_aload_n hx hb dL_stepOf_3 rfl (lv_at hl 0 rfl) ?_
  refine lv_iload_n hx hb dL_stepOf_4 rfl (lv_at hl 1 rfl) ?_
  refine lv_iload_n hx hb dL_stepOf_5 rfl (lv_at hl 2 rfl) ?_
  refine lv_iload_n hx hb dL_stepOf_6 rfl (lv_at hl 3 rfl) ?_
  refine ct_V (As := [.int (nI j), .int b1, .int b2]) (rest := [.int (0 : Int32), .ref o]) ⟨hx, hb, hml, hown, hts⟩ (t_X1_stepOf_M l hst z s.heap hz D cI cJ cZ cG b P ad st j x b1 b2 hj hst1 hn2 hPB) (KZ_puK D cI cJ cZ cG z s.heap) hKX.1 (cwV 3 hts gL_stepOf_X1_stepOf rfl rfl rfl (by decide +kernel) ⟨Nat.le_of_ble_eq_true rfl, Nat.le_of_ble_eq_true rfl⟩) (va_recv hK hPB (ci := 1) (q0 := 0) rfl rfl) rfl hl.1 rfl (Nat.le_of_ble_eq_true rfl) dL_stepOf_7 ⟨Nat.le_of_ble_eq_true rfl, Nat.le_of_ble_eq_true rfl⟩ (name := xN) [] ⟨0, 12, 15, 13⟩ [⟨0, 12, 19, 15⟩, ⟨0, 12, 23, 17⟩] htab (fun _ h => nomatch h) (by decide) (by decide) (hts (.classLink RL 13 xN) (by decide +kernel)) (hKW.n 19 rfl rfl) (fun H1 q9 hz1 hk1 => ?_)
  have hP1 : va_P D vwCl (OW cI cJ cG o b P ad st f) H1 := hPO.kept (fun k9 x9 hx9 => hk1 x9.1 ((hPO k9 x9 hx9).lt))
  refine W.eq (g2 := F0 m 15 ls [.ref q9]) rfl ?_
  refine lv_astore (lv' := [(5, .ref q9), (0, .ref b), (1, .int (nI j)), (2, .int b1), (3, .int b2), (4, .ref o)]) hx hb dL_stepOf_15 hl (by decide) rfl (fun ls hl => ?_)
  refine lv_iconst (v := 1) hx hb dL_stepOf_17 (by decide) ?_
  exact W.iret (v := (1 : Int32)) hx hb hr (fun t ht hW => ⟨rfl, _, ⟨ad, f, rfl, fun h => absurd (show (1 : Int32) = 0 from h) (by decide)⟩, by rw [ht]; exact hP1, hD, by rw [ht]; exact hz1, fun q h1 _ => by rw [ht]; exact hk1 q h1⟩) (fun _ h => nomatch h) dL_stepOf_18
set_option maxHeartbeats 4000000 in
set_option maxRecDepth 100000 in
theorem l_stepOf_A (l : Launch) (hst : l.stackTraces = false) (z : Nat) (H0 : Heap) (hz : z ≤ H0.size) (D : va_G) (cI cJ cZ cG : ClassId) (b P : Nat) (ad : Nat → ga) (st : Nat → Option GS) (o : Nat) (f : Nat → Int64) (j : Nat) (x : GS) (j2 : Nat) (y : GS) (b1 : Int32) (hj : j < 12) (hst1 : st j = some x) (hj2 : j2 < 12) (hst2 : st j2 = some y) (hno : e_X1_needSort (gK x) b1 1 = 2) (hPO : va_P D vwCl (OW cI cJ cG o b P ad st f) H0) (hDO : va_D (fun _ => True) (OW cI cJ cG o b P ad st f)) : LC l yL_stepOf wsL_stepOf [Value.ref b, Value.int (nI j), Value.int b1, Value.int (nI j2), Value.ref o] D cI cJ cZ cG z o b P ad st f H0 (2, st, 0) := by
  unfold LC
  refine va_MetW (y := yL_stepOf) (ws := wsL_stepOf) (cc := cL_stepOf) (maxL := 6) (ret := (some .int)) (by decide) rfl ?_
  intro p e s m args below meth c s₁ B hml hv
  obtain ⟨rfl, hH, hKX⟩ := hv
  have hx := B.exec
  have hb := B.bytes
  have hr := B.returns
  have hts := atoms_spec (ws := wsL_stepOf) B.pre
  have hown : s.vm.findClass RL = some m.cls := findClass_of_methodNamed B.named
  have hlocks := B.notSynchronized
  subst hH
  have hKW := hKX.1.1
  have hK := hKW.1
  have htab : c.exceptionTable.toList = [⟨0, 12, 15, 13⟩, ⟨0, 12, 19, 15⟩, ⟨0, 12, 23, 17⟩] := by rw [vx_table (x := yL_stepOf) B (hts _ List.mem_cons_self)]; rfl
  have hl := lv_entry ([Value.ref b, Value.int (nI j), Value.int b1, Value.int (nI j2), Value.ref o]) (n := 6) (Nat.le_of_ble_eq_true rfl)
  rw [lg_entry_eq]
  generalize (lg_sl ([Value.ref b, Value.int (nI j), Value.int b1, Value.int (nI j2), Value.ref o]) ++ List.replicate (6 - (lg_sl ([Value.ref b, Value.int (nI j), Value.int b1, Value.int (nI j2), Value.ref o])).length) Slot.unset).toArray = ls at hl ⊢
  have hl : lv_has ls 6 [(0, .ref b), (1, .int (nI j)), (2, .int b1), (3, .int (nI j2)), (4, .ref o)] := hl
  have hPB : va_P D vwCl (BW cI cJ cG b P ad st) s.heap := wd_P.part hPO (fun _ h => List.mem_append_right _ h)
  have hD0 : va_D (fun _ => True) (BW cI cJ cG b P ad st) := wd_D.left (wd_D.perm hDO List.perm_append_comm)
  have hD := hDO.self (sz := s.heap.size)
  generalize hAe : va_A (OW cI cJ cG o b P ad st f) s.heap.size = A at hD ⊢
  have hA : ∀ q : Nat, s.heap.size ≤ q → A q := fun q h => by rw [← hAe]; exact Or.inr h
  have hS : va_S A s.heap s.heap [] := va_S.rf
  have hP := hPO
  refine lv_aload hx hb dL_stepOf_0 (lv_at hl 4 rfl) ?_
  refine lv_iconst (v := 0) hx hb dL_stepOf_2 (by decide) ?_
  refine lv_aload_n hx hb dL_stepOf_3 rfl (lv_at hl 0 rfl) ?_
  refine lv_iload_n hx hb dL_stepOf_4 rfl (lv_at hl 1 rfl) ?_
  refine lv_iload_n hx hb dL_stepOf_5 rfl (lv_at hl 2 rfl) ?_
  refine lv_iload_n hx hb dL_stepOf_6 rfl (lv_at hl 3 rfl) ?_
  refine ct_V (As := [.int (nI j), .int b1, .int (nI j2)]) (rest := [.int (0 : Int32), .ref o]) ⟨hx, hb, hml, hown, hts⟩ (t_X1_stepOf_A l hst z s.heap hz D cI cJ cZ cG b P ad st j x j2 y b1 hj hst1 hj2 hst2 hno hPB) (KZ_puK D cI cJ cZ cG z s.heap) hKX.1 (cwV 3 hts gL_stepOf_X1_stepOf rfl rfl rfl (by decide +kernel) ⟨Nat.le_of_ble_eq_true rfl, Nat.le_of_ble_eq_true rfl⟩) (va_recv hK hPB (ci := 1) (q0 := 0) rfl rfl) rfl hl.1 rfl (Nat.le_of_ble_eq_true rfl) dL_stepOf_7 ⟨Nat.le_of_ble_eq_true rfl, Nat.le_of_ble_eq_true rfl⟩ (name := xA) [⟨0, 12, 15, 13⟩] ⟨0, 12, 19, 15⟩ [⟨0, 12, 23, 17⟩] htab (List.forall_mem_cons.mpr ⟨Or.inr ⟨by decide, xN, hts (.classLink RL 13 xN) (by decide +kernel), hKX.2.1⟩, fun _ h => nomatch h⟩) (by decide) (by decide) (hts (.classLink RL 15 xA) (by decide +kernel)) (hKW.n 20 rfl rfl) (fun H1 q9 hz1 hk1 => ?_)
  have hP1 : va_P D vwCl (OW cI cJ cG o b P ad st f) H1 := hPO.kept (fun k9 x9 hx9 => hk1 x9.1 ((hPO k9 x9 hx9).lt))
  refine W.eq (g2 := F0 m 19 ls [.ref q9]) rfl ?_
  refine lv_astore (lv' := [(5, .ref q9), (0, .ref b), (1, .int (nI j)), (2, .int b1), (3, .int (nI j2)), (4, .ref o)]) hx hb dL_stepOf_19 hl (by decide) rfl (fun ls hl => ?_)
  refine lv_iconst (v := 2) hx hb dL_stepOf_21 (by decide) ?_
  exact W.iret (v := (2 : Int32)) hx hb hr (fun t ht hW => ⟨rfl, _, ⟨ad, f, rfl, fun h => absurd (show (2 : Int32) = 0 from h) (by decide)⟩, by rw [ht]; exact hP1, hD, by rw [ht]; exact hz1, fun q h1 _ => by rw [ht]; exact hk1 q h1⟩) (fun _ h => nomatch h) dL_stepOf_22
set_option maxHeartbeats 4000000 in
set_option maxRecDepth 100000 in
theorem l_stepOf_K (l : Launch) (hst : l.stackTraces = false) (z : Nat) (H0 : Heap) (hz : z ≤ H0.size) (D : va_G) (cI cJ cZ cG : ClassId) (b P : Nat) (ad : Nat → ga) (st : Nat → Option GS) (o : Nat) (f : Nat → Int64) (j : Nat) (x : GS) (j2 : Nat) (y : GS) (b1 : Int32) (hj : j < 12) (hst1 : st j = some x) (hj2 : j2 < 12) (hst2 : st j2 = some y) (hok : e_X1_needSort (gK x) b1 1 = 0) (hk : ¬ gK y = gK x) (hPO : va_P D vwCl (OW cI cJ cG o b P ad st f) H0) (hDO : va_D (fun _ => True) (OW cI cJ cG o b P ad st f)) : LC l yL_stepOf wsL_stepOf [Value.ref b, Value.int (nI j), Value.int b1, Value.int (nI j2), Value.ref o] D cI cJ cZ cG z o b P ad st f H0 (2, st, 0) := by
  unfold LC
  refine va_MetW (y := yL_stepOf) (ws := wsL_stepOf) (cc := cL_stepOf) (maxL := 6) (ret := (some .int)) (by decide) rfl ?_
  intro p e s m args below meth c s₁ B hml hv
  obtain ⟨rfl, hH, hKX⟩ := hv
  have hx := B.exec
  have hb := B.bytes
  have hr := B.returns
  have hts := atoms_spec (ws := wsL_stepOf) B.pre
  have hown : s.vm.findClass RL = some m.cls := findClass_of_methodNamed B.named
  have hlocks := B.notSynchronized
  subst hH
  have hKW := hKX.1.1
  have hK := hKW.1
  have htab : c.exceptionTable.toList = [⟨0, 12, 15, 13⟩, ⟨0, 12, 19, 15⟩, ⟨0, 12, 23, 17⟩] := by rw [vx_table (x := yL_stepOf) B (hts _ List.mem_cons_self)]; rfl
  have hl := lv_entry ([Value.ref b, Value.int (nI j), Value.int b1, Value.int (nI j2), Value.ref o]) (n := 6) (Nat.le_of_ble_eq_true rfl)
  rw [lg_entry_eq]
  generalize (lg_sl ([Value.ref b, Value.int (nI j), Value.int b1, Value.int (nI j2), Value.ref o]) ++ List.replicate (6 - (lg_sl ([Value.ref b, Value.int (nI j), Value.int b1, Value.int (nI j2), Value.ref o])).length) Slot.unset).toArray = ls at hl ⊢
  have hl : lv_has ls 6 [(0, .ref b), (1, .int (nI j)), (2, .int b1), (3, .int (nI j2)), (4, .ref o)] := hl
  have hPB : va_P D vwCl (BW cI cJ cG b P ad st) s.heap := wd_P.part hPO (fun _ h => List.mem_append_right _ h)
  have hD0 : va_D (fun _ => True) (BW cI cJ cG b P ad st) := wd_D.left (wd_D.perm hDO List.perm_append_comm)
  have hD := hDO.self (sz := s.heap.size)
  generalize hAe : va_A (OW cI cJ cG o b P ad st f) s.heap.size = A at hD ⊢
  have hA : ∀ q : Nat, s.heap.size ≤ q → A q := fun q h => by rw [← hAe]; exact Or.inr h
  have hS : va_S A s.heap s.heap [] := va_S.rf
  have hP := hPO
  refine lv_aload hx hb dL_stepOf_0 (lv_at hl 4 rfl) ?_
  refine lv_iconst (v := 0) hx hb dL_stepOf_2 (by decide) ?_
  refine lv_aload_n hx hb dL_stepOf_3 rfl (lv_at hl 0 rfl) ?_
  refine lv_iload_n hx hb dL_stepOf_4 rfl (lv_at hl 1 rfl) ?_
  refine lv_iload_n hx hb dL_stepOf_5 rfl (lv_at hl 2 rfl) ?_
  refine lv_iload_n hx hb dL_stepOf_6 rfl (lv_at hl 3 rfl) ?_
  refine ct_V (As := [.int (nI j), .int b1, .int (nI j2)]) (rest := [.int (0 : Int32), .ref o]) ⟨hx, hb, hml, hown, hts⟩ (t_X1_stepOf_K l hst z s.heap hz D cI cJ cZ cG b P ad st j x j2 y b1 hj hst1 hj2 hst2 hok hk hPB) (KZ_puK D cI cJ cZ cG z s.heap) hKX.1 (cwV 3 hts gL_stepOf_X1_stepOf rfl rfl rfl (by decide +kernel) ⟨Nat.le_of_ble_eq_true rfl, Nat.le_of_ble_eq_true rfl⟩) (va_recv hK hPB (ci := 1) (q0 := 0) rfl rfl) rfl hl.1 rfl (Nat.le_of_ble_eq_true rfl) dL_stepOf_7 ⟨Nat.le_of_ble_eq_true rfl, Nat.le_of_ble_eq_true rfl⟩ (name := xA) [⟨0, 12, 15, 13⟩] ⟨0, 12, 19, 15⟩ [⟨0, 12, 23, 17⟩] htab (List.forall_mem_cons.mpr ⟨Or.inr ⟨by decide, xN, hts (.classLink RL 13 xN) (by decide +kernel), hKX.2.1⟩, fun _ h => nomatch h⟩) (by decide) (by decide) (hts (.classLink RL 15 xA) (by decide +kernel)) (hKW.n 20 rfl rfl) (fun H1 q9 hz1 hk1 => ?_)
  have hP1 : va_P D vwCl (OW cI cJ cG o b P ad st f) H1 := hPO.kept (fun k9 x9 hx9 => hk1 x9.1 ((hPO k9 x9 hx9).lt))
  refine W.eq (g2 := F0 m 19 ls [.ref q9]) rfl ?_
  refine lv_astore (lv' := [(5, .ref q9), (0, .ref b), (1, .int (nI j)), (2, .int b1), (3, .int (nI j2)), (4, .ref o)]) hx hb dL_stepOf_19 hl (by decide) rfl (fun ls hl => ?_)
  refine lv_iconst (v := 2) hx hb dL_stepOf_21 (by decide) ?_
  exact W.iret (v := (2 : Int32)) hx hb hr (fun t ht hW => ⟨rfl, _, ⟨ad, f, rfl, fun h => absurd (show (2 : Int32) = 0 from h) (by decide)⟩, by rw [ht]; exact hP1, hD, by rw [ht]; exact hz1, fun q h1 _ => by rw [ht]; exact hk1 q h1⟩) (fun _ h => nomatch h) dL_stepOf_22
set_option maxHeartbeats 4000000 in
set_option maxRecDepth 100000 in
theorem l_stepOf_S (l : Launch) (hst : l.stackTraces = false) (z : Nat) (H0 : Heap) (hz : z ≤ H0.size) (D : va_G) (cI cJ cZ cG : ClassId) (b P : Nat) (ad : Nat → ga) (st : Nat → Option GS) (o : Nat) (f : Nat → Int64) (j : Nat) (x : GS) (j2 : Nat) (y : GS) (b1 : Int32) (hj : j < 12) (hst1 : st j = some x) (hj2 : j2 < 12) (hst2 : st j2 = some y) (hok : e_X1_needSort (gK x) b1 1 = 0) (hk : gK y = gK x) (hge : ¬ gC x < (8 : Int32)) (hPO : va_P D vwCl (OW cI cJ cG o b P ad st f) H0) (hDO : va_D (fun _ => True) (OW cI cJ cG o b P ad st f)) : LC l yL_stepOf wsL_stepOf [Value.ref b, Value.int (nI j), Value.int b1, Value.int (nI j2), Value.ref o] D cI cJ cZ cG z o b P ad st f H0 (3, st, 0) := by
  unfold LC
  refine va_MetW (y := yL_stepOf) (ws := wsL_stepOf) (cc := cL_stepOf) (maxL := 6) (ret := (some .int)) (by decide) rfl ?_
  intro p e s m args below meth c s₁ B hml hv
  obtain ⟨rfl, hH, hKX⟩ := hv
  have hx := B.exec
  have hb := B.bytes
  have hr := B.returns
  have hts := atoms_spec (ws := wsL_stepOf) B.pre
  have hown : s.vm.findClass RL = some m.cls := findClass_of_methodNamed B.named
  have hlocks := B.notSynchronized
  subst hH
  have hKW := hKX.1.1
  have hK := hKW.1
  have htab : c.exceptionTable.toList = [⟨0, 12, 15, 13⟩, ⟨0, 12, 19, 15⟩, ⟨0, 12, 23, 17⟩] := by rw [vx_table (x := yL_stepOf) B (hts _ List.mem_cons_self)]; rfl
  have hl := lv_entry ([Value.ref b, Value.int (nI j), Value.int b1, Value.int (nI j2), Value.ref o]) (n := 6) (Nat.le_of_ble_eq_true rfl)
  rw [lg_entry_eq]
  generalize (lg_sl ([Value.ref b, Value.int (nI j), Value.int b1, Value.int (nI j2), Value.ref o]) ++ List.replicate (6 - (lg_sl ([Value.ref b, Value.int (nI j), Value.int b1, Value.int (nI j2), Value.ref o])).length) Slot.unset).toArray = ls at hl ⊢
  have hl : lv_has ls 6 [(0, .ref b), (1, .int (nI j)), (2, .int b1), (3, .int (nI j2)), (4, .ref o)] := hl
  have hPB : va_P D vwCl (BW cI cJ cG b P ad st) s.heap := wd_P.part hPO (fun _ h => List.mem_append_right _ h)
  have hD0 : va_D (fun _ => True) (BW cI cJ cG b P ad st) := wd_D.left (wd_D.perm hDO List.perm_append_comm)
  have hD := hDO.self (sz := s.heap.size)
  generalize hAe : va_A (OW cI cJ cG o b P ad st f) s.heap.size = A at hD ⊢
  have hA : ∀ q : Nat, s.heap.size ≤ q → A q := fun q h => by rw [← hAe]; exact Or.inr h
  have hS : va_S A s.heap s.heap [] := va_S.rf
  have hP := hPO
  refine lv_aload hx hb dL_stepOf_0 (lv_at hl 4 rfl) ?_
  refine lv_iconst (v := 0) hx hb dL_stepOf_2 (by decide) ?_
  refine lv_aload_n hx hb dL_stepOf_3 rfl (lv_at hl 0 rfl) ?_
  refine lv_iload_n hx hb dL_stepOf_4 rfl (lv_at hl 1 rfl) ?_
  refine lv_iload_n hx hb dL_stepOf_5 rfl (lv_at hl 2 rfl) ?_
  refine lv_iload_n hx hb dL_stepOf_6 rfl (lv_at hl 3 rfl) ?_
  refine ct_V (As := [.int (nI j), .int b1, .int (nI j2)]) (rest := [.int (0 : Int32), .ref o]) ⟨hx, hb, hml, hown, hts⟩ (t_X1_stepOf_S l hst z s.heap hz D cI cJ cZ cG b P ad st j x j2 y b1 hj hst1 hj2 hst2 hok hk hge hPB) (KZ_puK D cI cJ cZ cG z s.heap) hKX.1 (cwV 3 hts gL_stepOf_X1_stepOf rfl rfl rfl (by decide +kernel) ⟨Nat.le_of_ble_eq_true rfl, Nat.le_of_ble_eq_true rfl⟩) (va_recv hK hPB (ci := 1) (q0 := 0) rfl rfl) rfl hl.1 rfl (Nat.le_of_ble_eq_true rfl) dL_stepOf_7 ⟨Nat.le_of_ble_eq_true rfl, Nat.le_of_ble_eq_true rfl⟩ (name := xS) [⟨0, 12, 15, 13⟩, ⟨0, 12, 19, 15⟩] ⟨0, 12, 23, 17⟩ [] htab (List.forall_mem_cons.mpr ⟨Or.inr ⟨by decide, xN, hts (.classLink RL 13 xN) (by decide +kernel), hKX.2.2.1⟩, List.forall_mem_cons.mpr ⟨Or.inr ⟨by decide, xA, hts (.classLink RL 15 xA) (by decide +kernel), hKX.2.2.2⟩, fun _ h => nomatch h⟩⟩) (by decide) (by decide) (hts (.classLink RL 17 xS) (by decide +kernel)) (hKW.n 21 rfl rfl) (fun H1 q9 hz1 hk1 => ?_)
  have hP1 : va_P D vwCl (OW cI cJ cG o b P ad st f) H1 := hPO.kept (fun k9 x9 hx9 => hk1 x9.1 ((hPO k9 x9 hx9).lt))
  refine W.eq (g2 := F0 m 23 ls [.ref q9]) rfl ?_
  refine lv_astore (lv' := [(5, .ref q9), (0, .ref b), (1, .int (nI j)), (2, .int b1), (3, .int (nI j2)), (4, .ref o)]) hx hb dL_stepOf_23 hl (by decide) rfl (fun ls hl => ?_)
  refine lv_iconst (v := 3) hx hb dL_stepOf_25 (by decide) ?_
  exact W.iret (v := (3 : Int32)) hx hb hr (fun t ht hW => ⟨rfl, _, ⟨ad, f, rfl, fun h => absurd (show (3 : Int32) = 0 from h) (by decide)⟩, by rw [ht]; exact hP1, hD, by rw [ht]; exact hz1, fun q h1 _ => by rw [ht]; exact hk1 q h1⟩) (fun _ h => nomatch h) dL_stepOf_26
set_option maxHeartbeats 4000000 in
set_option maxRecDepth 100000 in
theorem l_stepOf_O (l : Launch) (hst : l.stackTraces = false) (z : Nat) (H0 : Heap) (hz : z ≤ H0.size) (D : va_G) (cI cJ cZ cG : ClassId) (b P : Nat) (ad : Nat → ga) (st : Nat → Option GS) (o : Nat) (f : Nat → Int64) (j : Nat) (x : GS) (j2 : Nat) (y : GS) (b1 : Int32) (hI : BI st) (hj : j < 12) (hst1 : st j = some x) (hj2 : j2 < 12) (hst2 : st j2 = some y) (hok : e_X1_needSort (gK x) b1 1 = 0) (hk : gK y = gK x) (hlt : gC x < (8 : Int32)) (hPO : va_P D vwCl (OW cI cJ cG o b P ad st f) H0) (hDO : va_D (fun _ => True) (OW cI cJ cG o b P ad st f)) : LC l yL_stepOf wsL_stepOf [Value.ref b, Value.int (nI j), Value.int b1, Value.int (nI j2), Value.ref o] D cI cJ cZ cG z o b P ad st f H0 (0, va_up st j (some (F_X1_stepOf x j2 b1).2), (F_X1_stepOf x j2 b1).1.toInt64) := by
  unfold LC
  refine va_MetW (y := yL_stepOf) (ws := wsL_stepOf) (cc := cL_stepOf) (maxL := 6) (ret := (some .int)) (by decide) rfl ?_
  intro p e s m args below meth c s₁ B hml hv
  obtain ⟨rfl, hH, hKX⟩ := hv
  have hx := B.exec
  have hb := B.bytes
  have hr := B.returns
  have hts := atoms_spec (ws := wsL_stepOf) B.pre
  have hown : s.vm.findClass RL = some m.cls := findClass_of_methodNamed B.named
  have hlocks := B.notSynchronized
  subst hH
  have hKW := hKX.1.1
  have hK := hKW.1
  have htab : c.exceptionTable.toList = [⟨0, 12, 15, 13⟩, ⟨0, 12, 19, 15⟩, ⟨0, 12, 23, 17⟩] := by rw [vx_table (x := yL_stepOf) B (hts _ List.mem_cons_self)]; rfl
  have hl := lv_entry ([Value.ref b, Value.int (nI j), Value.int b1, Value.int (nI j2), Value.ref o]) (n := 6) (Nat.le_of_ble_eq_true rfl)
  rw [lg_entry_eq]
  generalize (lg_sl ([Value.ref b, Value.int (nI j), Value.int b1, Value.int (nI j2), Value.ref o]) ++ List.replicate (6 - (lg_sl ([Value.ref b, Value.int (nI j), Value.int b1, Value.int (nI j2), Value.ref o])).length) Slot.unset).toArray = ls at hl ⊢
  have hl : lv_has ls 6 [(0, .ref b), (1, .int (nI j)), (2, .int b1), (3, .int (nI j2)), (4, .ref o)] := hl
  have hPB : va_P D vwCl (BW cI cJ cG b P ad st) s.heap := wd_P.part hPO (fun _ h => List.mem_append_right _ h)
  have hD0 : va_D (fun _ => True) (BW cI cJ cG b P ad st) := wd_D.left (wd_D.perm hDO List.perm_append_comm)
  have hD := hDO.self (sz := s.heap.size)
  generalize hAe : va_A (OW cI cJ cG o b P ad st f) s.heap.size = A at hD ⊢
  have hA : ∀ q : Nat, s.heap.size ≤ q → A q := fun q h => by rw [← hAe]; exact Or.inr h
  have hS : va_S A s.heap s.heap [] := va_S.rf
  have hP := hPO
  refine lv_aload hx hb dL_stepOf_0 (lv_at hl 4 rfl) ?_
  refine lv_iconst (v := 0) hx hb dL_stepOf_2 (by decide) ?_
  refine lv_aload_n hx hb dL_stepOf_3 rfl (lv_at hl 0 rfl) ?_
  refine lv_iload_n hx hb dL_stepOf_4 rfl (lv_at hl 1 rfl) ?_
  refine lv_iload_n hx hb dL_stepOf_5 rfl (lv_at hl 2 rfl) ?_
  refine lv_iload_n hx hb dL_stepOf_6 rfl (lv_at hl 3 rfl) ?_
  refine wr_V (As := [.int (nI j), .int b1, .int (nI j2)]) (rest := [.int (0 : Int32), .ref o]) (Rw := [(o, .inl (cJ, 1, .inr (.inl f)))]) ⟨hx, hb, hml, hown, hts⟩ (c_X1_stepOf l s.heap D cI cJ cZ cG b P ad st j x j2 y b1 hj hst1 hj2 hst2 (hI j hj x hst1).1 hok hk hlt hPB hD0) (KW_puK D cI cJ cZ cG) hKW (cwV 3 hts gL_stepOf_X1_stepOf rfl rfl rfl (by decide +kernel) ⟨Nat.le_of_ble_eq_true rfl, Nat.le_of_ble_eq_true rfl⟩) (va_recv hK hPB (ci := 1) (q0 := 0) rfl rfl) rfl hl.1 rfl (Nat.le_of_ble_eq_true rfl) dL_stepOf_7 ⟨Nat.le_of_ble_eq_true rfl, Nat.le_of_ble_eq_true rfl⟩ (wd_P.perm hPO List.perm_append_comm) (wd_D.perm hD List.perm_append_comm) hS hA (fun w1 H locs hw hP hD hS => ?_)
  subst hw
  have hP := wd_P.perm hP List.perm_append_comm
  have hD := wd_D.perm hD List.perm_append_comm
  refine W.eq (g2 := F0 m 10 ls [.int ((F_X1_stepOf x j2 b1).1), .int (0 : Int32), .ref o]) rfl ?_
  refine lv_i2l hx hb dL_stepOf_10 rfl ?_
  refine va_last (x := ((F_X1_stepOf x j2 b1).1).toInt64) hx hb hK hP hD hS 0 1 rfl rfl (show vp_in (nI 0) 1 from vp_in_nI (by decide) (by decide)) dL_stepOf_11 (fun H locs hP hD hS => ?_)
  have hP : va_P D vwCl ([(o, .inl (cJ, 1, .inr (.inl (vp_updL f (0 : Int32).toNatClampNeg (((F_X1_stepOf x j2 b1).1).toInt64)))))] ++ BW cI cJ cG b P ad (va_up st j (some (F_X1_stepOf x j2 b1).2))) H := hP
  have hD : va_D A ([(o, .inl (cJ, 1, .inr (.inl (vp_updL f (0 : Int32).toNatClampNeg (((F_X1_stepOf x j2 b1).1).toInt64)))))] ++ BW cI cJ cG b P ad (va_up st j (some (F_X1_stepOf x j2 b1).2))) := hD
  refine lv_goto (tgt := 27) hx hb dL_stepOf_12 (by decide) ?_
  refine lv_iconst (v := 0) hx hb dL_stepOf_27 (by decide) ?_
  refine W.widen (k := 4) (n := 35) (Nat.le_of_ble_eq_true rfl) (Nat.le_of_ble_eq_true rfl) ?_
  exact W.iret (v := (0 : Int32)) hx hb hr (fun t ht hW => ⟨rfl, _, ⟨ad, _, rfl, fun _ => updL0 f _⟩, by rw [ht]; exact hP, hD, (hS.F ht).1, (hS.F ht).2⟩) hS.2.2 dL_stepOf_28
set_option maxHeartbeats 4000000 in
set_option maxRecDepth 100000 in
theorem l_bare_N (l : Launch) (hst : l.stackTraces = false) (z : Nat) (H0 : Heap) (hz : z ≤ H0.size) (D : va_G) (cI cJ cZ cG : ClassId) (b P : Nat) (ad : Nat → ga) (st : Nat → Option GS) (o : Nat) (f : Nat → Int64) (b0 : Int32) (hn : gat st b0 = none) (hPO : va_P D vwCl (OW cI cJ cG o b P ad st f) H0) (hDO : va_D (fun _ => True) (OW cI cJ cG o b P ad st f)) : LC l yL_bare wsL_bare [Value.ref b, Value.int b0, Value.ref o] D cI cJ cZ cG z o b P ad st f H0 (1, st, 0) := by
  unfold LC
  refine va_MetW (y := yL_bare) (ws := wsL_bare) (cc := cL_bare) (maxL := 4) (ret := (some .int)) (by decide) rfl ?_
  intro p e s m args below meth c s₁ B hml hv
  obtain ⟨rfl, hH, hKX⟩ := hv
  have hx := B.exec
  have hb := B.bytes
  have hr := B.returns
  have hts := atoms_spec (ws := wsL_bare) B.pre
  have hown : s.vm.findClass RL = some m.cls := findClass_of_methodNamed B.named
  have hlocks := B.notSynchronized
  subst hH
  have hKW := hKX.1.1
  have hK := hKW.1
  have htab : c.exceptionTable.toList = [⟨0, 9, 12, 13⟩] := by rw [vx_table (x := yL_bare) B (hts _ List.mem_cons_self)]; rfl
  have hl := lv_entry ([Value.ref b, Value.int b0, Value.ref o]) (n := 4) (Nat.le_of_ble_eq_true rfl)
  rw [lg_entry_eq]
  generalize (lg_sl ([Value.ref b, Value.int b0, Value.ref o]) ++ List.replicate (4 - (lg_sl ([Value.ref b, Value.int b0, Value.ref o])).length) Slot.unset).toArray = ls at hl ⊢
  have hl : lv_has ls 4 [(0, .ref b), (1, .int b0), (2, .ref o)] := hl
  have hPB : va_P D vwCl (BW cI cJ cG b P ad st) s.heap := wd_P.part hPO (fun _ h => List.mem_append_right _ h)
  have hD0 : va_D (fun _ => True) (BW cI cJ cG b P ad st) := wd_D.left (wd_D.perm hDO List.perm_append_comm)
  have hD := hDO.self (sz := s.heap.size)
  generalize hAe : va_A (OW cI cJ cG o b P ad st f) s.heap.size = A at hD ⊢
  have hA : ∀ q : Nat, s.heap.size ≤ q → A q := fun q h => by rw [← hAe]; exact Or.inr h
  have hS : va_S A s.heap s.heap [] := va_S.rf
  have hP := hPO
  refine lv_aload_n hx hb dL_bare_0 rfl (lv_at hl 2 rfl) ?_
  refine lv_iconst (v := 0) hx hb dL_bare_1 (by decide) ?_
  refine lv_aload_n hx hb dL_bare_2 rfl (lv_at hl 0 rfl) ?_
  refine lv_iload_n hx hb dL_bare_3 rfl (lv_at hl 1 rfl) ?_
  refine ct_V (As := [.int b0]) (rest := [.int (0 : Int32), .ref o]) ⟨hx, hb, hml, hown, hts⟩ (t_X1_bare_N l hst z s.heap hz D cI cJ cZ cG b P ad st b0  hn hPB) (KZ_puK D cI cJ cZ cG z s.heap) hKX.1 (cwV 1 hts gL_bare_X1_bare rfl rfl rfl (by decide +kernel) ⟨Nat.le_of_ble_eq_true rfl, Nat.le_of_ble_eq_true rfl⟩) (va_recv hK hPB (ci := 1) (q0 := 0) rfl rfl) rfl hl.1 rfl (Nat.le_of_ble_eq_true rfl) dL_bare_4 ⟨Nat.le_of_ble_eq_true rfl, Nat.le_of_ble_eq_true rfl⟩ (name := xN) [] ⟨0, 9, 12, 13⟩ [] htab (fun _ h => nomatch h) (by decide) (by decide) (hts (.classLink RL 13 xN) (by decide +kernel)) (hKW.n 19 rfl rfl) (fun H1 q9 hz1 hk1 => ?_)
  have hP1 : va_P D vwCl (OW cI cJ cG o b P ad st f) H1 := hPO.kept (fun k9 x9 hx9 => hk1 x9.1 ((hPO k9 x9 hx9).lt))
  refine W.eq (g2 := F0 m 12 ls [.ref q9]) rfl ?_
  refine lv_astore_n (lv' := [(3, .ref q9), (0, .ref b), (1, .int b0), (2, .ref o)]) hx hb dL_bare_12 rfl hl (by decide) rfl (fun ls hl => ?_)
  refine lv_iconst (v := 1) hx hb dL_bare_13 (by decide) ?_
  exact W.iret (v := (1 : Int32)) hx hb hr (fun t ht hW => ⟨rfl, _, ⟨ad, f, rfl, fun h => absurd (show (1 : Int32) = 0 from h) (by decide)⟩, by rw [ht]; exact hP1, hD, by rw [ht]; exact hz1, fun q h1 _ => by rw [ht]; exact hk1 q h1⟩) (fun _ h => nomatch h) dL_bare_14
set_option maxHeartbeats 4000000 in
set_option maxRecDepth 100000 in
theorem l_bare_O (l : Launch) (hst : l.stackTraces = false) (z : Nat) (H0 : Heap) (hz : z ≤ H0.size) (D : va_G) (cI cJ cZ cG : ClassId) (b P : Nat) (ad : Nat → ga) (st : Nat → Option GS) (o : Nat) (f : Nat → Int64) (j : Nat) (x : GS) (hI : BI st) (hj : j < 12) (hst1 : st j = some x) (hPO : va_P D vwCl (OW cI cJ cG o b P ad st f) H0) (hDO : va_D (fun _ => True) (OW cI cJ cG o b P ad st f)) : LC l yL_bare wsL_bare [Value.ref b, Value.int (nI j), Value.ref o] D cI cJ cZ cG z o b P ad st f H0 (0, va_up st j (some (F_X1_bare x).2), (F_X1_bare x).1.toInt64) := by
  unfold LC
  refine va_MetW (y := yL_bare) (ws := wsL_bare) (cc := cL_bare) (maxL := 4) (ret := (some .int)) (by decide) rfl ?_
  intro p e s m args below meth c s₁ B hml hv
  obtain ⟨rfl, hH, hKX⟩ := hv
  have hx := B.exec
  have hb := B.bytes
  have hr := B.returns
  have hts := atoms_spec (ws := wsL_bare) B.pre
  have hown : s.vm.findClass RL = some m.cls := findClass_of_methodNamed B.named
  have hlocks := B.notSynchronized
  subst hH
  have hKW := hKX.1.1
  have hK := hKW.1
  have htab : c.exceptionTable.toList = [⟨0, 9, 12, 13⟩] := by rw [vx_table (x := yL_bare) B (hts _ List.mem_cons_self)]; rfl
  have hl := lv_entry ([Value.ref b, Value.int (nI j), Value.ref o]) (n := 4) (Nat.le_of_ble_eq_true rfl)
  rw [lg_entry_eq]
  generalize (lg_sl ([Value.ref b, Value.int (nI j), Value.ref o]) ++ List.replicate (4 - (lg_sl ([Value.ref b, Value.int (nI j), Value.ref o])).length) Slot.unset).toArray = ls at hl ⊢
  have hl : lv_has ls 4 [(0, .ref b), (1, .int (nI j)), (2, .ref o)] := hl
  have hPB : va_P D vwCl (BW cI cJ cG b P ad st) s.heap := wd_P.part hPO (fun _ h => List.mem_append_right _ h)
  have hD0 : va_D (fun _ => True) (BW cI cJ cG b P ad st) := wd_D.left (wd_D.perm hDO List.perm_append_comm)
  have hD := hDO.self (sz := s.heap.size)
  generalize hAe : va_A (OW cI cJ cG o b P ad st f) s.heap.size = A at hD ⊢
  have hA : ∀ q : Nat, s.heap.size ≤ q → A q := fun q h => by rw [← hAe]; exact Or.inr h
  have hS : va_S A s.heap s.heap [] := va_S.rf
  have hP := hPO
  refine lv_aload_n hx hb dL_bare_0 rfl (lv_at hl 2 rfl) ?_
  refine lv_iconst (v := 0) hx hb dL_bare_1 (by decide) ?_
  refine lv_aload_n hx hb dL_bare_2 rfl (lv_at hl 0 rfl) ?_
  refine lv_iload_n hx hb dL_bare_3 rfl (lv_at hl 1 rfl) ?_
  refine wr_V (As := [.int (nI j)]) (rest := [.int (0 : Int32), .ref o]) (Rw := [(o, .inl (cJ, 1, .inr (.inl f)))]) ⟨hx, hb, hml, hown, hts⟩ (c_X1_bare l s.heap D cI cJ cZ cG b P ad st j x hj hst1 hPB hD0) (KW_puK D cI cJ cZ cG) hKW (cwV 1 hts gL_bare_X1_bare rfl rfl rfl (by decide +kernel) ⟨Nat.le_of_ble_eq_true rfl, Nat.le_of_ble_eq_true rfl⟩) (va_recv hK hPB (ci := 1) (q0 := 0) rfl rfl) rfl hl.1 rfl (Nat.le_of_ble_eq_true rfl) dL_bare_4 ⟨Nat.le_of_ble_eq_true rfl, Nat.le_of_ble_eq_true rfl⟩ (wd_P.perm hPO List.perm_append_comm) (wd_D.perm hD List.perm_append_comm) hS hA (fun w1 H locs hw hP hD hS => ?_)
  subst hw
  have hP := wd_P.perm hP List.perm_append_comm
  have hD := wd_D.perm hD List.perm_append_comm
  refine W.eq (g2 := F0 m 7 ls [.int ((F_X1_bare x).1), .int (0 : Int32), .ref o]) rfl ?_
  refine lv_i2l hx hb dL_bare_7 rfl ?_
  refine va_last (x := ((F_X1_bare x).1).toInt64) hx hb hK hP hD hS 0 1 rfl rfl (show vp_in (nI 0) 1 from vp_in_nI (by decide) (by decide)) dL_bare_8 (fun H locs hP hD hS => ?_)
  have hP : va_P D vwCl ([(o, .inl (cJ, 1, .inr (.inl (vp_updL f (0 : Int32).toNatClampNeg (((F_X1_bare x).1).toInt64)))))] ++ BW cI cJ cG b P ad (va_up st j (some (F_X1_bare x).2))) H := hP
  have hD : va_D A ([(o, .inl (cJ, 1, .inr (.inl (vp_updL f (0 : Int32).toNatClampNeg (((F_X1_bare x).1).toInt64)))))] ++ BW cI cJ cG b P ad (va_up st j (some (F_X1_bare x).2))) := hD
  refine lv_goto (tgt := 15) hx hb dL_bare_9 (by decide) ?_
  refine lv_iconst (v := 0) hx hb dL_bare_15 (by decide) ?_
  refine W.widen (k := 4) (n := 35) (Nat.le_of_ble_eq_true rfl) (Nat.le_of_ble_eq_true rfl) ?_
  exact W.iret (v := (0 : Int32)) hx hb hr (fun t ht hW => ⟨rfl, _, ⟨ad, _, rfl, fun _ => updL0 f _⟩, by rw [ht]; exact hP, hD, (hS.F ht).1, (hS.F ht).2⟩) hS.2.2 dL_bare_16
set_option maxHeartbeats 4000000 in
set_option maxRecDepth 100000 in
theorem l_clear_N (l : Launch) (hst : l.stackTraces = false) (z : Nat) (H0 : Heap) (hz : z ≤ H0.size) (D : va_G) (cI cJ cZ cG : ClassId) (b P : Nat) (ad : Nat → ga) (st : Nat → Option GS) (o : Nat) (f : Nat → Int64) (b0 : Int32) (hn : gat st b0 = none) (hPO : va_P D vwCl (OW cI cJ cG o b P ad st f) H0) (hDO : va_D (fun _ => True) (OW cI cJ cG o b P ad st f)) : LC l yL_clear wsL_clear [Value.ref b, Value.int b0, Value.ref o] D cI cJ cZ cG z o b P ad st f H0 (1, st, 0) := by
  unfold LC
  refine va_MetW (y := yL_clear) (ws := wsL_clear) (cc := cL_clear) (maxL := 4) (ret := (some .int)) (by decide) rfl ?_
  intro p e s m args below meth c s₁ B hml hv
  obtain ⟨rfl, hH, hKX⟩ := hv
  have hx := B.exec
  have hb := B.bytes
  have hr := B.returns
  have hts := atoms_spec (ws := wsL_clear) B.pre
  have hown : s.vm.findClass RL = some m.cls := findClass_of_methodNamed B.named
  have hlocks := B.notSynchronized
  subst hH
  have hKW := hKX.1.1
  have hK := hKW.1
  have htab : c.exceptionTable.toList = [⟨0, 16, 19, 13⟩] := by rw [vx_table (x := yL_clear) B (hts _ List.mem_cons_self)]; rfl
  have hl := lv_entry ([Value.ref b, Value.int b0, Value.ref o]) (n := 4) (Nat.le_of_ble_eq_true rfl)
  rw [lg_entry_eq]
  generalize (lg_sl ([Value.ref b, Value.int b0, Value.ref o]) ++ List.replicate (4 - (lg_sl ([Value.ref b, Value.int b0, Value.ref o])).length) Slot.unset).toArray = ls at hl ⊢
  have hl : lv_has ls 4 [(0, .ref b), (1, .int b0), (2, .ref o)] := hl
  have hPB : va_P D vwCl (BW cI cJ cG b P ad st) s.heap := wd_P.part hPO (fun _ h => List.mem_append_right _ h)
  have hD0 : va_D (fun _ => True) (BW cI cJ cG b P ad st) := wd_D.left (wd_D.perm hDO List.perm_append_comm)
  have hD := hDO.self (sz := s.heap.size)
  generalize hAe : va_A (OW cI cJ cG o b P ad st f) s.heap.size = A at hD ⊢
  have hA : ∀ q : Nat, s.heap.size ≤ q → A q := fun q h => by rw [← hAe]; exact Or.inr h
  have hS : va_S A s.heap s.heap [] := va_S.rf
  have hP := hPO
  refine lv_aload_n hx hb dL_clear_0 rfl (lv_at hl 2 rfl) ?_
  refine lv_iconst (v := 0) hx hb dL_clear_1 (by decide) ?_
  refine lv_aload_n hx hb dL_clear_2 rfl (lv_at hl 0 rfl) ?_
  refine lv_iload_n hx hb dL_clear_3 rfl (lv_at hl 1 rfl) ?_
  refine ct_V (As := [.int b0]) (rest := [.int (0 : Int32), .ref o]) ⟨hx, hb, hml, hown, hts⟩ (t_X1_clear_N l hst z s.heap hz D cI cJ cZ cG b P ad st b0  hn hPB) (KZ_puK D cI cJ cZ cG z s.heap) hKX.1 (cwV 1 hts gL_clear_X1_clear rfl rfl rfl (by decide +kernel) ⟨Nat.le_of_ble_eq_true rfl, Nat.le_of_ble_eq_true rfl⟩) (va_recv hK hPB (ci := 1) (q0 := 0) rfl rfl) rfl hl.1 rfl (Nat.le_of_ble_eq_true rfl) dL_clear_4 ⟨Nat.le_of_ble_eq_true rfl, Nat.le_of_ble_eq_true rfl⟩ (name := xN) [] ⟨0, 16, 19, 13⟩ [] htab (fun _ h => nomatch h) (by decide) (by decide) (hts (.classLink RL 13 xN) (by decide +kernel)) (hKW.n 19 rfl rfl) (fun H1 q9 hz1 hk1 => ?_)
  have hP1 : va_P D vwCl (OW cI cJ cG o b P ad st f) H1 := hPO.kept (fun k9 x9 hx9 => hk1 x9.1 ((hPO k9 x9 hx9).lt))
  refine W.eq (g2 := F0 m 19 ls [.ref q9]) rfl ?_
  refine lv_astore_n (lv' := [(3, .ref q9), (0, .ref b), (1, .int b0), (2, .ref o)]) hx hb dL_clear_19 rfl hl (by decide) rfl (fun ls hl => ?_)
  refine lv_iconst (v := 1) hx hb dL_clear_20 (by decide) ?_
  exact W.iret (v := (1 : Int32)) hx hb hr (fun t ht hW => ⟨rfl, _, ⟨ad, f, rfl, fun h => absurd (show (1 : Int32) = 0 from h) (by decide)⟩, by rw [ht]; exact hP1, hD, by rw [ht]; exact hz1, fun q h1 _ => by rw [ht]; exact hk1 q h1⟩) (fun _ h => nomatch h) dL_clear_21
set_option maxHeartbeats 4000000 in
set_option maxRecDepth 100000 in
theorem l_clear_O (l : Launch) (hst : l.stackTraces = false) (z : Nat) (H0 : Heap) (hz : z ≤ H0.size) (D : va_G) (cI cJ cZ cG : ClassId) (b P : Nat) (ad : Nat → ga) (st : Nat → Option GS) (o : Nat) (f : Nat → Int64) (j : Nat) (x : GS) (hI : BI st) (hj : j < 12) (hst1 : st j = some x) (hPO : va_P D vwCl (OW cI cJ cG o b P ad st f) H0) (hDO : va_D (fun _ => True) (OW cI cJ cG o b P ad st f)) : LC l yL_clear wsL_clear [Value.ref b, Value.int (nI j), Value.ref o] D cI cJ cZ cG z o b P ad st f H0 (0, va_up st j (some (F_X1_clear x).2), if (F_X1_clear x).1 = 0 then 0 else 1) := by
  unfold LC
  refine va_MetW (y := yL_clear) (ws := wsL_clear) (cc := cL_clear) (maxL := 4) (ret := (some .int)) (by decide) rfl ?_
  intro p e s m args below meth c s₁ B hml hv
  obtain ⟨rfl, hH, hKX⟩ := hv
  have hx := B.exec
  have hb := B.bytes
  have hr := B.returns
  have hts := atoms_spec (ws := wsL_clear) B.pre
  have hown : s.vm.findClass RL = some m.cls := findClass_of_methodNamed B.named
  have hlocks := B.notSynchronized
  subst hH
  have hKW := hKX.1.1
  have hK := hKW.1
  have htab : c.exceptionTable.toList = [⟨0, 16, 19, 13⟩] := by rw [vx_table (x := yL_clear) B (hts _ List.mem_cons_self)]; rfl
  have hl := lv_entry ([Value.ref b, Value.int (nI j), Value.ref o]) (n := 4) (Nat.le_of_ble_eq_true rfl)
  rw [lg_entry_eq]
  generalize (lg_sl ([Value.ref b, Value.int (nI j), Value.ref o]) ++ List.replicate (4 - (lg_sl ([Value.ref b, Value.int (nI j), Value.ref o])).length) Slot.unset).toArray = ls at hl ⊢
  have hl : lv_has ls 4 [(0, .ref b), (1, .int (nI j)), (2, .ref o)] := hl
  have hPB : va_P D vwCl (BW cI cJ cG b P ad st) s.heap := wd_P.part hPO (fun _ h => List.mem_append_right _ h)
  have hD0 : va_D (fun _ => True) (BW cI cJ cG b P ad st) := wd_D.left (wd_D.perm hDO List.perm_append_comm)
  have hD := hDO.self (sz := s.heap.size)
  generalize hAe : va_A (OW cI cJ cG o b P ad st f) s.heap.size = A at hD ⊢
  have hA : ∀ q : Nat, s.heap.size ≤ q → A q := fun q h => by rw [← hAe]; exact Or.inr h
  have hS : va_S A s.heap s.heap [] := va_S.rf
  have hP := hPO
  refine lv_aload_n hx hb dL_clear_0 rfl (lv_at hl 2 rfl) ?_
  refine lv_iconst (v := 0) hx hb dL_clear_1 (by decide) ?_
  refine lv_aload_n hx hb dL_clear_2 rfl (lv_at hl 0 rfl) ?_
  refine lv_iload_n hx hb dL_clear_3 rfl (lv_at hl 1 rfl) ?_
  refine wr_V (As := [.int (nI j)]) (rest := [.int (0 : Int32), .ref o]) (Rw := [(o, .inl (cJ, 1, .inr (.inl f)))]) ⟨hx, hb, hml, hown, hts⟩ (c_X1_clear l s.heap D cI cJ cZ cG b P ad st j x hj hst1 (hI j hj x hst1).2 hPB hD0) (KW_puK D cI cJ cZ cG) hKW (cwV 1 hts gL_clear_X1_clear rfl rfl rfl (by decide +kernel) ⟨Nat.le_of_ble_eq_true rfl, Nat.le_of_ble_eq_true rfl⟩) (va_recv hK hPB (ci := 1) (q0 := 0) rfl rfl) rfl hl.1 rfl (Nat.le_of_ble_eq_true rfl) dL_clear_4 ⟨Nat.le_of_ble_eq_true rfl, Nat.le_of_ble_eq_true rfl⟩ (wd_P.perm hPO List.perm_append_comm) (wd_D.perm hD List.perm_append_comm) hS hA (fun w1 H locs hw hP hD hS => ?_)
  subst hw
  have hP := wd_P.perm hP List.perm_append_comm
  have hD := wd_D.perm hD List.perm_append_comm
  refine W.eq (g2 := F0 m 7 ls [.int ((F_X1_clear x).1), .int (0 : Int32), .ref o]) rfl ?_
  refine lv_if_eq (tgt := 14) hx hb dL_clear_7 (by decide) (fun c_1 => ?_) (fun c_1 => ?_)
  · refine lv_lconst (v := 0) hx hb dL_clear_14 (by decide) ?_
    refine va_last (x := (0 : Int64)) hx hb hK hP hD hS 0 1 rfl rfl (show vp_in (nI 0) 1 from vp_in_nI (by decide) (by decide)) dL_clear_15 (fun H locs hP hD hS => ?_)
    have hP : va_P D vwCl ([(o, .inl (cJ, 1, .inr (.inl (vp_updL f (0 : Int32).toNatClampNeg (0 : Int64)))))] ++ BW cI cJ cG b P ad (va_up st j (some (F_X1_clear x).2))) H := hP
    have hD : va_D A ([(o, .inl (cJ, 1, .inr (.inl (vp_updL f (0 : Int32).toNatClampNeg (0 : Int64)))))] ++ BW cI cJ cG b P ad (va_up st j (some (F_X1_clear x).2))) := hD
    refine lv_goto (tgt := 22) hx hb dL_clear_16 (by decide) ?_
    refine lv_iconst (v := 0) hx hb dL_clear_22 (by decide) ?_
    refine W.widen (k := 4) (n := 35) (Nat.le_of_ble_eq_true rfl) (Nat.le_of_ble_eq_true rfl) ?_
    exact W.iret (v := (0 : Int32)) hx hb hr (fun t ht hW => ⟨rfl, _, ⟨ad, _, rfl, fun _ => (updL0 f _).trans (by show _ = ite _ _ _; rw [if_pos c_1])⟩, by rw [ht]; exact hP, hD, (hS.F ht).1, (hS.F ht).2⟩) hS.2.2 dL_clear_23
  · refine lv_lconst (v := 1) hx hb dL_clear_10 (by decide) ?_
    refine lv_goto (tgt := 15) hx hb dL_clear_11 (by decide) ?_
    refine va_last (x := (1 : Int64)) hx hb hK hP hD hS 0 1 rfl rfl (show vp_in (nI 0) 1 from vp_in_nI (by decide) (by decide)) dL_clear_15 (fun H locs hP hD hS => ?_)
    have hP : va_P D vwCl ([(o, .inl (cJ, 1, .inr (.inl (vp_updL f (0 : Int32).toNatClampNeg (1 : Int64)))))] ++ BW cI cJ cG b P ad (va_up st j (some (F_X1_clear x).2))) H := hP
    have hD : va_D A ([(o, .inl (cJ, 1, .inr (.inl (vp_updL f (0 : Int32).toNatClampNeg (1 : Int64)))))] ++ BW cI cJ cG b P ad (va_up st j (some (F_X1_clear x).2))) := hD
    refine lv_goto (tgt := 22) hx hb dL_clear_16 (by decide) ?_
    refine lv_iconst (v := 0) hx hb dL_clear_22 (by decide) ?_
    refine W.widen (k := 4) (n := 35) (Nat.le_of_ble_eq_true rfl) (Nat.le_of_ble_eq_true rfl) ?_
    exact W.iret (v := (0 : Int32)) hx hb hr (fun t ht hW => ⟨rfl, _, ⟨ad, _, rfl, fun _ => (updL0 f _).trans (by show _ = ite _ _ _; rw [if_neg c_1])⟩, by rw [ht]; exact hP, hD, (hS.F ht).1, (hS.F ht).2⟩) hS.2.2 dL_clear_23
set_option maxHeartbeats 4000000 in
set_option maxRecDepth 100000 in
theorem l_read_N (l : Launch) (hst : l.stackTraces = false) (z : Nat) (H0 : Heap) (hz : z ≤ H0.size) (D : va_G) (cI cJ cZ cG : ClassId) (b P : Nat) (ad : Nat → ga) (st : Nat → Option GS) (o : Nat) (f : Nat → Int64) (b0 : Int32) (b1 : Int64) (hn : gat st b0 = none) (hPO : va_P D vwCl (OW cI cJ cG o b P ad st f) H0) (hDO : va_D (fun _ => True) (OW cI cJ cG o b P ad st f)) : LC l yL_read wsL_read [Value.ref b, Value.int b0, Value.long b1, Value.ref o] D cI cJ cZ cG z o b P ad st f H0 (1, st, 0) := by
  unfold LC
  refine va_MetW (y := yL_read) (ws := wsL_read) (cc := cL_read) (maxL := 6) (ret := (some .int)) (by decide) rfl ?_
  intro p e s m args below meth c s₁ B hml hv
  obtain ⟨rfl, hH, hKX⟩ := hv
  have hx := B.exec
  have hb := B.bytes
  have hr := B.returns
  have hts := atoms_spec (ws := wsL_read) B.pre
  have hown : s.vm.findClass RL = some m.cls := findClass_of_methodNamed B.named
  have hlocks := B.notSynchronized
  subst hH
  have hKW := hKX.1.1
  have hK := hKW.1
  have htab : c.exceptionTable.toList = [⟨0, 10, 13, 13⟩, ⟨0, 10, 17, 15⟩] := by rw [vx_table (x := yL_read) B (hts _ List.mem_cons_self)]; rfl
  have hl := lv_entry ([Value.ref b, Value.int b0, Value.long b1, Value.ref o]) (n := 6) (Nat.le_of_ble_eq_true rfl)
  rw [lg_entry_eq]
  generalize (lg_sl ([Value.ref b, Value.int b0, Value.long b1, Value.ref o]) ++ List.replicate (6 - (lg_sl ([Value.ref b, Value.int b0, Value.long b1, Value.ref o])).length) Slot.unset).toArray = ls at hl ⊢
  have hl : lv_has ls 6 [(0, .ref b), (1, .int b0), (2, .long b1), (4, .ref o)] := hl
  have hPB : va_P D vwCl (BW cI cJ cG b P ad st) s.heap := wd_P.part hPO (fun _ h => List.mem_append_right _ h)
  have hD0 : va_D (fun _ => True) (BW cI cJ cG b P ad st) := wd_D.left (wd_D.perm hDO List.perm_append_comm)
  have hD := hDO.self (sz := s.heap.size)
  generalize hAe : va_A (OW cI cJ cG o b P ad st f) s.heap.size = A at hD ⊢
  have hA : ∀ q : Nat, s.heap.size ≤ q → A q := fun q h => by rw [← hAe]; exact Or.inr h
  have hS : va_S A s.heap s.heap [] := va_S.rf
  have hP := hPO
  refine lv_aload hx hb dL_read_0 (lv_at hl 3 rfl) ?_
  refine lv_iconst (v := 0) hx hb dL_read_2 (by decide) ?_
  refine lv_aload_n hx hb dL_read_3 rfl (lv_at hl 0 rfl) ?_
  refine lv_iload_n hx hb dL_read_4 rfl (lv_at hl 1 rfl) ?_
  refine lv_lload_n hx hb dL_read_5 rfl (lv_at hl 2 rfl) ?_
  refine ct_V (As := [.int b0, .long b1]) (rest := [.int (0 : Int32), .ref o]) ⟨hx, hb, hml, hown, hts⟩ (t_X1_read_N l hst z s.heap hz D cI cJ cZ cG b P ad st b0 b1 hn hPB) (KZ_puK D cI cJ cZ cG z s.heap) hKX.1 (cwV 2 hts gL_read_X1_read rfl rfl rfl (by decide +kernel) ⟨Nat.le_of_ble_eq_true rfl, Nat.le_of_ble_eq_true rfl⟩) (va_recv hK hPB (ci := 1) (q0 := 0) rfl rfl) rfl hl.1 rfl (Nat.le_of_ble_eq_true rfl) dL_read_6 ⟨Nat.le_of_ble_eq_true rfl, Nat.le_of_ble_eq_true rfl⟩ (name := xN) [] ⟨0, 10, 13, 13⟩ [⟨0, 10, 17, 15⟩] htab (fun _ h => nomatch h) (by decide) (by decide) (hts (.classLink RL 13 xN) (by decide +kernel)) (hKW.n 19 rfl rfl) (fun H1 q9 hz1 hk1 => ?_)
  have hP1 : va_P D vwCl (OW cI cJ cG o b P ad st f) H1 := hPO.kept (fun k9 x9 hx9 => hk1 x9.1 ((hPO k9 x9 hx9).lt))
  refine W.eq (g2 := F0 m 13 ls [.ref q9]) rfl ?_
  refine lv_astore (lv' := [(5, .ref q9), (0, .ref b), (1, .int b0), (2, .long b1), (4, .ref o)]) hx hb dL_read_13 hl (by decide) rfl (fun ls hl => ?_)
  refine lv_iconst (v := 1) hx hb dL_read_15 (by decide) ?_
  exact W.iret (v := (1 : Int32)) hx hb hr (fun t ht hW => ⟨rfl, _, ⟨ad, f, rfl, fun h => absurd (show (1 : Int32) = 0 from h) (by decide)⟩, by rw [ht]; exact hP1, hD, by rw [ht]; exact hz1, fun q h1 _ => by rw [ht]; exact hk1 q h1⟩) (fun _ h => nomatch h) dL_read_16
set_option maxHeartbeats 4000000 in
set_option maxRecDepth 100000 in
theorem l_read_A (l : Launch) (hst : l.stackTraces = false) (z : Nat) (H0 : Heap) (hz : z ≤ H0.size) (D : va_G) (cI cJ cZ cG : ClassId) (b P : Nat) (ad : Nat → ga) (st : Nat → Option GS) (o : Nat) (f : Nat → Int64) (j : Nat) (x : GS) (b1 : Int64) (hj : j < 12) (hst1 : st j = some x) (hnog : e_X1_needGood (gK x) b1 = 2) (hPO : va_P D vwCl (OW cI cJ cG o b P ad st f) H0) (hDO : va_D (fun _ => True) (OW cI cJ cG o b P ad st f)) : LC l yL_read wsL_read [Value.ref b, Value.int (nI j), Value.long b1, Value.ref o] D cI cJ cZ cG z o b P ad st f H0 (2, st, 0) := by
  unfold LC
  refine va_MetW (y := yL_read) (ws := wsL_read) (cc := cL_read) (maxL := 6) (ret := (some .int)) (by decide) rfl ?_
  intro p e s m args below meth c s₁ B hml hv
  obtain ⟨rfl, hH, hKX⟩ := hv
  have hx := B.exec
  have hb := B.bytes
  have hr := B.returns
  have hts := atoms_spec (ws := wsL_read) B.pre
  have hown : s.vm.findClass RL = some m.cls := findClass_of_methodNamed B.named
  have hlocks := B.notSynchronized
  subst hH
  have hKW := hKX.1.1
  have hK := hKW.1
  have htab : c.exceptionTable.toList = [⟨0, 10, 13, 13⟩, ⟨0, 10, 17, 15⟩] := by rw [vx_table (x := yL_read) B (hts _ List.mem_cons_self)]; rfl
  have hl := lv_entry ([Value.ref b, Value.int (nI j), Value.long b1, Value.ref o]) (n := 6) (Nat.le_of_ble_eq_true rfl)
  rw [lg_entry_eq]
  generalize (lg_sl ([Value.ref b, Value.int (nI j), Value.long b1, Value.ref o]) ++ List.replicate (6 - (lg_sl ([Value.ref b, Value.int (nI j), Value.long b1, Value.ref o])).length) Slot.unset).toArray = ls at hl ⊢
  have hl : lv_has ls 6 [(0, .ref b), (1, .int (nI j)), (2, .long b1), (4, .ref o)] := hl
  have hPB : va_P D vwCl (BW cI cJ cG b P ad st) s.heap := wd_P.part hPO (fun _ h => List.mem_append_right _ h)
  have hD0 : va_D (fun _ => True) (BW cI cJ cG b P ad st) := wd_D.left (wd_D.perm hDO List.perm_append_comm)
  have hD := hDO.self (sz := s.heap.size)
  generalize hAe : va_A (OW cI cJ cG o b P ad st f) s.heap.size = A at hD ⊢
  have hA : ∀ q : Nat, s.heap.size ≤ q → A q := fun q h => by rw [← hAe]; exact Or.inr h
  have hS : va_S A s.heap s.heap [] := va_S.rf
  have hP := hPO
  refine lv_aload hx hb dL_read_0 (lv_at hl 3 rfl) ?_
  refine lv_iconst (v := 0) hx hb dL_read_2 (by decide) ?_
  refine lv_aload_n hx hb dL_read_3 rfl (lv_at hl 0 rfl) ?_
  refine lv_iload_n hx hb dL_read_4 rfl (lv_at hl 1 rfl) ?_
  refine lv_lload_n hx hb dL_read_5 rfl (lv_at hl 2 rfl) ?_
  refine ct_V (As := [.int (nI j), .long b1]) (rest := [.int (0 : Int32), .ref o]) ⟨hx, hb, hml, hown, hts⟩ (t_X1_read_A l hst z s.heap hz D cI cJ cZ cG b P ad st j x b1 hj hst1 hnog hPB) (KZ_puK D cI cJ cZ cG z s.heap) hKX.1 (cwV 2 hts gL_read_X1_read rfl rfl rfl (by decide +kernel) ⟨Nat.le_of_ble_eq_true rfl, Nat.le_of_ble_eq_true rfl⟩) (va_recv hK hPB (ci := 1) (q0 := 0) rfl rfl) rfl hl.1 rfl (Nat.le_of_ble_eq_true rfl) dL_read_6 ⟨Nat.le_of_ble_eq_true rfl, Nat.le_of_ble_eq_true rfl⟩ (name := xA) [⟨0, 10, 13, 13⟩] ⟨0, 10, 17, 15⟩ [] htab (List.forall_mem_cons.mpr ⟨Or.inr ⟨by decide, xN, hts (.classLink RL 13 xN) (by decide +kernel), hKX.2.1⟩, fun _ h => nomatch h⟩) (by decide) (by decide) (hts (.classLink RL 15 xA) (by decide +kernel)) (hKW.n 20 rfl rfl) (fun H1 q9 hz1 hk1 => ?_)
  have hP1 : va_P D vwCl (OW cI cJ cG o b P ad st f) H1 := hPO.kept (fun k9 x9 hx9 => hk1 x9.1 ((hPO k9 x9 hx9).lt))
  refine W.eq (g2 := F0 m 17 ls [.ref q9]) rfl ?_
  refine lv_astore (lv' := [(5, .ref q9), (0, .ref b), (1, .int (nI j)), (2, .long b1), (4, .ref o)]) hx hb dL_read_17 hl (by decide) rfl (fun ls hl => ?_)
  refine lv_iconst (v := 2) hx hb dL_read_19 (by decide) ?_
  exact W.iret (v := (2 : Int32)) hx hb hr (fun t ht hW => ⟨rfl, _, ⟨ad, f, rfl, fun h => absurd (show (2 : Int32) = 0 from h) (by decide)⟩, by rw [ht]; exact hP1, hD, by rw [ht]; exact hz1, fun q h1 _ => by rw [ht]; exact hk1 q h1⟩) (fun _ h => nomatch h) dL_read_20
set_option maxHeartbeats 4000000 in
set_option maxRecDepth 100000 in
theorem l_read_O (l : Launch) (hst : l.stackTraces = false) (z : Nat) (H0 : Heap) (hz : z ≤ H0.size) (D : va_G) (cI cJ cZ cG : ClassId) (b P : Nat) (ad : Nat → ga) (st : Nat → Option GS) (o : Nat) (f : Nat → Int64) (j : Nat) (x : GS) (b1 : Int64) (hI : BI st) (hj : j < 12) (hst1 : st j = some x) (hgd : e_X1_needGood (gK x) b1 = 0) (hPO : va_P D vwCl (OW cI cJ cG o b P ad st f) H0) (hDO : va_D (fun _ => True) (OW cI cJ cG o b P ad st f)) : LC l yL_read wsL_read [Value.ref b, Value.int (nI j), Value.long b1, Value.ref o] D cI cJ cZ cG z o b P ad st f H0 (0, va_up st j (some (F_X1_takeReading st x b1).2), (F_X1_takeReading st x b1).1) := by
  unfold LC
  refine va_MetW (y := yL_read) (ws := wsL_read) (cc := cL_read) (maxL := 6) (ret := (some .int)) (by decide) rfl ?_
  intro p e s m args below meth c s₁ B hml hv
  obtain ⟨rfl, hH, hKX⟩ := hv
  have hx := B.exec
  have hb := B.bytes
  have hr := B.returns
  have hts := atoms_spec (ws := wsL_read) B.pre
  have hown : s.vm.findClass RL = some m.cls := findClass_of_methodNamed B.named
  have hlocks := B.notSynchronized
  subst hH
  have hKW := hKX.1.1
  have hK := hKW.1
  have htab : c.exceptionTable.toList = [⟨0, 10, 13, 13⟩, ⟨0, 10, 17, 15⟩] := by rw [vx_table (x := yL_read) B (hts _ List.mem_cons_self)]; rfl
  have hl := lv_entry ([Value.ref b, Value.int (nI j), Value.long b1, Value.ref o]) (n := 6) (Nat.le_of_ble_eq_true rfl)
  rw [lg_entry_eq]
  generalize (lg_sl ([Value.ref b, Value.int (nI j), Value.long b1, Value.ref o]) ++ List.replicate (6 - (lg_sl ([Value.ref b, Value.int (nI j), Value.long b1, Value.ref o])).length) Slot.unset).toArray = ls at hl ⊢
  have hl : lv_has ls 6 [(0, .ref b), (1, .int (nI j)), (2, .long b1), (4, .ref o)] := hl
  have hPB : va_P D vwCl (BW cI cJ cG b P ad st) s.heap := wd_P.part hPO (fun _ h => List.mem_append_right _ h)
  have hD0 : va_D (fun _ => True) (BW cI cJ cG b P ad st) := wd_D.left (wd_D.perm hDO List.perm_append_comm)
  have hD := hDO.self (sz := s.heap.size)
  generalize hAe : va_A (OW cI cJ cG o b P ad st f) s.heap.size = A at hD ⊢
  have hA : ∀ q : Nat, s.heap.size ≤ q → A q := fun q h => by rw [← hAe]; exact Or.inr h
  have hS : va_S A s.heap s.heap [] := va_S.rf
  have hP := hPO
  refine lv_aload hx hb dL_read_0 (lv_at hl 3 rfl) ?_
  refine lv_iconst (v := 0) hx hb dL_read_2 (by decide) ?_
  refine lv_aload_n hx hb dL_read_3 rfl (lv_at hl 0 rfl) ?_
  refine lv_iload_n hx hb dL_read_4 rfl (lv_at hl 1 rfl) ?_
  refine lv_lload_n hx hb dL_read_5 rfl (lv_at hl 2 rfl) ?_
  refine wr_V (As := [.int (nI j), .long b1]) (rest := [.int (0 : Int32), .ref o]) (Rw := [(o, .inl (cJ, 1, .inr (.inl f)))]) ⟨hx, hb, hml, hown, hts⟩ (c_X1_read l s.heap D cI cJ cZ cG b P ad st j x b1 hj hst1 (hI j hj x hst1).1 hgd hPB hD0) (KW_puK D cI cJ cZ cG) hKW (cwV 2 hts gL_read_X1_read rfl rfl rfl (by decide +kernel) ⟨Nat.le_of_ble_eq_true rfl, Nat.le_of_ble_eq_true rfl⟩) (va_recv hK hPB (ci := 1) (q0 := 0) rfl rfl) rfl hl.1 rfl (Nat.le_of_ble_eq_true rfl) dL_read_6 ⟨Nat.le_of_ble_eq_true rfl, Nat.le_of_ble_eq_true rfl⟩ (wd_P.perm hPO List.perm_append_comm) (wd_D.perm hD List.perm_append_comm) hS hA (fun w1 H locs hw hP hD hS => ?_)
  subst hw
  have hP := wd_P.perm hP List.perm_append_comm
  have hD := wd_D.perm hD List.perm_append_comm
  refine W.eq (g2 := F0 m 9 ls [.long ((F_X1_takeReading st x b1).1), .int (0 : Int32), .ref o]) rfl ?_
  refine va_last (x := (F_X1_takeReading st x b1).1) hx hb hK hP hD hS 0 1 rfl rfl (show vp_in (nI 0) 1 from vp_in_nI (by decide) (by decide)) dL_read_9 (fun H locs hP hD hS => ?_)
  have hP : va_P D vwCl ([(o, .inl (cJ, 1, .inr (.inl (vp_updL f (0 : Int32).toNatClampNeg ((F_X1_takeReading st x b1).1)))))] ++ BW cI cJ cG b P ad (va_up st j (some (F_X1_takeReading st x b1).2))) H := hP
  have hD : va_D A ([(o, .inl (cJ, 1, .inr (.inl (vp_updL f (0 : Int32).toNatClampNeg ((F_X1_takeReading st x b1).1)))))] ++ BW cI cJ cG b P ad (va_up st j (some (F_X1_takeReading st x b1).2))) := hD
  refine lv_goto (tgt := 21) hx hb dL_read_10 (by decide) ?_
  refine lv_iconst (v := 0) hx hb dL_read_21 (by decide) ?_
  refine W.widen (k := 4) (n := 35) (Nat.le_of_ble_eq_true rfl) (Nat.le_of_ble_eq_true rfl) ?_
  exact W.iret (v := (0 : Int32)) hx hb hr (fun t ht hW => ⟨rfl, _, ⟨ad, _, rfl, fun _ => updL0 f _⟩, by rw [ht]; exact hP, hD, (hS.F ht).1, (hS.F ht).2⟩) hS.2.2 dL_read_22
set_option maxHeartbeats 4000000 in
set_option maxRecDepth 100000 in
theorem l_hand_N (l : Launch) (hst : l.stackTraces = false) (z : Nat) (H0 : Heap) (hz : z ≤ H0.size) (D : va_G) (cI cJ cZ cG : ClassId) (b P : Nat) (ad : Nat → ga) (st : Nat → Option GS) (o : Nat) (f : Nat → Int64) (b0 : Int32) (b1 : Int32) (hn : gat st b0 = none) (hPO : va_P D vwCl (OW cI cJ cG o b P ad st f) H0) (hDO : va_D (fun _ => True) (OW cI cJ cG o b P ad st f)) : LC l yL_hand wsL_hand [Value.ref b, Value.int b0, Value.int b1, Value.ref o] D cI cJ cZ cG z o b P ad st f H0 (1, st, 0) := by
  unfold LC
  refine va_MetW (y := yL_hand) (ws := wsL_hand) (cc := cL_hand) (maxL := 5) (ret := (some .int)) (by decide) rfl ?_
  intro p e s m args below meth c s₁ B hml hv
  obtain ⟨rfl, hH, hKX⟩ := hv
  have hx := B.exec
  have hb := B.bytes
  have hr := B.returns
  have hts := atoms_spec (ws := wsL_hand) B.pre
  have hown : s.vm.findClass RL = some m.cls := findClass_of_methodNamed B.named
  have hlocks := B.notSynchronized
  subst hH
  have hKW := hKX.1.1
  have hK := hKW.1
  have htab : c.exceptionTable.toList = [⟨0, 9, 12, 13⟩, ⟨0, 9, 16, 15⟩] := by rw [vx_table (x := yL_hand) B (hts _ List.mem_cons_self)]; rfl
  have hl := lv_entry ([Value.ref b, Value.int b0, Value.int b1, Value.ref o]) (n := 5) (Nat.le_of_ble_eq_true rfl)
  rw [lg_entry_eq]
  generalize (lg_sl ([Value.ref b, Value.int b0, Value.int b1, Value.ref o]) ++ List.replicate (5 - (lg_sl ([Value.ref b, Value.int b0, Value.int b1, Value.ref o])).length) Slot.unset).toArray = ls at hl ⊢
  have hl : lv_has ls 5 [(0, .ref b), (1, .int b0), (2, .int b1), (3, .ref o)] := hl
  have hPB : va_P D vwCl (BW cI cJ cG b P ad st) s.heap := wd_P.part hPO (fun _ h => List.mem_append_right _ h)
  have hD0 : va_D (fun _ => True) (BW cI cJ cG b P ad st) := wd_D.left (wd_D.perm hDO List.perm_append_comm)
  have hD := hDO.self (sz := s.heap.size)
  generalize hAe : va_A (OW cI cJ cG o b P ad st f) s.heap.size = A at hD ⊢
  have hA : ∀ q : Nat, s.heap.size ≤ q → A q := fun q h => by rw [← hAe]; exact Or.inr h
  have hS : va_S A s.heap s.heap [] := va_S.rf
  have hP := hPO
  refine lv_aload_n hx hb dL_hand_0 rfl (lv_at hl 3 rfl) ?_
  refine lv_iconst (v := 0) hx hb dL_hand_1 (by decide) ?_
  refine lv_aload_n hx hb dL_hand_2 rfl (lv_at hl 0 rfl) ?_
  refine lv_iload_n hx hb dL_hand_3 rfl (lv_at hl 1 rfl) ?_
  refine lv_iload_n hx hb dL_hand_4 rfl (lv_at hl 2 rfl) ?_
  refine ct_V (As := [.int b0, .int b1]) (rest := [.int (0 : Int32), .ref o]) ⟨hx, hb, hml, hown, hts⟩ (t_X1_hand_N l hst z s.heap hz D cI cJ cZ cG b P ad st b0 b1 hn hPB) (KZ_puK D cI cJ cZ cG z s.heap) hKX.1 (cwV 2 hts gL_hand_X1_hand rfl rfl rfl (by decide +kernel) ⟨Nat.le_of_ble_eq_true rfl, Nat.le_of_ble_eq_true rfl⟩) (va_recv hK hPB (ci := 1) (q0 := 0) rfl rfl) rfl hl.1 rfl (Nat.le_of_ble_eq_true rfl) dL_hand_5 ⟨Nat.le_of_ble_eq_true rfl, Nat.le_of_ble_eq_true rfl⟩ (name := xN) [] ⟨0, 9, 12, 13⟩ [⟨0, 9, 16, 15⟩] htab (fun _ h => nomatch h) (by decide) (by decide) (hts (.classLink RL 13 xN) (by decide +kernel)) (hKW.n 19 rfl rfl) (fun H1 q9 hz1 hk1 => ?_)
  have hP1 : va_P D vwCl (OW cI cJ cG o b P ad st f) H1 := hPO.kept (fun k9 x9 hx9 => hk1 x9.1 ((hPO k9 x9 hx9).lt))
  refine W.eq (g2 := F0 m 12 ls [.ref q9]) rfl ?_
  refine lv_astore (lv' := [(4, .ref q9), (0, .ref b), (1, .int b0), (2, .int b1), (3, .ref o)]) hx hb dL_hand_12 hl (by decide) rfl (fun ls hl => ?_)
  refine lv_iconst (v := 1) hx hb dL_hand_14 (by decide) ?_
  exact W.iret (v := (1 : Int32)) hx hb hr (fun t ht hW => ⟨rfl, _, ⟨ad, f, rfl, fun h => absurd (show (1 : Int32) = 0 from h) (by decide)⟩, by rw [ht]; exact hP1, hD, by rw [ht]; exact hz1, fun q h1 _ => by rw [ht]; exact hk1 q h1⟩) (fun _ h => nomatch h) dL_hand_15
set_option maxHeartbeats 4000000 in
set_option maxRecDepth 100000 in
theorem l_hand_M (l : Launch) (hst : l.stackTraces = false) (z : Nat) (H0 : Heap) (hz : z ≤ H0.size) (D : va_G) (cI cJ cZ cG : ClassId) (b P : Nat) (ad : Nat → ga) (st : Nat → Option GS) (o : Nat) (f : Nat → Int64) (j2 : Nat) (y : GS) (b1 : Int32) (hj2 : j2 < 12) (hst2 : st j2 = some y) (hn2 : gat st b1 = none) (hPO : va_P D vwCl (OW cI cJ cG o b P ad st f) H0) (hDO : va_D (fun _ => True) (OW cI cJ cG o b P ad st f)) : LC l yL_hand wsL_hand [Value.ref b, Value.int (nI j2), Value.int b1, Value.ref o] D cI cJ cZ cG z o b P ad st f H0 (1, st, 0) := by
  unfold LC
  refine va_MetW (y := yL_hand) (ws := wsL_hand) (cc := cL_hand) (maxL := 5) (ret := (some .int)) (by decide) rfl ?_
  intro p e s m args below meth c s₁ B hml hv
  obtain ⟨rfl, hH, hKX⟩ := hv
  have hx := B.exec
  have hb := B.bytes
  have hr := B.returns
  have hts := atoms_spec (ws := wsL_hand) B.pre
  have hown : s.vm.findClass RL = some m.cls := findClass_of_methodNamed B.named
  have hlocks := B.notSynchronized
  subst hH
  have hKW := hKX.1.1
  have hK := hKW.1
  have htab : c.exceptionTable.toList = [⟨0, 9, 12, 13⟩, ⟨0, 9, 16, 15⟩] := by rw [vx_table (x := yL_hand) B (hts _ List.mem_cons_self)]; rfl
  have hl := lv_entry ([Value.ref b, Value.int (nI j2), Value.int b1, Value.ref o]) (n := 5) (Nat.le_of_ble_eq_true rfl)
  rw [lg_entry_eq]
  generalize (lg_sl ([Value.ref b, Value.int (nI j2), Value.int b1, Value.ref o]) ++ List.replicate (5 - (lg_sl ([Value.ref b, Value.int (nI j2), Value.int b1, Value.ref o])).length) Slot.unset).toArray = ls at hl ⊢
  have hl : lv_has ls 5 [(0, .ref b), (1, .int (nI j2)), (2, .int b1), (3, .ref o)] := hl
  have hPB : va_P D vwCl (BW cI cJ cG b P ad st) s.heap := wd_P.part hPO (fun _ h => List.mem_append_right _ h)
  have hD0 : va_D (fun _ => True) (BW cI cJ cG b P ad st) := wd_D.left (wd_D.perm hDO List.perm_append_comm)
  have hD := hDO.self (sz := s.heap.size)
  generalize hAe : va_A (OW cI cJ cG o b P ad st f) s.heap.size = A at hD ⊢
  have hA : ∀ q : Nat, s.heap.size ≤ q → A q := fun q h => by rw [← hAe]; exact Or.inr h
  have hS : va_S A s.heap s.heap [] := va_S.rf
  have hP := hPO
  refine lv_aload_n hx hb dL_hand_0 rfl (lv_at hl 3 rfl) ?_
  refine lv_iconst (v := 0) hx hb dL_hand_1 (by decide) ?_
  refine lv_aload_n hx hb dL_hand_2 rfl (lv_at hl 0 rfl) ?_
  refine lv_iload_n hx hb dL_hand_3 rfl (lv_at hl 1 rfl) ?_
  refine lv_iload_n hx hb dL_hand_4 rfl (lv_at hl 2 rfl) ?_
  refine ct_V (As := [.int (nI j2), .int b1]) (rest := [.int (0 : Int32), .ref o]) ⟨hx, hb, hml, hown, hts⟩ (t_X1_hand_M l hst z s.heap hz D cI cJ cZ cG b P ad st j2 y b1 hj2 hst2 hn2 hPB) (KZ_puK D cI cJ cZ cG z s.heap) hKX.1 (cwV 2 hts gL_hand_X1_hand rfl rfl rfl (by decide +kernel) ⟨Nat.le_of_ble_eq_true rfl, Nat.le_of_ble_eq_true rfl⟩) (va_recv hK hPB (ci := 1) (q0 := 0) rfl rfl) rfl hl.1 rfl (Nat.le_of_ble_eq_true rfl) dL_hand_5 ⟨Nat.le_of_ble_eq_true rfl, Nat.le_of_ble_eq_true rfl⟩ (name := xN) [] ⟨0, 9, 12, 13⟩ [⟨0, 9, 16, 15⟩] htab (fun _ h => nomatch h) (by decide) (by decide) (hts (.classLink RL 13 xN) (by decide +kernel)) (hKW.n 19 rfl rfl) (fun H1 q9 hz1 hk1 => ?_)
  have hP1 : va_P D vwCl (OW cI cJ cG o b P ad st f) H1 := hPO.kept (fun k9 x9 hx9 => hk1 x9.1 ((hPO k9 x9 hx9).lt))
  refine W.eq (g2 := F0 m 12 ls [.ref q9]) rfl ?_
  refine lv_astore (lv' := [(4, .ref q9), (0, .ref b), (1, .int (nI j2)), (2, .int b1), (3, .ref o)]) hx hb dL_hand_12 hl (by decide) rfl (fun ls hl => ?_)
  refine lv_iconst (v := 1) hx hb dL_hand_14 (by decide) ?_
  exact W.iret (v := (1 : Int32)) hx hb hr (fun t ht hW => ⟨rfl, _, ⟨ad, f, rfl, fun h => absurd (show (1 : Int32) = 0 from h) (by decide)⟩, by rw [ht]; exact hP1, hD, by rw [ht]; exact hz1, fun q h1 _ => by rw [ht]; exact hk1 q h1⟩) (fun _ h => nomatch h) dL_hand_15
set_option maxHeartbeats 4000000 in
set_option maxRecDepth 100000 in
theorem l_hand_A (l : Launch) (hst : l.stackTraces = false) (z : Nat) (H0 : Heap) (hz : z ≤ H0.size) (D : va_G) (cI cJ cZ cG : ClassId) (b P : Nat) (ad : Nat → ga) (st : Nat → Option GS) (o : Nat) (f : Nat → Int64) (j : Nat) (x : GS) (hj : j < 12) (hst1 : st j = some x) (hPO : va_P D vwCl (OW cI cJ cG o b P ad st f) H0) (hDO : va_D (fun _ => True) (OW cI cJ cG o b P ad st f)) : LC l yL_hand wsL_hand [Value.ref b, Value.int (nI j), Value.int (nI j), Value.ref o] D cI cJ cZ cG z o b P ad st f H0 (2, st, 0) := by
  unfold LC
  refine va_MetW (y := yL_hand) (ws := wsL_hand) (cc := cL_hand) (maxL := 5) (ret := (some .int)) (by decide) rfl ?_
  intro p e s m args below meth c s₁ B hml hv
  obtain ⟨rfl, hH, hKX⟩ := hv
  have hx := B.exec
  have hb := B.bytes
  have hr := B.returns
  have hts := atoms_spec (ws := wsL_hand) B.pre
  have hown : s.vm.findClass RL = some m.cls := findClass_of_methodNamed B.named
  have hlocks := B.notSynchronized
  subst hH
  have hKW := hKX.1.1
  have hK := hKW.1
  have htab : c.exceptionTable.toList = [⟨0, 9, 12, 13⟩, ⟨0, 9, 16, 15⟩] := by rw [vx_table (x := yL_hand) B (hts _ List.mem_cons_self)]; rfl
  have hl := lv_entry ([Value.ref b, Value.int (nI j), Value.int (nI j), Value.ref o]) (n := 5) (Nat.le_of_ble_eq_true rfl)
  rw [lg_entry_eq]
  generalize (lg_sl ([Value.ref b, Value.int (nI j), Value.int (nI j), Value.ref o]) ++ List.replicate (5 - (lg_sl ([Value.ref b, Value.int (nI j), Value.int (nI j), Value.ref o])).length) Slot.unset).toArray = ls at hl ⊢
  have hl : lv_has ls 5 [(0, .ref b), (1, .int (nI j)), (2, .int (nI j)), (3, .ref o)] := hl
  have hPB : va_P D vwCl (BW cI cJ cG b P ad st) s.heap := wd_P.part hPO (fun _ h => List.mem_append_right _ h)
  have hD0 : va_D (fun _ => True) (BW cI cJ cG b P ad st) := wd_D.left (wd_D.perm hDO List.perm_append_comm)
  have hD := hDO.self (sz := s.heap.size)
  generalize hAe : va_A (OW cI cJ cG o b P ad st f) s.heap.size = A at hD ⊢
  have hA : ∀ q : Nat, s.heap.size ≤ q → A q := fun q h => by rw [← hAe]; exact Or.inr h
  have hS : va_S A s.heap s.heap [] := va_S.rf
  have hP := hPO
  refine lv_aload_n hx hb dL_hand_0 rfl (lv_at hl 3 rfl) ?_
  refine lv_iconst (v := 0) hx hb dL_hand_1 (by decide) ?_
  refine lv_aload_n hx hb dL_hand_2 rfl (lv_at hl 0 rfl) ?_
  refine lv_iload_n hx hb dL_hand_3 rfl (lv_at hl 1 rfl) ?_
  refine lv_iload_n hx hb dL_hand_4 rfl (lv_at hl 2 rfl) ?_
  refine ct_V (As := [.int (nI j), .int (nI j)]) (rest := [.int (0 : Int32), .ref o]) ⟨hx, hb, hml, hown, hts⟩ (t_X1_hand_A l hst z s.heap hz D cI cJ cZ cG b P ad st j x hj hst1 hPB) (KZ_puK D cI cJ cZ cG z s.heap) hKX.1 (cwV 2 hts gL_hand_X1_hand rfl rfl rfl (by decide +kernel) ⟨Nat.le_of_ble_eq_true rfl, Nat.le_of_ble_eq_true rfl⟩) (va_recv hK hPB (ci := 1) (q0 := 0) rfl rfl) rfl hl.1 rfl (Nat.le_of_ble_eq_true rfl) dL_hand_5 ⟨Nat.le_of_ble_eq_true rfl, Nat.le_of_ble_eq_true rfl⟩ (name := xA) [⟨0, 9, 12, 13⟩] ⟨0, 9, 16, 15⟩ [] htab (List.forall_mem_cons.mpr ⟨Or.inr ⟨by decide, xN, hts (.classLink RL 13 xN) (by decide +kernel), hKX.2.1⟩, fun _ h => nomatch h⟩) (by decide) (by decide) (hts (.classLink RL 15 xA) (by decide +kernel)) (hKW.n 20 rfl rfl) (fun H1 q9 hz1 hk1 => ?_)
  have hP1 : va_P D vwCl (OW cI cJ cG o b P ad st f) H1 := hPO.kept (fun k9 x9 hx9 => hk1 x9.1 ((hPO k9 x9 hx9).lt))
  refine W.eq (g2 := F0 m 16 ls [.ref q9]) rfl ?_
  refine lv_astore (lv' := [(4, .ref q9), (0, .ref b), (1, .int (nI j)), (2, .int (nI j)), (3, .ref o)]) hx hb dL_hand_16 hl (by decide) rfl (fun ls hl => ?_)
  refine lv_iconst (v := 2) hx hb dL_hand_18 (by decide) ?_
  exact W.iret (v := (2 : Int32)) hx hb hr (fun t ht hW => ⟨rfl, _, ⟨ad, f, rfl, fun h => absurd (show (2 : Int32) = 0 from h) (by decide)⟩, by rw [ht]; exact hP1, hD, by rw [ht]; exact hz1, fun q h1 _ => by rw [ht]; exact hk1 q h1⟩) (fun _ h => nomatch h) dL_hand_19
set_option maxHeartbeats 4000000 in
set_option maxRecDepth 100000 in
theorem l_hand_B (l : Launch) (hst : l.stackTraces = false) (z : Nat) (H0 : Heap) (hz : z ≤ H0.size) (D : va_G) (cI cJ cZ cG : ClassId) (b P : Nat) (ad : Nat → ga) (st : Nat → Option GS) (o : Nat) (f : Nat → Int64) (j : Nat) (x : GS) (j2 : Nat) (y : GS) (hj : j < 12) (hst1 : st j = some x) (hj2 : j2 < 12) (hst2 : st j2 = some y) (hs : ¬ (nI j2) = (nI j)) (hcan : (f_X1_canHandOn (gK y) (gK x)) = 0) (hPO : va_P D vwCl (OW cI cJ cG o b P ad st f) H0) (hDO : va_D (fun _ => True) (OW cI cJ cG o b P ad st f)) : LC l yL_hand wsL_hand [Value.ref b, Value.int (nI j2), Value.int (nI j), Value.ref o] D cI cJ cZ cG z o b P ad st f H0 (2, st, 0) := by
  unfold LC
  refine va_MetW (y := yL_hand) (ws := wsL_hand) (cc := cL_hand) (maxL := 5) (ret := (some .int)) (by decide) rfl ?_
  intro p e s m args below meth c s₁ B hml hv
  obtain ⟨rfl, hH, hKX⟩ := hv
  have hx := B.exec
  have hb := B.bytes
  have hr := B.returns
  have hts := atoms_spec (ws := wsL_hand) B.pre
  have hown : s.vm.findClass RL = some m.cls := findClass_of_methodNamed B.named
  have hlocks := B.notSynchronized
  subst hH
  have hKW := hKX.1.1
  have hK := hKW.1
  have htab : c.exceptionTable.toList = [⟨0, 9, 12, 13⟩, ⟨0, 9, 16, 15⟩] := by rw [vx_table (x := yL_hand) B (hts _ List.mem_cons_self)]; rfl
  have hl := lv_entry ([Value.ref b, Value.int (nI j2), Value.int (nI j), Value.ref o]) (n := 5) (Nat.le_of_ble_eq_true rfl)
  rw [lg_entry_eq]
  generalize (lg_sl ([Value.ref b, Value.int (nI j2), Value.int (nI j), Value.ref o]) ++ List.replicate (5 - (lg_sl ([Value.ref b, Value.int (nI j2), Value.int (nI j), Value.ref o])).length) Slot.unset).toArray = ls at hl ⊢
  have hl : lv_has ls 5 [(0, .ref b), (1, .int (nI j2)), (2, .int (nI j)), (3, .ref o)] := hl
  have hPB : va_P D vwCl (BW cI cJ cG b P ad st) s.heap := wd_P.part hPO (fun _ h => List.mem_append_right _ h)
  have hD0 : va_D (fun _ => True) (BW cI cJ cG b P ad st) := wd_D.left (wd_D.perm hDO List.perm_append_comm)
  have hD := hDO.self (sz := s.heap.size)
  generalize hAe : va_A (OW cI cJ cG o b P ad st f) s.heap.size = A at hD ⊢
  have hA : ∀ q : Nat, s.heap.size ≤ q → A q := fun q h => by rw [← hAe]; exact Or.inr h
  have hS : va_S A s.heap s.heap [] := va_S.rf
  have hP := hPO
  refine lv_aload_n hx hb dL_hand_0 rfl (lv_at hl 3 rfl) ?_
  refine lv_iconst (v := 0) hx hb dL_hand_1 (by decide) ?_
  refine lv_aload_n hx hb dL_hand_2 rfl (lv_at hl 0 rfl) ?_
  refine lv_iload_n hx hb dL_hand_3 rfl (lv_at hl 1 rfl) ?_
  refine lv_iload_n hx hb dL_hand_4 rfl (lv_at hl 2 rfl) ?_
  refine ct_V (As := [.int (nI j2), .int (nI j)]) (rest := [.int (0 : Int32), .ref o]) ⟨hx, hb, hml, hown, hts⟩ (t_X1_hand_B l hst z s.heap hz D cI cJ cZ cG b P ad st j x j2 y hj hst1 hj2 hst2 hs hcan hPB) (KZ_puK D cI cJ cZ cG z s.heap) hKX.1 (cwV 2 hts gL_hand_X1_hand rfl rfl rfl (by decide +kernel) ⟨Nat.le_of_ble_eq_true rfl, Nat.le_of_ble_eq_true rfl⟩) (va_recv hK hPB (ci := 1) (q0 := 0) rfl rfl) rfl hl.1 rfl (Nat.le_of_ble_eq_true rfl) dL_hand_5 ⟨Nat.le_of_ble_eq_true rfl, Nat.le_of_ble_eq_true rfl⟩ (name := xA) [⟨0, 9, 12, 13⟩] ⟨0, 9, 16, 15⟩ [] htab (List.forall_mem_cons.mpr ⟨Or.inr ⟨by decide, xN, hts (.classLink RL 13 xN) (by decide +kernel), hKX.2.1⟩, fun _ h => nomatch h⟩) (by decide) (by decide) (hts (.classLink RL 15 xA) (by decide +kernel)) (hKW.n 20 rfl rfl) (fun H1 q9 hz1 hk1 => ?_)
  have hP1 : va_P D vwCl (OW cI cJ cG o b P ad st f) H1 := hPO.kept (fun k9 x9 hx9 => hk1 x9.1 ((hPO k9 x9 hx9).lt))
  refine W.eq (g2 := F0 m 16 ls [.ref q9]) rfl ?_
  refine lv_astore (lv' := [(4, .ref q9), (0, .ref b), (1, .int (nI j2)), (2, .int (nI j)), (3, .ref o)]) hx hb dL_hand_16 hl (by decide) rfl (fun ls hl => ?_)
  refine lv_iconst (v := 2) hx hb dL_hand_18 (by decide) ?_
  exact W.iret (v := (2 : Int32)) hx hb hr (fun t ht hW => ⟨rfl, _, ⟨ad, f, rfl, fun h => absurd (show (2 : Int32) = 0 from h) (by decide)⟩, by rw [ht]; exact hP1, hD, by rw [ht]; exact hz1, fun q h1 _ => by rw [ht]; exact hk1 q h1⟩) (fun _ h => nomatch h) dL_hand_19
set_option maxHeartbeats 4000000 in
set_option maxRecDepth 100000 in
theorem l_hand_O (l : Launch) (hst : l.stackTraces = false) (z : Nat) (H0 : Heap) (hz : z ≤ H0.size) (D : va_G) (cI cJ cZ cG : ClassId) (b P : Nat) (ad : Nat → ga) (st : Nat → Option GS) (o : Nat) (f : Nat → Int64) (j : Nat) (x : GS) (j2 : Nat) (y : GS) (hI : BI st) (hj : j < 12) (hst1 : st j = some x) (hj2 : j2 < 12) (hst2 : st j2 = some y) (hs : ¬ (nI j2) = (nI j)) (hcan : ¬ (f_X1_canHandOn (gK y) (gK x)) = 0) (hPO : va_P D vwCl (OW cI cJ cG o b P ad st f) H0) (hDO : va_D (fun _ => True) (OW cI cJ cG o b P ad st f)) : LC l yL_hand wsL_hand [Value.ref b, Value.int (nI j2), Value.int (nI j), Value.ref o] D cI cJ cZ cG z o b P ad st f H0 (0, va_up st j (some (F_X1_takeReading st x (f_X1_handedOn (gV y) (gK y) (gK x))).2), (F_X1_takeReading st x (f_X1_handedOn (gV y) (gK y) (gK x))).1) := by
  unfold LC
  refine va_MetW (y := yL_hand) (ws := wsL_hand) (cc := cL_hand) (maxL := 5) (ret := (some .int)) (by decide) rfl ?_
  intro p e s m args below meth c s₁ B hml hv
  obtain ⟨rfl, hH, hKX⟩ := hv
  have hx := B.exec
  have hb := B.bytes
  have hr := B.returns
  have hts := atoms_spec (ws := wsL_hand) B.pre
  have hown : s.vm.findClass RL = some m.cls := findClass_of_methodNamed B.named
  have hlocks := B.notSynchronized
  subst hH
  have hKW := hKX.1.1
  have hK := hKW.1
  have htab : c.exceptionTable.toList = [⟨0, 9, 12, 13⟩, ⟨0, 9, 16, 15⟩] := by rw [vx_table (x := yL_hand) B (hts _ List.mem_cons_self)]; rfl
  have hl := lv_entry ([Value.ref b, Value.int (nI j2), Value.int (nI j), Value.ref o]) (n := 5) (Nat.le_of_ble_eq_true rfl)
  rw [lg_entry_eq]
  generalize (lg_sl ([Value.ref b, Value.int (nI j2), Value.int (nI j), Value.ref o]) ++ List.replicate (5 - (lg_sl ([Value.ref b, Value.int (nI j2), Value.int (nI j), Value.ref o])).length) Slot.unset).toArray = ls at hl ⊢
  have hl : lv_has ls 5 [(0, .ref b), (1, .int (nI j2)), (2, .int (nI j)), (3, .ref o)] := hl
  have hPB : va_P D vwCl (BW cI cJ cG b P ad st) s.heap := wd_P.part hPO (fun _ h => List.mem_append_right _ h)
  have hD0 : va_D (fun _ => True) (BW cI cJ cG b P ad st) := wd_D.left (wd_D.perm hDO List.perm_append_comm)
  have hD := hDO.self (sz := s.heap.size)
  generalize hAe : va_A (OW cI cJ cG o b P ad st f) s.heap.size = A at hD ⊢
  have hA : ∀ q : Nat, s.heap.size ≤ q → A q := fun q h => by rw [← hAe]; exact Or.inr h
  have hS : va_S A s.heap s.heap [] := va_S.rf
  have hP := hPO
  refine lv_aload_n hx hb dL_hand_0 rfl (lv_at hl 3 rfl) ?_
  refine lv_iconst (v := 0) hx hb dL_hand_1 (by decide) ?_
  refine lv_aload_n hx hb dL_hand_2 rfl (lv_at hl 0 rfl) ?_
  refine lv_iload_n hx hb dL_hand_3 rfl (lv_at hl 1 rfl) ?_
  refine lv_iload_n hx hb dL_hand_4 rfl (lv_at hl 2 rfl) ?_
  refine wr_V (As := [.int (nI j2), .int (nI j)]) (rest := [.int (0 : Int32), .ref o]) (Rw := [(o, .inl (cJ, 1, .inr (.inl f)))]) ⟨hx, hb, hml, hown, hts⟩ (c_X1_hand l s.heap D cI cJ cZ cG b P ad st j x j2 y hj hst1 hj2 hst2 (hI j hj x hst1).1 hs hcan hPB hD0) (KW_puK D cI cJ cZ cG) hKW (cwV 2 hts gL_hand_X1_hand rfl rfl rfl (by decide +kernel) ⟨Nat.le_of_ble_eq_true rfl, Nat.le_of_ble_eq_true rfl⟩) (va_recv hK hPB (ci := 1) (q0 := 0) rfl rfl) rfl hl.1 rfl (Nat.le_of_ble_eq_true rfl) dL_hand_5 ⟨Nat.le_of_ble_eq_true rfl, Nat.le_of_ble_eq_true rfl⟩ (wd_P.perm hPO List.perm_append_comm) (wd_D.perm hD List.perm_append_comm) hS hA (fun w1 H locs hw hP hD hS => ?_)
  subst hw
  have hP := wd_P.perm hP List.perm_append_comm
  have hD := wd_D.perm hD List.perm_append_comm
  refine W.eq (g2 := F0 m 8 ls [.long ((F_X1_takeReading st x (f_X1_handedOn (gV y) (gK y) (gK x))).1), .int (0 : Int32), .ref o]) rfl ?_
  refine va_last (x := (F_X1_takeReading st x (f_X1_handedOn (gV y) (gK y) (gK x))).1) hx hb hK hP hD hS 0 1 rfl rfl (show vp_in (nI 0) 1 from vp_in_nI (by decide) (by decide)) dL_hand_8 (fun H locs hP hD hS => ?_)
  have hP : va_P D vwCl ([(o, .inl (cJ, 1, .inr (.inl (vp_updL f (0 : Int32).toNatClampNeg ((F_X1_takeReading st x (f_X1_handedOn (gV y) (gK y) (gK x))).1)))))] ++ BW cI cJ cG b P ad (va_up st j (some (F_X1_takeReading st x (f_X1_handedOn (gV y) (gK y) (gK x))).2))) H := hP
  have hD : va_D A ([(o, .inl (cJ, 1, .inr (.inl (vp_updL f (0 : Int32).toNatClampNeg ((F_X1_takeReading st x (f_X1_handedOn (gV y) (gK y) (gK x))).1)))))] ++ BW cI cJ cG b P ad (va_up st j (some (F_X1_takeReading st x (f_X1_handedOn (gV y) (gK y) (gK x))).2))) := hD
  refine lv_goto (tgt := 20) hx hb dL_hand_9 (by decide) ?_
  refine lv_iconst (v := 0) hx hb dL_hand_20 (by decide) ?_
  refine W.widen (k := 4) (n := 35) (Nat.le_of_ble_eq_true rfl) (Nat.le_of_ble_eq_true rfl) ?_
  exact W.iret (v := (0 : Int32)) hx hb hr (fun t ht hW => ⟨rfl, _, ⟨ad, _, rfl, fun _ => updL0 f _⟩, by rw [ht]; exact hP, hD, (hS.F ht).1, (hS.F ht).2⟩) hS.2.2 dL_hand_21
