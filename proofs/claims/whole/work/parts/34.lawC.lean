set_option maxHeartbeats 4000000 in
set_option maxRecDepth 100000 in
theorem l_value_N (l : Launch) (hst : l.stackTraces = false) (z : Nat) (H0 : Heap) (hz : z ≤ H0.size) (D : va_G) (cI cJ cZ cG : ClassId) (b P : Nat) (ad : Nat → ga) (st : Nat → Option GS) (o : Nat) (f : Nat → Int64) (b0 : Int32) (hn : gat st b0 = none) (hPO : va_P D vwCl (OW cI cJ cG o b P ad st f) H0) (hDO : va_D (fun _ => True) (OW cI cJ cG o b P ad st f)) : LC l yL_value wsL_value [Value.ref b, Value.int b0, Value.ref o] D cI cJ cZ cG z o b P ad st f H0 (1, st, 0) := by
  unfold LC
  refine va_MetW (y := yL_value) (ws := wsL_value) (cc := cL_value) (maxL := 4) (ret := (some .int)) (by decide) rfl ?_
  intro p e s m args below meth c s₁ B hml hv
  obtain ⟨rfl, hH, hKX⟩ := hv
  have hx := B.exec
  have hb := B.bytes
  have hr := B.returns
  have hts := atoms_spec (ws := wsL_value) B.pre
  have hown : s.vm.findClass RL = some m.cls := findClass_of_methodNamed B.named
  have hlocks := B.notSynchronized
  subst hH
  have hKW := hKX.1.1
  have hK := hKW.1
  have htab : c.exceptionTable.toList = [⟨0, 8, 11, 13⟩] := by rw [vx_table (x := yL_value) B (hts _ List.mem_cons_self)]; rfl
  have hl := lv_entry ([Value.ref b, Value.int b0, Value.ref o]) (n := 4) (Nat.le_of_ble_eq_true rfl)
  rw [lg_entry_eq]
  generalize (lg_sl ([Value.ref b, Value.int b0, Value.ref o]) ++ List.replicate (4 - (lg_sl ([Value.ref b, Value.int b0, Value.ref o])).length) Slot.unset).toArray = ls at hl ⊢
  have hl : lv_has ls 4 [(0, .ref b), (1, .int b0), (2, .ref o)] := hl
  have hPB : va_P D vwCl (BW cI cJ cG b P ad st) s.heap := wd_P.part hPO (fun _ h => List.mem_append_right _ h)
  have hD0 : va_D (fun _ => True) (BW cI cJ cG b P ad st) := wd_D.left (wd_D.perm hDO List.perm_append_comm)
  have hD := hDO.self (sz := s.heap.size)
  generalize hAe : va_A (OW cI cJ cG o b P ad st f) s.heap.size = A at hD ⊢
  have hA : ∀ q : Nat, s.heap.size ≤ q → A q := fun q h => by rw [← hAe]; exact Or.inr h
  have hS : va_S A s.heap s.heap [] := va_S.rf
  have hP := hPO
  refine lv_aload_n hx hb dL_value_0 rfl (lv_at hl 2 rfl) ?_
  refine lv_iconst (v := 0) hx hb dL_value_1 (by decide) ?_
  refine lv_aload_n hx hb dL_value_2 rfl (lv_at hl 0 rfl) ?_
  refine lv_iload_n hx hb dL_value_3 rfl (lv_at hl 1 rfl) ?_
  refine ct_V (As := [.int b0]) (rest := [.int (0 : Int32), .ref o]) ⟨hx, hb, hml, hown, hts⟩ (t_X1_value_N l hst z s.heap hz D cI cJ cZ cG b P ad st b0  hn hPB) (KZ_puK D cI cJ cZ cG z s.heap) hKX.1 (cwV 1 hts gL_value_X1_value rfl rfl rfl (by decide +kernel) ⟨Nat.le_of_ble_eq_true rfl, Nat.le_of_ble_eq_true rfl⟩) (va_recv hK hPB (ci := 1) (q0 := 0) rfl rfl) rfl hl.1 rfl (Nat.le_of_ble_eq_true rfl) dL_value_4 ⟨Nat.le_of_ble_eq_true rfl, Nat.le_of_ble_eq_true rfl⟩ (name := xN) [] ⟨0, 8, 11, 13⟩ [] htab (fun _ h => nomatch h) (by decide) (by decide) (hts (.classLink RL 13 xN) (by decide +kernel)) (hKW.n 19 rfl rfl) (fun H1 q9 hz1 hk1 => ?_)
  have hP1 : va_P D vwCl (OW cI cJ cG o b P ad st f) H1 := hPO.kept (fun k9 x9 hx9 => hk1 x9.1 ((hPO k9 x9 hx9).lt))
  refine W.eq (g2 := F0 m 11 ls [.ref q9]) rfl ?_
  refine lv_astore_n (lv' := [(3, .ref q9), (0, .ref b), (1, .int b0), (2, .ref o)]) hx hb dL_value_11 rfl hl (by decide) rfl (fun ls hl => ?_)
  refine lv_iconst (v := 1) hx hb dL_value_12 (by decide) ?_
  exact W.iret (v := (1 : Int32)) hx hb hr (fun t ht hW => ⟨rfl, _, ⟨ad, f, rfl, fun h => absurd (show (1 : Int32) = 0 from h) (by decide)⟩, by rw [ht]; exact hP1, hD, by rw [ht]; exact hz1, fun q h1 _ => by rw [ht]; exact hk1 q h1⟩) (fun _ h => nomatch h) dL_value_13
set_option maxHeartbeats 4000000 in
set_option maxRecDepth 100000 in
theorem l_value_O (l : Launch) (hst : l.stackTraces = false) (z : Nat) (H0 : Heap) (hz : z ≤ H0.size) (D : va_G) (cI cJ cZ cG : ClassId) (b P : Nat) (ad : Nat → ga) (st : Nat → Option GS) (o : Nat) (f : Nat → Int64) (j : Nat) (x : GS) (hj : j < 12) (hst1 : st j = some x) (hPO : va_P D vwCl (OW cI cJ cG o b P ad st f) H0) (hDO : va_D (fun _ => True) (OW cI cJ cG o b P ad st f)) : LC l yL_value wsL_value [Value.ref b, Value.int (nI j), Value.ref o] D cI cJ cZ cG z o b P ad st f H0 (0, st, gV x) := by
  unfold LC
  refine va_MetW (y := yL_value) (ws := wsL_value) (cc := cL_value) (maxL := 4) (ret := (some .int)) (by decide) rfl ?_
  intro p e s m args below meth c s₁ B hml hv
  obtain ⟨rfl, hH, hKX⟩ := hv
  have hx := B.exec
  have hb := B.bytes
  have hr := B.returns
  have hts := atoms_spec (ws := wsL_value) B.pre
  have hown : s.vm.findClass RL = some m.cls := findClass_of_methodNamed B.named
  have hlocks := B.notSynchronized
  subst hH
  have hKW := hKX.1.1
  have hK := hKW.1
  have htab : c.exceptionTable.toList = [⟨0, 8, 11, 13⟩] := by rw [vx_table (x := yL_value) B (hts _ List.mem_cons_self)]; rfl
  have hl := lv_entry ([Value.ref b, Value.int (nI j), Value.ref o]) (n := 4) (Nat.le_of_ble_eq_true rfl)
  rw [lg_entry_eq]
  generalize (lg_sl ([Value.ref b, Value.int (nI j), Value.ref o]) ++ List.replicate (4 - (lg_sl ([Value.ref b, Value.int (nI j), Value.ref o])).length) Slot.unset).toArray = ls at hl ⊢
  have hl : lv_has ls 4 [(0, .ref b), (1, .int (nI j)), (2, .ref o)] := hl
  have hPB : va_P D vwCl (BW cI cJ cG b P ad st) s.heap := wd_P.part hPO (fun _ h => List.mem_append_right _ h)
  have hD0 : va_D (fun _ => True) (BW cI cJ cG b P ad st) := wd_D.left (wd_D.perm hDO List.perm_append_comm)
  have hD := hDO.self (sz := s.heap.size)
  generalize hAe : va_A (OW cI cJ cG o b P ad st f) s.heap.size = A at hD ⊢
  have hA : ∀ q : Nat, s.heap.size ≤ q → A q := fun q h => by rw [← hAe]; exact Or.inr h
  have hS : va_S A s.heap s.heap [] := va_S.rf
  have hP := hPO
  refine lv_aload_n hx hb dL_value_0 rfl (lv_at hl 2 rfl) ?_
  refine lv_iconst (v := 0) hx hb dL_value_1 (by decide) ?_
  refine lv_aload_n hx hb dL_value_2 rfl (lv_at hl 0 rfl) ?_
  refine lv_iload_n hx hb dL_value_3 rfl (lv_at hl 1 rfl) ?_
  refine pu_V (As := [.int (nI j)]) (rest := [.int (0 : Int32), .ref o]) ⟨hx, hb, hml, hown, hts⟩ (c_X1_value l s.heap D cI cJ cZ cG b P ad st j x hj hst1 hPB) (KW_puK D cI cJ cZ cG) hKW (cwV 1 hts gL_value_X1_value rfl rfl rfl (by decide +kernel) ⟨Nat.le_of_ble_eq_true rfl, Nat.le_of_ble_eq_true rfl⟩) (va_recv hK hPB (ci := 1) (q0 := 0) rfl rfl) rfl hl.1 rfl (Nat.le_of_ble_eq_true rfl) dL_value_4 ⟨Nat.zero_le _, Nat.zero_le _⟩ ?_
  refine W.eq (g2 := F0 m 7 ls [.long (gV x), .int (0 : Int32), .ref o]) rfl ?_
  refine va_last (x := gV x) hx hb hK hP hD hS 0 1 rfl rfl (show vp_in (nI 0) 1 from vp_in_nI (by decide) (by decide)) dL_value_7 (fun H locs hP hD hS => ?_)
  have hP : va_P D vwCl ([(o, .inl (cJ, 1, .inr (.inl (vp_updL f (0 : Int32).toNatClampNeg (gV x)))))] ++ BW cI cJ cG b P ad st) H := hP
  have hD : va_D A ([(o, .inl (cJ, 1, .inr (.inl (vp_updL f (0 : Int32).toNatClampNeg (gV x)))))] ++ BW cI cJ cG b P ad st) := hD
  refine lv_goto (tgt := 14) hx hb dL_value_8 (by decide) ?_
  refine lv_iconst (v := 0) hx hb dL_value_14 (by decide) ?_
  refine W.widen (k := 4) (n := 35) (Nat.le_of_ble_eq_true rfl) (Nat.le_of_ble_eq_true rfl) ?_
  exact W.iret (v := (0 : Int32)) hx hb hr (fun t ht hW => ⟨rfl, _, ⟨ad, _, rfl, fun _ => updL0 f _⟩, by rw [ht]; exact hP, hD, (hS.F ht).1, (hS.F ht).2⟩) hS.2.2 dL_value_15
set_option maxHeartbeats 4000000 in
set_option maxRecDepth 100000 in
theorem l_mark_N (l : Launch) (hst : l.stackTraces = false) (z : Nat) (H0 : Heap) (hz : z ≤ H0.size) (D : va_G) (cI cJ cZ cG : ClassId) (b P : Nat) (ad : Nat → ga) (st : Nat → Option GS) (o : Nat) (f : Nat → Int64) (b0 : Int32) (b1 : Int32) (hn : gat st b0 = none) (hPO : va_P D vwCl (OW cI cJ cG o b P ad st f) H0) (hDO : va_D (fun _ => True) (OW cI cJ cG o b P ad st f)) : LC l yL_mark wsL_mark [Value.ref b, Value.int b0, Value.int b1, Value.ref o] D cI cJ cZ cG z o b P ad st f H0 (1, st, 0) := by
  unfold LC
  refine va_MetW (y := yL_mark) (ws := wsL_mark) (cc := cL_mark) (maxL := 5) (ret := (some .int)) (by decide) rfl ?_
  intro p e s m args below meth c s₁ B hml hv
  obtain ⟨rfl, hH, hKX⟩ := hv
  have hx := B.exec
  have hb := B.bytes
  have hr := B.returns
  have hts := atoms_spec (ws := wsL_mark) B.pre
  have hown : s.vm.findClass RL = some m.cls := findClass_of_methodNamed B.named
  have hlocks := B.notSynchronized
  subst hH
  have hKW := hKX.1.1
  have hK := hKW.1
  have htab : c.exceptionTable.toList = [⟨0, 9, 12, 13⟩, ⟨0, 9, 16, 17⟩] := by rw [vx_table (x := yL_mark) B (hts _ List.mem_cons_self)]; rfl
  have hl := lv_entry ([Value.ref b, Value.int b0, Value.int b1, Value.ref o]) (n := 5) (Nat.le_of_ble_eq_true rfl)
  rw [lg_entry_eq]
  generalize (lg_sl ([Value.ref b, Value.int b0, Value.int b1, Value.ref o]) ++ List.replicate (5 - (lg_sl ([Value.ref b, Value.int b0, Value.int b1, Value.ref o])).length) Slot.unset).toArray = ls at hl ⊢
  have hl : lv_has ls 5 [(0, .ref b), (1, .int b0), (2, .int b1), (3, .ref o)] := hl
  have hPB : va_P D vwCl (BW cI cJ cG b P ad st) s.heap := wd_P.part hPO (fun _ h => List.mem_append_right _ h)
  have hD0 : va_D (fun _ => True) (BW cI cJ cG b P ad st) := wd_D.left (wd_D.perm hDO List.perm_append_comm)
  have hD := hDO.self (sz := s.heap.size)
  generalize hAe : va_A (OW cI cJ cG o b P ad st f) s.heap.size = A at hD ⊢
  have hA : ∀ q : Nat, s.heap.size ≤ q → A q := fun q h => by rw [← hAe]; exact Or.inr h
  have hS : va_S A s.heap s.heap [] := va_S.rf
  have hP := hPO
  refine lv_aload_n hx hb dL_mark_0 rfl (lv_at hl 3 rfl) ?_
  refine lv_iconst (v := 0) hx hb dL_mark_1 (by decide) ?_
  refine lv_aload_n hx hb dL_mark_2 rfl (lv_at hl 0 rfl) ?_
  refine lv_iload_n hx hb dL_mark_3 rfl (lv_at hl 1 rfl) ?_
  refine lv_iload_n hx hb dL_mark_4 rfl (lv_at hl 2 rfl) ?_
  refine ct_V (As := [.int b0, .int b1]) (rest := [.int (0 : Int32), .ref o]) ⟨hx, hb, hml, hown, hts⟩ (t_X1_mark_N l hst z s.heap hz D cI cJ cZ cG b P ad st b0 b1 hn hPB) (KZ_puK D cI cJ cZ cG z s.heap) hKX.1 (cwV 2 hts gL_mark_X1_mark rfl rfl rfl (by decide +kernel) ⟨Nat.le_of_ble_eq_true rfl, Nat.le_of_ble_eq_true rfl⟩) (va_recv hK hPB (ci := 1) (q0 := 0) rfl rfl) rfl hl.1 rfl (Nat.le_of_ble_eq_true rfl) dL_mark_5 ⟨Nat.le_of_ble_eq_true rfl, Nat.le_of_ble_eq_true rfl⟩ (name := xN) [] ⟨0, 9, 12, 13⟩ [⟨0, 9, 16, 17⟩] htab (fun _ h => nomatch h) (by decide) (by decide) (hts (.classLink RL 13 xN) (by decide +kernel)) (hKW.n 19 rfl rfl) (fun H1 q9 hz1 hk1 => ?_)
  have hP1 : va_P D vwCl (OW cI cJ cG o b P ad st f) H1 := hPO.kept (fun k9 x9 hx9 => hk1 x9.1 ((hPO k9 x9 hx9).lt))
  refine W.eq (g2 := F0 m 12 ls [.ref q9]) rfl ?_
  refine lv_astore (lv' := [(4, .ref q9), (0, .ref b), (1, .int b0), (2, .int b1), (3, .ref o)]) hx hb dL_mark_12 hl (by decide) rfl (fun ls hl => ?_)
  refine lv_iconst (v := 1) hx hb dL_mark_14 (by decide) ?_
  exact W.iret (v := (1 : Int32)) hx hb hr (fun t ht hW => ⟨rfl, _, ⟨ad, f, rfl, fun h => absurd (show (1 : Int32) = 0 from h) (by decide)⟩, by rw [ht]; exact hP1, hD, by rw [ht]; exact hz1, fun q h1 _ => by rw [ht]; exact hk1 q h1⟩) (fun _ h => nomatch h) dL_mark_15
set_option maxHeartbeats 4000000 in
set_option maxRecDepth 100000 in
theorem l_mark_S (l : Launch) (hst : l.stackTraces = false) (z : Nat) (H0 : Heap) (hz : z ≤ H0.size) (D : va_G) (cI cJ cZ cG : ClassId) (b P : Nat) (ad : Nat → ga) (st : Nat → Option GS) (o : Nat) (f : Nat → Int64) (j : Nat) (x : GS) (b1 : Int32) (hj : j < 12) (hst1 : st j = some x) (hm : gM x = 0) (hPO : va_P D vwCl (OW cI cJ cG o b P ad st f) H0) (hDO : va_D (fun _ => True) (OW cI cJ cG o b P ad st f)) : LC l yL_mark wsL_mark [Value.ref b, Value.int (nI j), Value.int b1, Value.ref o] D cI cJ cZ cG z o b P ad st f H0 (2, st, 0) := by
  unfold LC
  refine va_MetW (y := yL_mark) (ws := wsL_mark) (cc := cL_mark) (maxL := 5) (ret := (some .int)) (by decide) rfl ?_
  intro p e s m args below meth c s₁ B hml hv
  obtain ⟨rfl, hH, hKX⟩ := hv
  have hx := B.exec
  have hb := B.bytes
  have hr := B.returns
  have hts := atoms_spec (ws := wsL_mark) B.pre
  have hown : s.vm.findClass RL = some m.cls := findClass_of_methodNamed B.named
  have hlocks := B.notSynchronized
  subst hH
  have hKW := hKX.1.1
  have hK := hKW.1
  have htab : c.exceptionTable.toList = [⟨0, 9, 12, 13⟩, ⟨0, 9, 16, 17⟩] := by rw [vx_table (x := yL_mark) B (hts _ List.mem_cons_self)]; rfl
  have hl := lv_entry ([Value.ref b, Value.int (nI j), Value.int b1, Value.ref o]) (n := 5) (Nat.le_of_ble_eq_true rfl)
  rw [lg_entry_eq]
  generalize (lg_sl ([Value.ref b, Value.int (nI j), Value.int b1, Value.ref o]) ++ List.replicate (5 - (lg_sl ([Value.ref b, Value.int (nI j), Value.int b1, Value.ref o])).length) Slot.unset).toArray = ls at hl ⊢
  have hl : lv_has ls 5 [(0, .ref b), (1, .int (nI j)), (2, .int b1), (3, .ref o)] := hl
  have hPB : va_P D vwCl (BW cI cJ cG b P ad st) s.heap := wd_P.part hPO (fun _ h => List.mem_append_right _ h)
  have hD0 : va_D (fun _ => True) (BW cI cJ cG b P ad st) := wd_D.left (wd_D.perm hDO List.perm_append_comm)
  have hD := hDO.self (sz := s.heap.size)
  generalize hAe : va_A (OW cI cJ cG o b P ad st f) s.heap.size = A at hD ⊢
  have hA : ∀ q : Nat, s.heap.size ≤ q → A q := fun q h => by rw [← hAe]; exact Or.inr h
  have hS : va_S A s.heap s.heap [] := va_S.rf
  have hP := hPO
  refine lv_aload_n hx hb dL_mark_0 rfl (lv_at hl 3 rfl) ?_
  refine lv_iconst (v := 0) hx hb dL_mark_1 (by decide) ?_
  refine lv_aload_n hx hb dL_mark_2 rfl (lv_at hl 0 rfl) ?_
  refine lv_iload_n hx hb dL_mark_3 rfl (lv_at hl 1 rfl) ?_
  refine lv_iload_n hx hb dL_mark_4 rfl (lv_at hl 2 rfl) ?_
  refine ct_V (As := [.int (nI j), .int b1]) (rest := [.int (0 : Int32), .ref o]) ⟨hx, hb, hml, hown, hts⟩ (t_X1_mark_S l hst z s.heap hz D cI cJ cZ cG b P ad st j x b1 hj hst1 hm hPB) (KZ_puK D cI cJ cZ cG z s.heap) hKX.1 (cwV 2 hts gL_mark_X1_mark rfl rfl rfl (by decide +kernel) ⟨Nat.le_of_ble_eq_true rfl, Nat.le_of_ble_eq_true rfl⟩) (va_recv hK hPB (ci := 1) (q0 := 0) rfl rfl) rfl hl.1 rfl (Nat.le_of_ble_eq_true rfl) dL_mark_5 ⟨Nat.le_of_ble_eq_true rfl, Nat.le_of_ble_eq_true rfl⟩ (name := xS) [⟨0, 9, 12, 13⟩] ⟨0, 9, 16, 17⟩ [] htab (List.forall_mem_cons.mpr ⟨Or.inr ⟨by decide, xN, hts (.classLink RL 13 xN) (by decide +kernel), hKX.2.2.1⟩, fun _ h => nomatch h⟩) (by decide) (by decide) (hts (.classLink RL 17 xS) (by decide +kernel)) (hKW.n 21 rfl rfl) (fun H1 q9 hz1 hk1 => ?_)
  have hP1 : va_P D vwCl (OW cI cJ cG o b P ad st f) H1 := hPO.kept (fun k9 x9 hx9 => hk1 x9.1 ((hPO k9 x9 hx9).lt))
  refine W.eq (g2 := F0 m 16 ls [.ref q9]) rfl ?_
  refine lv_astore (lv' := [(4, .ref q9), (0, .ref b), (1, .int (nI j)), (2, .int b1), (3, .ref o)]) hx hb dL_mark_16 hl (by decide) rfl (fun ls hl => ?_)
  refine lv_iconst (v := 2) hx hb dL_mark_18 (by decide) ?_
  exact W.iret (v := (2 : Int32)) hx hb hr (fun t ht hW => ⟨rfl, _, ⟨ad, f, rfl, fun h => absurd (show (2 : Int32) = 0 from h) (by decide)⟩, by rw [ht]; exact hP1, hD, by rw [ht]; exact hz1, fun q h1 _ => by rw [ht]; exact hk1 q h1⟩) (fun _ h => nomatch h) dL_mark_19
set_option maxHeartbeats 4000000 in
set_option maxRecDepth 100000 in
theorem l_mark_O (l : Launch) (hst : l.stackTraces = false) (z : Nat) (H0 : Heap) (hz : z ≤ H0.size) (D : va_G) (cI cJ cZ cG : ClassId) (b P : Nat) (ad : Nat → ga) (st : Nat → Option GS) (o : Nat) (f : Nat → Int64) (j : Nat) (x : GS) (b1 : Int32) (hj : j < 12) (hst1 : st j = some x) (hm : ¬ gM x = 0) (hPO : va_P D vwCl (OW cI cJ cG o b P ad st f) H0) (hDO : va_D (fun _ => True) (OW cI cJ cG o b P ad st f)) : LC l yL_mark wsL_mark [Value.ref b, Value.int (nI j), Value.int b1, Value.ref o] D cI cJ cZ cG z o b P ad st f H0 (0, st, f_X1_mark x b1) := by
  unfold LC
  refine va_MetW (y := yL_mark) (ws := wsL_mark) (cc := cL_mark) (maxL := 5) (ret := (some .int)) (by decide) rfl ?_
  intro p e s m args below meth c s₁ B hml hv
  obtain ⟨rfl, hH, hKX⟩ := hv
  have hx := B.exec
  have hb := B.bytes
  have hr := B.returns
  have hts := atoms_spec (ws := wsL_mark) B.pre
  have hown : s.vm.findClass RL = some m.cls := findClass_of_methodNamed B.named
  have hlocks := B.notSynchronized
  subst hH
  have hKW := hKX.1.1
  have hK := hKW.1
  have htab : c.exceptionTable.toList = [⟨0, 9, 12, 13⟩, ⟨0, 9, 16, 17⟩] := by rw [vx_table (x := yL_mark) B (hts _ List.mem_cons_self)]; rfl
  have hl := lv_entry ([Value.ref b, Value.int (nI j), Value.int b1, Value.ref o]) (n := 5) (Nat.le_of_ble_eq_true rfl)
  rw [lg_entry_eq]
  generalize (lg_sl ([Value.ref b, Value.int (nI j), Value.int b1, Value.ref o]) ++ List.replicate (5 - (lg_sl ([Value.ref b, Value.int (nI j), Value.int b1, Value.ref o])).length) Slot.unset).toArray = ls at hl ⊢
  have hl : lv_has ls 5 [(0, .ref b), (1, .int (nI j)), (2, .int b1), (3, .ref o)] := hl
  have hPB : va_P D vwCl (BW cI cJ cG b P ad st) s.heap := wd_P.part hPO (fun _ h => List.mem_append_right _ h)
  have hD0 : va_D (fun _ => True) (BW cI cJ cG b P ad st) := wd_D.left (wd_D.perm hDO List.perm_append_comm)
  have hD := hDO.self (sz := s.heap.size)
  generalize hAe : va_A (OW cI cJ cG o b P ad st f) s.heap.size = A at hD ⊢
  have hA : ∀ q : Nat, s.heap.size ≤ q → A q := fun q h => by rw [← hAe]; exact Or.inr h
  have hS : va_S A s.heap s.heap [] := va_S.rf
  have hP := hPO
  refine lv_aload_n hx hb dL_mark_0 rfl (lv_at hl 3 rfl) ?_
  refine lv_iconst (v := 0) hx hb dL_mark_1 (by decide) ?_
  refine lv_aload_n hx hb dL_mark_2 rfl (lv_at hl 0 rfl) ?_
  refine lv_iload_n hx hb dL_mark_3 rfl (lv_at hl 1 rfl) ?_
  refine lv_iload_n hx hb dL_mark_4 rfl (lv_at hl 2 rfl) ?_
  refine pu_V (As := [.int (nI j), .int b1]) (rest := [.int (0 : Int32), .ref o]) ⟨hx, hb, hml, hown, hts⟩ (c_X1_mark l s.heap D cI cJ cZ cG b P ad st j x b1 hj hst1 hm hPB) (KW_puK D cI cJ cZ cG) hKW (cwV 2 hts gL_mark_X1_mark rfl rfl rfl (by decide +kernel) ⟨Nat.le_of_ble_eq_true rfl, Nat.le_of_ble_eq_true rfl⟩) (va_recv hK hPB (ci := 1) (q0 := 0) rfl rfl) rfl hl.1 rfl (Nat.le_of_ble_eq_true rfl) dL_mark_5 ⟨Nat.zero_le _, Nat.zero_le _⟩ ?_
  refine W.eq (g2 := F0 m 8 ls [.long (f_X1_mark x b1), .int (0 : Int32), .ref o]) rfl ?_
  refine va_last (x := f_X1_mark x b1) hx hb hK hP hD hS 0 1 rfl rfl (show vp_in (nI 0) 1 from vp_in_nI (by decide) (by decide)) dL_mark_8 (fun H locs hP hD hS => ?_)
  have hP : va_P D vwCl ([(o, .inl (cJ, 1, .inr (.inl (vp_updL f (0 : Int32).toNatClampNeg (f_X1_mark x b1)))))] ++ BW cI cJ cG b P ad st) H := hP
  have hD : va_D A ([(o, .inl (cJ, 1, .inr (.inl (vp_updL f (0 : Int32).toNatClampNeg (f_X1_mark x b1)))))] ++ BW cI cJ cG b P ad st) := hD
  refine lv_goto (tgt := 20) hx hb dL_mark_9 (by decide) ?_
  refine lv_iconst (v := 0) hx hb dL_mark_20 (by decide) ?_
  refine W.widen (k := 4) (n := 35) (Nat.le_of_ble_eq_true rfl) (Nat.le_of_ble_eq_true rfl) ?_
  exact W.iret (v := (0 : Int32)) hx hb hr (fun t ht hW => ⟨rfl, _, ⟨ad, _, rfl, fun _ => updL0 f _⟩, by rw [ht]; exact hP, hD, (hS.F ht).1, (hS.F ht).2⟩) hS.2.2 dL_mark_21
set_option maxHeartbeats 4000000 in
set_option maxRecDepth 100000 in
theorem l_about_N (l : Launch) (hst : l.stackTraces = false) (z : Nat) (H0 : Heap) (hz : z ≤ H0.size) (D : va_G) (cI cJ cZ cG : ClassId) (b P : Nat) (ad : Nat → ga) (st : Nat → Option GS) (o : Nat) (f : Nat → Int64) (b0 : Int32) (b1 : Int32) (hn : gat st b0 = none) (hPO : va_P D vwCl (OW cI cJ cG o b P ad st f) H0) (hDO : va_D (fun _ => True) (OW cI cJ cG o b P ad st f)) : LC l yL_about wsL_about [Value.ref b, Value.int b0, Value.int b1, Value.ref o] D cI cJ cZ cG z o b P ad st f H0 (1, st, 0) := by
  unfold LC
  refine va_MetW (y := yL_about) (ws := wsL_about) (cc := cL_about) (maxL := 5) (ret := (some .int)) (by decide) rfl ?_
  intro p e s m args below meth c s₁ B hml hv
  obtain ⟨rfl, hH, hKX⟩ := hv
  have hx := B.exec
  have hb := B.bytes
  have hr := B.returns
  have hts := atoms_spec (ws := wsL_about) B.pre
  have hown : s.vm.findClass RL = some m.cls := findClass_of_methodNamed B.named
  have hlocks := B.notSynchronized
  subst hH
  have hKW := hKX.1.1
  have hK := hKW.1
  have htab : c.exceptionTable.toList = [⟨0, 10, 13, 13⟩, ⟨0, 10, 17, 15⟩] := by rw [vx_table (x := yL_about) B (hts _ List.mem_cons_self)]; rfl
  have hl := lv_entry ([Value.ref b, Value.int b0, Value.int b1, Value.ref o]) (n := 5) (Nat.le_of_ble_eq_true rfl)
  rw [lg_entry_eq]
  generalize (lg_sl ([Value.ref b, Value.int b0, Value.int b1, Value.ref o]) ++ List.replicate (5 - (lg_sl ([Value.ref b, Value.int b0, Value.int b1, Value.ref o])).length) Slot.unset).toArray = ls at hl ⊢
  have hl : lv_has ls 5 [(0, .ref b), (1, .int b0), (2, .int b1), (3, .ref o)] := hl
  have hPB : va_P D vwCl (BW cI cJ cG b P ad st) s.heap := wd_P.part hPO (fun _ h => List.mem_append_right _ h)
  have hD0 : va_D (fun _ => True) (BW cI cJ cG b P ad st) := wd_D.left (wd_D.perm hDO List.perm_append_comm)
  have hD := hDO.self (sz := s.heap.size)
  generalize hAe : va_A (OW cI cJ cG o b P ad st f) s.heap.size = A at hD ⊢
  have hA : ∀ q : Nat, s.heap.size ≤ q → A q := fun q h => by rw [← hAe]; exact Or.inr h
  have hS : va_S A s.heap s.heap [] := va_S.rf
  have hP := hPO
  refine lv_aload_n hx hb dL_about_0 rfl (lv_at hl 3 rfl) ?_
  refine lv_iconst (v := 0) hx hb dL_about_1 (by decide) ?_
  refine lv_aload_n hx hb dL_about_2 rfl (lv_at hl 0 rfl) ?_
  refine lv_iload_n hx hb dL_about_3 rfl (lv_at hl 1 rfl) ?_
  refine lv_iload_n hx hb dL_about_4 rfl (lv_at hl 2 rfl) ?_
  refine ct_V (As := [.int b0, .int b1]) (rest := [.int (0 : Int32), .ref o]) ⟨hx, hb, hml, hown, hts⟩ (t_X1_about_N l hst z s.heap hz D cI cJ cZ cG b P ad st b0 b1 hn hPB) (KZ_puK D cI cJ cZ cG z s.heap) hKX.1 (cwV 2 hts gL_about_X1_about rfl rfl rfl (by decide +kernel) ⟨Nat.le_of_ble_eq_true rfl, Nat.le_of_ble_eq_true rfl⟩) (va_recv hK hPB (ci := 1) (q0 := 0) rfl rfl) rfl hl.1 rfl (Nat.le_of_ble_eq_true rfl) dL_about_5 ⟨Nat.le_of_ble_eq_true rfl, Nat.le_of_ble_eq_true rfl⟩ (name := xN) [] ⟨0, 10, 13, 13⟩ [⟨0, 10, 17, 15⟩] htab (fun _ h => nomatch h) (by decide) (by decide) (hts (.classLink RL 13 xN) (by decide +kernel)) (hKW.n 19 rfl rfl) (fun H1 q9 hz1 hk1 => ?_)
  have hP1 : va_P D vwCl (OW cI cJ cG o b P ad st f) H1 := hPO.kept (fun k9 x9 hx9 => hk1 x9.1 ((hPO k9 x9 hx9).lt))
  refine W.eq (g2 := F0 m 13 ls [.ref q9]) rfl ?_
  refine lv_astore (lv' := [(4, .ref q9), (0, .ref b), (1, .int b0), (2, .int b1), (3, .ref o)]) hx hb dL_about_13 hl (by decide) rfl (fun ls hl => ?_)
  refine lv_iconst (v := 1) hx hb dL_about_15 (by decide) ?_
  exact W.iret (v := (1 : Int32)) hx hb hr (fun t ht hW => ⟨rfl, _, ⟨ad, f, rfl, fun h => absurd (show (1 : Int32) = 0 from h) (by decide)⟩, by rw [ht]; exact hP1, hD, by rw [ht]; exact hz1, fun q h1 _ => by rw [ht]; exact hk1 q h1⟩) (fun _ h => nomatch h) dL_about_16
set_option maxHeartbeats 4000000 in
set_option maxRecDepth 100000 in
theorem l_about_A (l : Launch) (hst : l.stackTraces = false) (z : Nat) (H0 : Heap) (hz : z ≤ H0.size) (D : va_G) (cI cJ cZ cG : ClassId) (b P : Nat) (ad : Nat → ga) (st : Nat → Option GS) (o : Nat) (f : Nat → Int64) (j : Nat) (x : GS) (b1 : Int32) (hj : j < 12) (hst1 : st j = some x) (n0 : ¬ b1 = 0) (n1 : ¬ b1 = 1) (n2 : ¬ b1 = 2) (n3 : ¬ b1 = 3) (n4 : ¬ b1 = 4) (n5 : ¬ b1 = 5) (hPO : va_P D vwCl (OW cI cJ cG o b P ad st f) H0) (hDO : va_D (fun _ => True) (OW cI cJ cG o b P ad st f)) : LC l yL_about wsL_about [Value.ref b, Value.int (nI j), Value.int b1, Value.ref o] D cI cJ cZ cG z o b P ad st f H0 (2, st, 0) := by
  unfold LC
  refine va_MetW (y := yL_about) (ws := wsL_about) (cc := cL_about) (maxL := 5) (ret := (some .int)) (by decide) rfl ?_
  intro p e s m args below meth c s₁ B hml hv
  obtain ⟨rfl, hH, hKX⟩ := hv
  have hx := B.exec
  have hb := B.bytes
  have hr := B.returns
  have hts := atoms_spec (ws := wsL_about) B.pre
  have hown : s.vm.findClass RL = some m.cls := findClass_of_methodNamed B.named
  have hlocks := B.notSynchronized
  subst hH
  have hKW := hKX.1.1
  have hK := hKW.1
  have htab : c.exceptionTable.toList = [⟨0, 10, 13, 13⟩, ⟨0, 10, 17, 15⟩] := by rw [vx_table (x := yL_about) B (hts _ List.mem_cons_self)]; rfl
  have hl := lv_entry ([Value.ref b, Value.int (nI j), Value.int b1, Value.ref o]) (n := 5) (Nat.le_of_ble_eq_true rfl)
  rw [lg_entry_eq]
  generalize (lg_sl ([Value.ref b, Value.int (nI j), Value.int b1, Value.ref o]) ++ List.replicate (5 - (lg_sl ([Value.ref b, Value.int (nI j), Value.int b1, Value.ref o])).length) Slot.unset).toArray = ls at hl ⊢
  have hl : lv_has ls 5 [(0, .ref b), (1, .int (nI j)), (2, .int b1), (3, .ref o)] := hl
  have hPB : va_P D vwCl (BW cI cJ cG b P ad st) s.heap := wd_P.part hPO (fun _ h => List.mem_append_right _ h)
  have hD0 : va_D (fun _ => True) (BW cI cJ cG b P ad st) := wd_D.left (wd_D.perm hDO List.perm_append_comm)
  have hD := hDO.self (sz := s.heap.size)
  generalize hAe : va_A (OW cI cJ cG o b P ad st f) s.heap.size = A at hD ⊢
  have hA : ∀ q : Nat, s.heap.size ≤ q → A q := fun q h => by rw [← hAe]; exact Or.inr h
  have hS : va_S A s.heap s.heap [] := va_S.rf
  have hP := hPO
  refine lv_aload_n hx hb dL_about_0 rfl (lv_at hl 3 rfl) ?_
  refine lv_iconst (v := 0) hx hb dL_about_1 (by decide) ?_
  refine lv_aload_n hx hb dL_about_2 rfl (lv_at hl 0 rfl) ?_
  refine lv_iload_n hx hb dL_about_3 rfl (lv_at hl 1 rfl) ?_
  refine lv_iload_n hx hb dL_about_4 rfl (lv_at hl 2 rfl) ?_
  refine ct_V (As := [.int (nI j), .int b1]) (rest := [.int (0 : Int32), .ref o]) ⟨hx, hb, hml, hown, hts⟩ (t_X1_about_A l hst z s.heap hz D cI cJ cZ cG b P ad st j x b1 hj hst1 n0 n1 n2 n3 n4 n5 hPB) (KZ_puK D cI cJ cZ cG z s.heap) hKX.1 (cwV 2 hts gL_about_X1_about rfl rfl rfl (by decide +kernel) ⟨Nat.le_of_ble_eq_true rfl, Nat.le_of_ble_eq_true rfl⟩) (va_recv hK hPB (ci := 1) (q0 := 0) rfl rfl) rfl hl.1 rfl (Nat.le_of_ble_eq_true rfl) dL_about_5 ⟨Nat.le_of_ble_eq_true rfl, Nat.le_of_ble_eq_true rfl⟩ (name := xA) [⟨0, 10, 13, 13⟩] ⟨0, 10, 17, 15⟩ [] htab (List.forall_mem_cons.mpr ⟨Or.inr ⟨by decide, xN, hts (.classLink RL 13 xN) (by decide +kernel), hKX.2.1⟩, fun _ h => nomatch h⟩) (by decide) (by decide) (hts (.classLink RL 15 xA) (by decide +kernel)) (hKW.n 20 rfl rfl) (fun H1 q9 hz1 hk1 => ?_)
  have hP1 : va_P D vwCl (OW cI cJ cG o b P ad st f) H1 := hPO.kept (fun k9 x9 hx9 => hk1 x9.1 ((hPO k9 x9 hx9).lt))
  refine W.eq (g2 := F0 m 17 ls [.ref q9]) rfl ?_
  refine lv_astore (lv' := [(4, .ref q9), (0, .ref b), (1, .int (nI j)), (2, .int b1), (3, .ref o)]) hx hb dL_about_17 hl (by decide) rfl (fun ls hl => ?_)
  refine lv_iconst (v := 2) hx hb dL_about_19 (by decide) ?_
  exact W.iret (v := (2 : Int32)) hx hb hr (fun t ht hW => ⟨rfl, _, ⟨ad, f, rfl, fun h => absurd (show (2 : Int32) = 0 from h) (by decide)⟩, by rw [ht]; exact hP1, hD, by rw [ht]; exact hz1, fun q h1 _ => by rw [ht]; exact hk1 q h1⟩) (fun _ h => nomatch h) dL_about_20
set_option maxHeartbeats 4000000 in
set_option maxRecDepth 100000 in
theorem l_about_O (l : Launch) (hst : l.stackTraces = false) (z : Nat) (H0 : Heap) (hz : z ≤ H0.size) (D : va_G) (cI cJ cZ cG : ClassId) (b P : Nat) (ad : Nat → ga) (st : Nat → Option GS) (o : Nat) (f : Nat → Int64) (j : Nat) (x : GS) (b1 : Int32) (hI : BI st) (hj : j < 12) (hst1 : st j = some x) (hw : ¬ (¬ b1 = 0 ∧ ¬ b1 = 1 ∧ ¬ b1 = 2 ∧ ¬ b1 = 3 ∧ ¬ b1 = 4 ∧ ¬ b1 = 5)) (hPO : va_P D vwCl (OW cI cJ cG o b P ad st f) H0) (hDO : va_D (fun _ => True) (OW cI cJ cG o b P ad st f)) : LC l yL_about wsL_about [Value.ref b, Value.int (nI j), Value.int b1, Value.ref o] D cI cJ cZ cG z o b P ad st f H0 (0, st, (f_X1_about st x j b1).toInt64) := by
  unfold LC
  refine va_MetW (y := yL_about) (ws := wsL_about) (cc := cL_about) (maxL := 5) (ret := (some .int)) (by decide) rfl ?_
  intro p e s m args below meth c s₁ B hml hv
  obtain ⟨rfl, hH, hKX⟩ := hv
  have hx := B.exec
  have hb := B.bytes
  have hr := B.returns
  have hts := atoms_spec (ws := wsL_about) B.pre
  have hown : s.vm.findClass RL = some m.cls := findClass_of_methodNamed B.named
  have hlocks := B.notSynchronized
  subst hH
  have hKW := hKX.1.1
  have hK := hKW.1
  have htab : c.exceptionTable.toList = [⟨0, 10, 13, 13⟩, ⟨0, 10, 17, 15⟩] := by rw [vx_table (x := yL_about) B (hts _ List.mem_cons_self)]; rfl
  have hl := lv_entry ([Value.ref b, Value.int (nI j), Value.int b1, Value.ref o]) (n := 5) (Nat.le_of_ble_eq_true rfl)
  rw [lg_entry_eq]
  generalize (lg_sl ([Value.ref b, Value.int (nI j), Value.int b1, Value.ref o]) ++ List.replicate (5 - (lg_sl ([Value.ref b, Value.int (nI j), Value.int b1, Value.ref o])).length) Slot.unset).toArray = ls at hl ⊢
  have hl : lv_has ls 5 [(0, .ref b), (1, .int (nI j)), (2, .int b1), (3, .ref o)] := hl
  have hPB : va_P D vwCl (BW cI cJ cG b P ad st) s.heap := wd_P.part hPO (fun _ h => List.mem_append_right _ h)
  have hD0 : va_D (fun _ => True) (BW cI cJ cG b P ad st) := wd_D.left (wd_D.perm hDO List.perm_append_comm)
  have hD := hDO.self (sz := s.heap.size)
  generalize hAe : va_A (OW cI cJ cG o b P ad st f) s.heap.size = A at hD ⊢
  have hA : ∀ q : Nat, s.heap.size ≤ q → A q := fun q h => by rw [← hAe]; exact Or.inr h
  have hS : va_S A s.heap s.heap [] := va_S.rf
  have hP := hPO
  refine lv_aload_n hx hb dL_about_0 rfl (lv_at hl 3 rfl) ?_
  refine lv_iconst (v := 0) hx hb dL_about_1 (by decide) ?_
  refine lv_aload_n hx hb dL_about_2 rfl (lv_at hl 0 rfl) ?_
  refine lv_iload_n hx hb dL_about_3 rfl (lv_at hl 1 rfl) ?_
  refine lv_iload_n hx hb dL_about_4 rfl (lv_at hl 2 rfl) ?_
  refine pu_V (As := [.int (nI j), .int b1]) (rest := [.int (0 : Int32), .ref o]) ⟨hx, hb, hml, hown, hts⟩ (c_X1_about l s.heap D cI cJ cZ cG b P ad st j x b1 hI hj hst1 hw hPB) (KW_puK D cI cJ cZ cG) hKW (cwV 2 hts gL_about_X1_about rfl rfl rfl (by decide +kernel) ⟨Nat.le_of_ble_eq_true rfl, Nat.le_of_ble_eq_true rfl⟩) (va_recv hK hPB (ci := 1) (q0 := 0) rfl rfl) rfl hl.1 rfl (Nat.le_of_ble_eq_true rfl) dL_about_5 ⟨Nat.zero_le _, Nat.zero_le _⟩ ?_
  refine W.eq (g2 := F0 m 8 ls [.int (f_X1_about st x j b1), .int (0 : Int32), .ref o]) rfl ?_
  refine lv_i2l hx hb dL_about_8 rfl ?_
  refine va_last (x := (f_X1_about st x j b1).toInt64) hx hb hK hP hD hS 0 1 rfl rfl (show vp_in (nI 0) 1 from vp_in_nI (by decide) (by decide)) dL_about_9 (fun H locs hP hD hS => ?_)
  have hP : va_P D vwCl ([(o, .inl (cJ, 1, .inr (.inl (vp_updL f (0 : Int32).toNatClampNeg ((f_X1_about st x j b1).toInt64)))))] ++ BW cI cJ cG b P ad st) H := hP
  have hD : va_D A ([(o, .inl (cJ, 1, .inr (.inl (vp_updL f (0 : Int32).toNatClampNeg ((f_X1_about st x j b1).toInt64)))))] ++ BW cI cJ cG b P ad st) := hD
  refine lv_goto (tgt := 21) hx hb dL_about_10 (by decide) ?_
  refine lv_iconst (v := 0) hx hb dL_about_21 (by decide) ?_
  refine W.widen (k := 4) (n := 35) (Nat.le_of_ble_eq_true rfl) (Nat.le_of_ble_eq_true rfl) ?_
  exact W.iret (v := (0 : Int32)) hx hb hr (fun t ht hW => ⟨rfl, _, ⟨ad, _, rfl, fun _ => updL0 f _⟩, by rw [ht]; exact hP, hD, (hS.F ht).1, (hS.F ht).2⟩) hS.2.2 dL_about_22
set_option maxHeartbeats 4000000 in
set_option maxRecDepth 100000 in
theorem l_stepAt_N (l : Launch) (hst : l.stackTraces = false) (z : Nat) (H0 : Heap) (hz : z ≤ H0.size) (D : va_G) (cI cJ cZ cG : ClassId) (b P : Nat) (ad : Nat → ga) (st : Nat → Option GS) (o : Nat) (f : Nat → Int64) (b0 : Int32) (b1 : Int32) (b2 : Int32) (hn : gat st b0 = none) (hPO : va_P D vwCl (OW cI cJ cG o b P ad st f) H0) (hDO : va_D (fun _ => True) (OW cI cJ cG o b P ad st f)) : LC l yL_stepAt wsL_stepAt [Value.ref b, Value.int b0, Value.int b1, Value.int b2, Value.ref o] D cI cJ cZ cG z o b P ad st f H0 (1, st, 0) := by
  unfold LC
  refine va_MetW (y := yL_stepAt) (ws := wsL_stepAt) (cc := cL_stepAt) (maxL := 6) (ret := (some .int)) (by decide) rfl ?_
  intro p e s m args below meth c s₁ B hml hv
  obtain ⟨rfl, hH, hKX⟩ := hv
  have hx := B.exec
  have hb := B.bytes
  have hr := B.returns
  have hts := atoms_spec (ws := wsL_stepAt) B.pre
  have hown : s.vm.findClass RL = some m.cls := findClass_of_methodNamed B.named
  have hlocks := B.notSynchronized
  subst hH
  have hKW := hKX.1.1
  have hK := hKW.1
  have htab : c.exceptionTable.toList = [⟨0, 12, 15, 13⟩, ⟨0, 12, 19, 15⟩] := by rw [vx_table (x := yL_stepAt) B (hts _ List.mem_cons_self)]; rfl
  have hl := lv_entry ([Value.ref b, Value.int b0, Value.int b1, Value.int b2, Value.ref o]) (n := 6) (Nat.le_of_ble_eq_true rfl)
  rw [lg_entry_eq]
  generalize (lg_sl ([Value.ref b, Value.int b0, Value.int b1, Value.int b2, Value.ref o]) ++ List.replicate (6 - (lg_sl ([Value.ref b, Value.int b0, Value.int b1, Value.int b2, Value.ref o])).length) Slot.unset).toArray = ls at hl ⊢
  have hl : lv_has ls 6 [(0, .ref b), (1, .int b0), (2, .int b1), (3, .int b2), (4, .ref o)] := hl
  have hPB : va_P D vwCl (BW cI cJ cG b P ad st) s.heap := wd_P.part hPO (fun _ h => List.mem_append_right _ h)
  have hD0 : va_D (fun _ => True) (BW cI cJ cG b P ad st) := wd_D.left (wd_D.perm hDO List.perm_append_comm)
  have hD := hDO.self (sz := s.heap.size)
  generalize hAe : va_A (OW cI cJ cG o b P ad st f) s.heap.size = A at hD ⊢
  have hA : ∀ q : Nat, s.heap.size ≤ q → A q := fun q h => by rw [← hAe]; exact Or.inr h
  have hS : va_S A s.heap s.heap [] := va_S.rf
  have hP := hPO
  refine lv_aload hx hb dL_stepAt_0 (lv_at hl 4 rfl) ?_
  refine lv_iconst (v := 0) hx hb dL_stepAt_2 (by decide) ?_
  refine lv_aload_n hx hb dL_stepAt_3 rfl (lv_at hl 0 rfl) ?_
  refine lv_iload_n hx hb dL_stepAt_4 rfl (lv_at hl 1 rfl) ?_
  refine lv_iload_n hx hb dL_stepAt_5 rfl (lv_at hl 2 rfl) ?_
  refine lv_iload_n hx hb dL_stepAt_6 rfl (lv_at hl 3 rfl) ?_
  refine ct_V (As := [.int b0, .int b1, .int b2]) (rest := [.int (0 : Int32), .ref o]) ⟨hx, hb, hml, hown, hts⟩ (t_X1_stepAt_N l hst z s.heap hz D cI cJ cZ cG b P ad st b0 b1 b2 hn hPB) (KZ_puK D cI cJ cZ cG z s.heap) hKX.1 (cwV 3 hts gL_stepAt_X1_stepAt rfl rfl rfl (by decide +kernel) ⟨Nat.le_of_ble_eq_true rfl, Nat.le_of_ble_eq_true rfl⟩) (va_recv hK hPB (ci := 1) (q0 := 0) rfl rfl) rfl hl.1 rfl (Nat.le_of_ble_eq_true rfl) dL_stepAt_7 ⟨Nat.le_of_ble_eq_true rfl, Nat.le_of_ble_eq_true rfl⟩ (name := xN) [] ⟨0, 12, 15, 13⟩ [⟨0, 12, 19, 15⟩] htab (fun _ h => nomatch h) (by decide) (by decide) (hts (.classLink RL 13 xN) (by decide +kernel)) (hKW.n 19 rfl rfl) (fun H1 q9 hz1 hk1 => ?_)
  have hP1 : va_P D vwCl (OW cI cJ cG o b P ad st f) H1 := hPO.kept (fun k9 x9 hx9 => hk1 x9.1 ((hPO k9 x9 hx9).lt))
  refine W.eq (g2 := F0 m 15 ls [.ref q9]) rfl ?_
  refine lv_astore (lv' := [(5, .ref q9), (0, .ref b), (1, .int b0), (2, .int b1), (3, .int b2), (4, .ref o)]) hx hb dL_stepAt_15 hl (by decide) rfl (fun ls hl => ?_)
  refine lv_iconst (v := 1) hx hb dL_stepAt_17 (by decide) ?_
  exact W.iret (v := (1 : Int32)) hx hb hr (fun t ht hW => ⟨rfl, _, ⟨ad, f, rfl, fun h => absurd (show (1 : Int32) = 0 from h) (by decide)⟩, by rw [ht]; exact hP1, hD, by rw [ht]; exact hz1, fun q h1 _ => by rw [ht]; exact hk1 q h1⟩) (fun _ h => nomatch h) dL_stepAt_18
set_option maxHeartbeats 4000000 in
set_option maxRecDepth 100000 in
theorem l_stepAt_M (l : Launch) (hst : l.stackTraces = false) (z : Nat) (H0 : Heap) (hz : z ≤ H0.size) (D : va_G) (cI cJ cZ cG : ClassId) (b P : Nat) (ad : Nat → ga) (st : Nat → Option GS) (o : Nat) (f : Nat → Int64) (j : Nat) (x : GS) (b1 : Int32) (b2 : Int32) (hj : j < 12) (hst1 : st j = some x) (k0 : b1 < 0) (hPO : va_P D vwCl (OW cI cJ cG o b P ad st f) H0) (hDO : va_D (fun _ => True) (OW cI cJ cG o b P ad st f)) : LC l yL_stepAt wsL_stepAt [Value.ref b, Value.int (nI j), Value.int b1, Value.int b2, Value.ref o] D cI cJ cZ cG z o b P ad st f H0 (1, st, 0) := by
  unfold LC
  refine va_MetW (y := yL_stepAt) (ws := wsL_stepAt) (cc := cL_stepAt) (maxL := 6) (ret := (some .int)) (by decide) rfl ?_
  intro p e s m args below meth c s₁ B hml hv
  obtain ⟨rfl, hH, hKX⟩ := hv
  have hx := B.exec
  have hb := B.bytes
  have hr := B.returns
  have hts := atoms_spec (ws := wsL_stepAt) B.pre
  have hown : s.vm.findClass RL = some m.cls := findClass_of_methodNamed B.named
  have hlocks := B.notSynchronized
  subst hH
  have hKW := hKX.1.1
  have hK := hKW.1
  have htab : c.exceptionTable.toList = [⟨0, 12, 15, 13⟩, ⟨0, 12, 19, 15⟩] := by rw [vx_table (x := yL_stepAt) B (hts _ List.mem_cons_self)]; rfl
  have hl := lv_entry ([Value.ref b, Value.int (nI j), Value.int b1, Value.int b2, Value.ref o]) (n := 6) (Nat.le_of_ble_eq_true rfl)
  rw [lg_entry_eq]
  generalize (lg_sl ([Value.ref b, Value.int (nI j), Value.int b1, Value.int b2, Value.ref o]) ++ List.replicate (6 - (lg_sl ([Value.ref b, Value.int (nI j), Value.int b1, Value.int b2, Value.ref o])).length) Slot.unset).toArray = ls at hl ⊢
  have hl : lv_has ls 6 [(0, .ref b), (1, .int (nI j)), (2, .int b1), (3, .int b2), (4, .ref o)] := hl
  have hPB : va_P D vwCl (BW cI cJ cG b P ad st) s.heap := wd_P.part hPO (fun _ h => List.mem_append_right _ h)
  have hD0 : va_D (fun _ => True) (BW cI cJ cG b P ad st) := wd_D.left (wd_D.perm hDO List.perm_append_comm)
  have hD := hDO.self (sz := s.heap.size)
  generalize hAe : va_A (OW cI cJ cG o b P ad st f) s.heap.size = A at hD ⊢
  have hA : ∀ q : Nat, s.heap.size ≤ q → A q := fun q h => by rw [← hAe]; exact Or.inr h
  have hS : va_S A s.heap s.heap [] := va_S.rf
  have hP := hPO
  refine lv_aload hx hb dL_stepAt_0 (lv_at hl 4 rfl) ?_
  refine lv_iconst (v := 0) hx hb dL_stepAt_2 (by decide) ?_
  refine lv_aload_n hx hb dL_stepAt_3 rfl (lv_at hl 0 rfl) ?_
  refine lv_iload_n hx hb dL_stepAt_4 rfl (lv_at hl 1 rfl) ?_
  refine lv_iload_n hx hb dL_stepAt_5 rfl (lv_at hl 2 rfl) ?_
  refine lv_iload_n hx hb dL_stepAt_6 rfl (lv_at hl 3 rfl) ?_
  refine ct_V (As := [.int (nI j), .int b1, .int b2]) (rest := [.int (0 : Int32), .ref o]) ⟨hx, hb, hml, hown, hts⟩ (t_X1_stepAt_M l hst z s.heap hz D cI cJ cZ cG b P ad st j x b1 b2 hj hst1 k0 hPB) (KZ_puK D cI cJ cZ cG z s.heap) hKX.1 (cwV 3 hts gL_stepAt_X1_stepAt rfl rfl rfl (by decide +kernel) ⟨Nat.le_of_ble_eq_true rfl, Nat.le_of_ble_eq_true rfl⟩) (va_recv hK hPB (ci := 1) (q0 := 0) rfl rfl) rfl hl.1 rfl (Nat.le_of_ble_eq_true rfl) dL_stepAt_7 ⟨Nat.le_of_ble_eq_true rfl, Nat.le_of_ble_eq_true rfl⟩ (name := xN) [] ⟨0, 12, 15, 13⟩ [⟨0, 12, 19, 15⟩] htab (fun _ h => nomatch h) (by decide) (by decide) (hts (.classLink RL 13 xN) (by decide +kernel)) (hKW.n 19 rfl rfl) (fun H1 q9 hz1 hk1 => ?_)
  have hP1 : va_P D vwCl (OW cI cJ cG o b P ad st f) H1 := hPO.kept (fun k9 x9 hx9 => hk1 x9.1 ((hPO k9 x9 hx9).lt))
  refine W.eq (g2 := F0 m 15 ls [.ref q9]) rfl ?_
  refine lv_astore (lv' := [(5, .ref q9), (0, .ref b), (1, .int (nI j)), (2, .int b1), (3, .int b2), (4, .ref o)]) hx hb dL_stepAt_15 hl (by decide) rfl (fun ls hl => ?_)
  refine lv_iconst (v := 1) hx hb dL_stepAt_17 (by decide) ?_
  exact W.iret (v := (1 : Int32)) hx hb hr (fun t ht hW => ⟨rfl, _, ⟨ad, f, rfl, fun h => absurd (show (1 : Int32) = 0 from h) (by decide)⟩, by rw [ht]; exact hP1, hD, by rw [ht]; exact hz1, fun q h1 _ => by rw [ht]; exact hk1 q h1⟩) (fun _ h => nomatch h) dL_stepAt_18
set_option maxHeartbeats 4000000 in
set_option maxRecDepth 100000 in
theorem l_stepAt_L (l : Launch) (hst : l.stackTraces = false) (z : Nat) (H0 : Heap) (hz : z ≤ H0.size) (D : va_G) (cI cJ cZ cG : ClassId) (b P : Nat) (ad : Nat → ga) (st : Nat → Option GS) (o : Nat) (f : Nat → Int64) (j : Nat) (x : GS) (b1 : Int32) (b2 : Int32) (hj : j < 12) (hst1 : st j = some x) (k0 : ¬ b1 < 0) (k1 : ¬ b1 < gC x) (hPO : va_P D vwCl (OW cI cJ cG o b P ad st f) H0) (hDO : va_D (fun _ => True) (OW cI cJ cG o b P ad st f)) : LC l yL_stepAt wsL_stepAt [Value.ref b, Value.int (nI j), Value.int b1, Value.int b2, Value.ref o] D cI cJ cZ cG z o b P ad st f H0 (1, st, 0) := by
  unfold LC
  refine va_MetW (y := yL_stepAt) (ws := wsL_stepAt) (cc := cL_stepAt) (maxL := 6) (ret := (some .int)) (by decide) rfl ?_
  intro p e s m args below meth c s₁ B hml hv
  obtain ⟨rfl, hH, hKX⟩ := hv
  have hx := B.exec
  have hb := B.bytes
  have hr := B.returns
  have hts := atoms_spec (ws := wsL_stepAt) B.pre
  have hown : s.vm.findClass RL = some m.cls := findClass_of_methodNamed B.named
  have hlocks := B.notSynchronized
  subst hH
  have hKW := hKX.1.1
  have hK := hKW.1
  have htab : c.exceptionTable.toList = [⟨0, 12, 15, 13⟩, ⟨0, 12, 19, 15⟩] := by rw [vx_table (x := yL_stepAt) B (hts _ List.mem_cons_self)]; rfl
  have hl := lv_entry ([Value.ref b, Value.int (nI j), Value.int b1, Value.int b2, Value.ref o]) (n := 6) (Nat.le_of_ble_eq_true rfl)
  rw [lg_entry_eq]
  generalize (lg_sl ([Value.ref b, Value.int (nI j), Value.int b1, Value.int b2, Value.ref o]) ++ List.replicate (6 - (lg_sl ([Value.ref b, Value.int (nI j), Value.int b1, Value.int b2, Value.ref o])).length) Slot.unset).toArray = ls at hl ⊢
  have hl : lv_has ls 6 [(0, .ref b), (1, .int (nI j)), (2, .int b1), (3, .int b2), (4, .ref o)] := hl
  have hPB : va_P D vwCl (BW cI cJ cG b P ad st) s.heap := wd_P.part hPO (fun _ h => List.mem_append_right _ h)
  have hD0 : va_D (fun _ => True) (BW cI cJ cG b P ad st) := wd_D.left (wd_D.perm hDO List.perm_append_comm)
  have hD := hDO.self (sz := s.heap.size)
  generalize hAe : va_A (OW cI cJ cG o b P ad st f) s.heap.size = A at hD ⊢
  have hA : ∀ q : Nat, s.heap.size ≤ q → A q := fun q h => by rw [← hAe]; exact Or.inr h
  have hS : va_S A s.heap s.heap [] := va_S.rf
  have hP := hPO
  refine lv_aload hx hb dL_stepAt_0 (lv_at hl 4 rfl) ?_
  refine lv_iconst (v := 0) hx hb dL_stepAt_2 (by decide) ?_
  refine lv_aload_n hx hb dL_stepAt_3 rfl (lv_at hl 0 rfl) ?_
  refine lv_iload_n hx hb dL_stepAt_4 rfl (lv_at hl 1 rfl) ?_
  refine lv_iload_n hx hb dL_stepAt_5 rfl (lv_at hl 2 rfl) ?_
  refine lv_iload_n hx hb dL_stepAt_6 rfl (lv_at hl 3 rfl) ?_
  refine ct_V (As := [.int (nI j), .int b1, .int b2]) (rest := [.int (0 : Int32), .ref o]) ⟨hx, hb, hml, hown, hts⟩ (t_X1_stepAt_L l hst z s.heap hz D cI cJ cZ cG b P ad st j x b1 b2 hj hst1 k0 k1 hPB) (KZ_puK D cI cJ cZ cG z s.heap) hKX.1 (cwV 3 hts gL_stepAt_X1_stepAt rfl rfl rfl (by decide +kernel) ⟨Nat.le_of_ble_eq_true rfl, Nat.le_of_ble_eq_true rfl⟩) (va_recv hK hPB (ci := 1) (q0 := 0) rfl rfl) rfl hl.1 rfl (Nat.le_of_ble_eq_true rfl) dL_stepAt_7 ⟨Nat.le_of_ble_eq_true rfl, Nat.le_of_ble_eq_true rfl⟩ (name := xN) [] ⟨0, 12, 15, 13⟩ [⟨0, 12, 19, 15⟩] htab (fun _ h => nomatch h) (by decide) (by decide) (hts (.classLink RL 13 xN) (by decide +kernel)) (hKW.n 19 rfl rfl) (fun H1 q9 hz1 hk1 => ?_)
  have hP1 : va_P D vwCl (OW cI cJ cG o b P ad st f) H1 := hPO.kept (fun k9 x9 hx9 => hk1 x9.1 ((hPO k9 x9 hx9).lt))
  refine W.eq (g2 := F0 m 15 ls [.ref q9]) rfl ?_
  refine lv_astore (lv' := [(5, .ref q9), (0, .ref b), (1, .int (nI j)), (2, .int b1), (3, .int b2), (4, .ref o)]) hx hb dL_stepAt_15 hl (by decide) rfl (fun ls hl => ?_)
  refine lv_iconst (v := 1) hx hb dL_stepAt_17 (by decide) ?_
  exact W.iret (v := (1 : Int32)) hx hb hr (fun t ht hW => ⟨rfl, _, ⟨ad, f, rfl, fun h => absurd (show (1 : Int32) = 0 from h) (by decide)⟩, by rw [ht]; exact hP1, hD, by rw [ht]; exact hz1, fun q h1 _ => by rw [ht]; exact hk1 q h1⟩) (fun _ h => nomatch h) dL_stepAt_18
set_option maxHeartbeats 4000000 in
set_option maxRecDepth 100000 in
theorem l_stepAt_A (l : Launch) (hst : l.stackTraces = false) (z : Nat) (H0 : Heap) (hz : z ≤ H0.size) (D : va_G) (cI cJ cZ cG : ClassId) (b P : Nat) (ad : Nat → ga) (st : Nat → Option GS) (o : Nat) (f : Nat → Int64) (j : Nat) (x : GS) (b1 : Int32) (b2 : Int32) (hj : j < 12) (hst1 : st j = some x) (k0 : ¬ b1 < 0) (k1 : b1 < gC x) (n0 : ¬ b2 = 0) (n1 : ¬ b2 = 1) (n2 : ¬ b2 = 2) (hPO : va_P D vwCl (OW cI cJ cG o b P ad st f) H0) (hDO : va_D (fun _ => True) (OW cI cJ cG o b P ad st f)) : LC l yL_stepAt wsL_stepAt [Value.ref b, Value.int (nI j), Value.int b1, Value.int b2, Value.ref o] D cI cJ cZ cG z o b P ad st f H0 (2, st, 0) := by
  unfold LC
  refine va_MetW (y := yL_stepAt) (ws := wsL_stepAt) (cc := cL_stepAt) (maxL := 6) (ret := (some .int)) (by decide) rfl ?_
  intro p e s m args below meth c s₁ B hml hv
  obtain ⟨rfl, hH, hKX⟩ := hv
  have hx := B.exec
  have hb := B.bytes
  have hr := B.returns
  have hts := atoms_spec (ws := wsL_stepAt) B.pre
  have hown : s.vm.findClass RL = some m.cls := findClass_of_methodNamed B.named
  have hlocks := B.notSynchronized
  subst hH
  have hKW := hKX.1.1
  have hK := hKW.1
  have htab : c.exceptionTable.toList = [⟨0, 12, 15, 13⟩, ⟨0, 12, 19, 15⟩] := by rw [vx_table (x := yL_stepAt) B (hts _ List.mem_cons_self)]; rfl
  have hl := lv_entry ([Value.ref b, Value.int (nI j), Value.int b1, Value.int b2, Value.ref o]) (n := 6) (Nat.le_of_ble_eq_true rfl)
  rw [lg_entry_eq]
  generalize (lg_sl ([Value.ref b, Value.int (nI j), Value.int b1, Value.int b2, Value.ref o]) ++ List.replicate (6 - (lg_sl ([Value.ref b, Value.int (nI j), Value.int b1, Value.int b2, Value.ref o])).length) Slot.unset).toArray = ls at hl ⊢
  have hl : lv_has ls 6 [(0, .ref b), (1, .int (nI j)), (2, .int b1), (3, .int b2), (4, .ref o)] := hl
  have hPB : va_P D vwCl (BW cI cJ cG b P ad st) s.heap := wd_P.part hPO (fun _ h => List.mem_append_right _ h)
  have hD0 : va_D (fun _ => True) (BW cI cJ cG b P ad st) := wd_D.left (wd_D.perm hDO List.perm_append_comm)
  have hD := hDO.self (sz := s.heap.size)
  generalize hAe : va_A (OW cI cJ cG o b P ad st f) s.heap.size = A at hD ⊢
  have hA : ∀ q : Nat, s.heap.size ≤ q → A q := fun q h => by rw [← hAe]; exact Or.inr h
  have hS : va_S A s.heap s.heap [] := va_S.rf
  have hP := hPO
  refine lv_aload hx hb dL_stepAt_0 (lv_at hl 4 rfl) ?_
  refine lv_iconst (v := 0) hx hb dL_stepAt_2 (by decide) ?_
  refine lv_aload_n hx hb dL_stepAt_3 rfl (lv_at hl 0 rfl) ?_
  refine lv_iload_n hx hb dL_stepAt_4 rfl (lv_at hl 1 rfl) ?_
  refine lv_iload_n hx hb dL_stepAt_5 rfl (lv_at hl 2 rfl) ?_
  refine lv_iload_n hx hb dL_stepAt_6 rfl (lv_at hl 3 rfl) ?_
  refine ct_V (As := [.int (nI j), .int b1, .int b2]) (rest := [.int (0 : Int32), .ref o]) ⟨hx, hb, hml, hown, hts⟩ (t_X1_stepAt_A l hst z s.heap hz D cI cJ cZ cG b P ad st j x b1 b2 hj hst1 k0 k1 n0 n1 n2 hPB) (KZ_puK D cI cJ cZ cG z s.heap) hKX.1 (cwV 3 hts gL_stepAt_X1_stepAt rfl rfl rfl (by decide +kernel) ⟨Nat.le_of_ble_eq_true rfl, Nat.le_of_ble_eq_true rfl⟩) (va_recv hK hPB (ci := 1) (q0 := 0) rfl rfl) rfl hl.1 rfl (Nat.le_of_ble_eq_true rfl) dL_stepAt_7 ⟨Nat.le_of_ble_eq_true rfl, Nat.le_of_ble_eq_true rfl⟩ (name := xA) [⟨0, 12, 15, 13⟩] ⟨0, 12, 19, 15⟩ [] htab (List.forall_mem_cons.mpr ⟨Or.inr ⟨by decide, xN, hts (.classLink RL 13 xN) (by decide +kernel), hKX.2.1⟩, fun _ h => nomatch h⟩) (by decide) (by decide) (hts (.classLink RL 15 xA) (by decide +kernel)) (hKW.n 20 rfl rfl) (fun H1 q9 hz1 hk1 => ?_)
  have hP1 : va_P D vwCl (OW cI cJ cG o b P ad st f) H1 := hPO.kept (fun k9 x9 hx9 => hk1 x9.1 ((hPO k9 x9 hx9).lt))
  refine W.eq (g2 := F0 m 19 ls [.ref q9]) rfl ?_
  refine lv_astore (lv' := [(5, .ref q9), (0, .ref b), (1, .int (nI j)), (2, .int b1), (3, .int b2), (4, .ref o)]) hx hb dL_stepAt_19 hl (by decide) rfl (fun ls hl => ?_)
  refine lv_iconst (v := 2) hx hb dL_stepAt_21 (by decide) ?_
  exact W.iret (v := (2 : Int32)) hx hb hr (fun t ht hW => ⟨rfl, _, ⟨ad, f, rfl, fun h => absurd (show (2 : Int32) = 0 from h) (by decide)⟩, by rw [ht]; exact hP1, hD, by rw [ht]; exact hz1, fun q h1 _ => by rw [ht]; exact hk1 q h1⟩) (fun _ h => nomatch h) dL_stepAt_22
set_option maxHeartbeats 4000000 in
set_option maxRecDepth 100000 in
theorem l_stepAt_O (l : Launch) (hst : l.stackTraces = false) (z : Nat) (H0 : Heap) (hz : z ≤ H0.size) (D : va_G) (cI cJ cZ cG : ClassId) (b P : Nat) (ad : Nat → ga) (st : Nat → Option GS) (o : Nat) (f : Nat → Int64) (j : Nat) (x : GS) (b1 : Int32) (b2 : Int32) (hI : BI st) (hj : j < 12) (hst1 : st j = some x) (k0 : ¬ b1 < 0) (k1 : b1 < gC x) (hw : ¬ (¬ b2 = 0 ∧ ¬ b2 = 1 ∧ ¬ b2 = 2)) (hPO : va_P D vwCl (OW cI cJ cG o b P ad st f) H0) (hDO : va_D (fun _ => True) (OW cI cJ cG o b P ad st f)) : LC l yL_stepAt wsL_stepAt [Value.ref b, Value.int (nI j), Value.int b1, Value.int b2, Value.ref o] D cI cJ cZ cG z o b P ad st f H0 (0, st, (f_X1_stepAt x b1 b2).toInt64) := by
  unfold LC
  refine va_MetW (y := yL_stepAt) (ws := wsL_stepAt) (cc := cL_stepAt) (maxL := 6) (ret := (some .int)) (by decide) rfl ?_
  intro p e s m args below meth c s₁ B hml hv
  obtain ⟨rfl, hH, hKX⟩ := hv
  have hx := B.exec
  have hb := B.bytes
  have hr := B.returns
  have hts := atoms_spec (ws := wsL_stepAt) B.pre
  have hown : s.vm.findClass RL = some m.cls := findClass_of_methodNamed B.named
  have hlocks := B.notSynchronized
  subst hH
  have hKW := hKX.1.1
  have hK := hKW.1
  have htab : c.exceptionTable.toList = [⟨0, 12, 15, 13⟩, ⟨0, 12, 19, 15⟩] := by rw [vx_table (x := yL_stepAt) B (hts _ List.mem_cons_self)]; rfl
  have hl := lv_entry ([Value.ref b, Value.int (nI j), Value.int b1, Value.int b2, Value.ref o]) (n := 6) (Nat.le_of_ble_eq_true rfl)
  rw [lg_entry_eq]
  generalize (lg_sl ([Value.ref b, Value.int (nI j), Value.int b1, Value.int b2, Value.ref o]) ++ List.replicate (6 - (lg_sl ([Value.ref b, Value.int (nI j), Value.int b1, Value.int b2, Value.ref o])).length) Slot.unset).toArray = ls at hl ⊢
  have hl : lv_has ls 6 [(0, .ref b), (1, .int (nI j)), (2, .int b1), (3, .int b2), (4, .ref o)] := hl
  have hPB : va_P D vwCl (BW cI cJ cG b P ad st) s.heap := wd_P.part hPO (fun _ h => List.mem_append_right _ h)
  have hD0 : va_D (fun _ => True) (BW cI cJ cG b P ad st) := wd_D.left (wd_D.perm hDO List.perm_append_comm)
  have hD := hDO.self (sz := s.heap.size)
  generalize hAe : va_A (OW cI cJ cG o b P ad st f) s.heap.size = A at hD ⊢
  have hA : ∀ q : Nat, s.heap.size ≤ q → A q := fun q h => by rw [← hAe]; exact Or.inr h
  have hS : va_S A s.heap s.heap [] := va_S.rf
  have hP := hPO
  refine lv_aload hx hb dL_stepAt_0 (lv_at hl 4 rfl) ?_
  refine lv_iconst (v := 0) hx hb dL_stepAt_2 (by decide) ?_
  refine lv_aload_n hx hb dL_stepAt_3 rfl (lv_at hl 0 rfl) ?_
  refine lv_iload_n hx hb dL_stepAt_4 rfl (lv_at hl 1 rfl) ?_
  refine lv_iload_n hx hb dL_stepAt_5 rfl (lv_at hl 2 rfl) ?_
  refine lv_iload_n hx hb dL_stepAt_6 rfl (lv_at hl 3 rfl) ?_
  refine pu_V (As := [.int (nI j), .int b1, .int b2]) (rest := [.int (0 : Int32), .ref o]) ⟨hx, hb, hml, hown, hts⟩ (c_X1_stepAt l s.heap D cI cJ cZ cG b P ad st j x b1 b2 hj hst1 (hI j hj x hst1).1 k0 k1 hw hPB) (KW_puK D cI cJ cZ cG) hKW (cwV 3 hts gL_stepAt_X1_stepAt rfl rfl rfl (by decide +kernel) ⟨Nat.le_of_ble_eq_true rfl, Nat.le_of_ble_eq_true rfl⟩) (va_recv hK hPB (ci := 1) (q0 := 0) rfl rfl) rfl hl.1 rfl (Nat.le_of_ble_eq_true rfl) dL_stepAt_7 ⟨Nat.zero_le _, Nat.zero_le _⟩ ?_
  refine W.eq (g2 := F0 m 10 ls [.int (f_X1_stepAt x b1 b2), .int (0 : Int32), .ref o]) rfl ?_
  refine lv_i2l hx hb dL_stepAt_10 rfl ?_
  refine va_last (x := (f_X1_stepAt x b1 b2).toInt64) hx hb hK hP hD hS 0 1 rfl rfl (show vp_in (nI 0) 1 from vp_in_nI (by decide) (by decide)) dL_stepAt_11 (fun H locs hP hD hS => ?_)
  have hP : va_P D vwCl ([(o, .inl (cJ, 1, .inr (.inl (vp_updL f (0 : Int32).toNatClampNeg ((f_X1_stepAt x b1 b2).toInt64)))))] ++ BW cI cJ cG b P ad st) H := hP
  have hD : va_D A ([(o, .inl (cJ, 1, .inr (.inl (vp_updL f (0 : Int32).toNatClampNeg ((f_X1_stepAt x b1 b2).toInt64)))))] ++ BW cI cJ cG b P ad st) := hD
  refine lv_goto (tgt := 23) hx hb dL_stepAt_12 (by decide) ?_
  refine lv_iconst (v := 0) hx hb dL_stepAt_23 (by decide) ?_
  refine W.widen (k := 4) (n := 35) (Nat.le_of_ble_eq_true rfl) (Nat.le_of_ble_eq_true rfl) ?_
  exact W.iret (v := (0 : Int32)) hx hb hr (fun t ht hW => ⟨rfl, _, ⟨ad, _, rfl, fun _ => updL0 f _⟩, by rw [ht]; exact hP, hD, (hS.F ht).1, (hS.F ht).2⟩) hS.2.2 dL_stepAt_24
set_option maxHeartbeats 4000000 in
set_option maxRecDepth 100000 in
theorem l_rank_N (l : Launch) (hst : l.stackTraces = false) (z : Nat) (H0 : Heap) (hz : z ≤ H0.size) (D : va_G) (cI cJ cZ cG : ClassId) (b P : Nat) (ad : Nat → ga) (st : Nat → Option GS) (o : Nat) (f : Nat → Int64) (b0 : Int32) (hn : gat st b0 = none) (hPO : va_P D vwCl (OW cI cJ cG o b P ad st f) H0) (hDO : va_D (fun _ => True) (OW cI cJ cG o b P ad st f)) : LC l yL_rank wsL_rank [Value.ref b, Value.int b0, Value.ref o] D cI cJ cZ cG z o b P ad st f H0 (1, st, 0) := by
  unfold LC
  refine va_MetW (y := yL_rank) (ws := wsL_rank) (cc := cL_rank) (maxL := 4) (ret := (some .int)) (by decide) rfl ?_
  intro p e s m args below meth c s₁ B hml hv
  obtain ⟨rfl, hH, hKX⟩ := hv
  have hx := B.exec
  have hb := B.bytes
  have hr := B.returns
  have hts := atoms_spec (ws := wsL_rank) B.pre
  have hown : s.vm.findClass RL = some m.cls := findClass_of_methodNamed B.named
  have hlocks := B.notSynchronized
  subst hH
  have hKW := hKX.1.1
  have hK := hKW.1
  have htab : c.exceptionTable.toList = [⟨0, 9, 12, 13⟩] := by rw [vx_table (x := yL_rank) B (hts _ List.mem_cons_self)]; rfl
  have hl := lv_entry ([Value.ref b, Value.int b0, Value.ref o]) (n := 4) (Nat.le_of_ble_eq_true rfl)
  rw [lg_entry_eq]
  generalize (lg_sl ([Value.ref b, Value.int b0, Value.ref o]) ++ List.replicate (4 - (lg_sl ([Value.ref b, Value.int b0, Value.ref o])).length) Slot.unset).toArray = ls at hl ⊢
  have hl : lv_has ls 4 [(0, .ref b), (1, .int b0), (2, .ref o)] := hl
  have hPB : va_P D vwCl (BW cI cJ cG b P ad st) s.heap := wd_P.part hPO (fun _ h => List.mem_append_right _ h)
  have hD0 : va_D (fun _ => True) (BW cI cJ cG b P ad st) := wd_D.left (wd_D.perm hDO List.perm_append_comm)
  have hD := hDO.self (sz := s.heap.size)
  generalize hAe : va_A (OW cI cJ cG o b P ad st f) s.heap.size = A at hD ⊢
  have hA : ∀ q : Nat, s.heap.size ≤ q → A q := fun q h => by rw [← hAe]; exact Or.inr h
  have hS : va_S A s.heap s.heap [] := va_S.rf
  have hP := hPO
  refine lv_aload_n hx hb dL_rank_0 rfl (lv_at hl 2 rfl) ?_
  refine lv_iconst (v := 0) hx hb dL_rank_1 (by decide) ?_
  refine lv_aload_n hx hb dL_rank_2 rfl (lv_at hl 0 rfl) ?_
  refine lv_iload_n hx hb dL_rank_3 rfl (lv_at hl 1 rfl) ?_
  refine ct_V (As := [.int b0]) (rest := [.int (0 : Int32), .ref o]) ⟨hx, hb, hml, hown, hts⟩ (t_X1_rank l hst z s.heap hz D cI cJ cZ cG b P ad st b0  hn hPB) (KZ_puK D cI cJ cZ cG z s.heap) hKX.1 (cwV 1 hts gL_rank_X1_rank rfl rfl rfl (by decide +kernel) ⟨Nat.le_of_ble_eq_true rfl, Nat.le_of_ble_eq_true rfl⟩) (va_recv hK hPB (ci := 1) (q0 := 0) rfl rfl) rfl hl.1 rfl (Nat.le_of_ble_eq_true rfl) dL_rank_4 ⟨Nat.le_of_ble_eq_true rfl, Nat.le_of_ble_eq_true rfl⟩ (name := xN) [] ⟨0, 9, 12, 13⟩ [] htab (fun _ h => nomatch h) (by decide) (by decide) (hts (.classLink RL 13 xN) (by decide +kernel)) (hKW.n 19 rfl rfl) (fun H1 q9 hz1 hk1 => ?_)
  have hP1 : va_P D vwCl (OW cI cJ cG o b P ad st f) H1 := hPO.kept (fun k9 x9 hx9 => hk1 x9.1 ((hPO k9 x9 hx9).lt))
  refine W.eq (g2 := F0 m 12 ls [.ref q9]) rfl ?_
  refine lv_astore_n (lv' := [(3, .ref q9), (0, .ref b), (1, .int b0), (2, .ref o)]) hx hb dL_rank_12 rfl hl (by decide) rfl (fun ls hl => ?_)
  refine lv_iconst (v := 1) hx hb dL_rank_13 (by decide) ?_
  exact W.iret (v := (1 : Int32)) hx hb hr (fun t ht hW => ⟨rfl, _, ⟨ad, f, rfl, fun h => absurd (show (1 : Int32) = 0 from h) (by decide)⟩, by rw [ht]; exact hP1, hD, by rw [ht]; exact hz1, fun q h1 _ => by rw [ht]; exact hk1 q h1⟩) (fun _ h => nomatch h) dL_rank_14
set_option maxHeartbeats 4000000 in
set_option maxRecDepth 100000 in
theorem l_rank_O (l : Launch) (hst : l.stackTraces = false) (z : Nat) (H0 : Heap) (hz : z ≤ H0.size) (D : va_G) (cI cJ cZ cG : ClassId) (b P : Nat) (ad : Nat → ga) (st : Nat → Option GS) (o : Nat) (f : Nat → Int64) (j : Nat) (x : GS) (hj : j < 12) (hst1 : st j = some x) (hPO : va_P D vwCl (OW cI cJ cG o b P ad st f) H0) (hDO : va_D (fun _ => True) (OW cI cJ cG o b P ad st f)) : LC l yL_rank wsL_rank [Value.ref b, Value.int (nI j), Value.ref o] D cI cJ cZ cG z o b P ad st f H0 (0, st, (f_X1_rank st x).toInt64) := by
  unfold LC
  refine va_MetW (y := yL_rank) (ws := wsL_rank) (cc := cL_rank) (maxL := 4) (ret := (some .int)) (by decide) rfl ?_
  intro p e s m args below meth c s₁ B hml hv
  obtain ⟨rfl, hH, hKX⟩ := hv
  have hx := B.exec
  have hb := B.bytes
  have hr := B.returns
  have hts := atoms_spec (ws := wsL_rank) B.pre
  have hown : s.vm.findClass RL = some m.cls := findClass_of_methodNamed B.named
  have hlocks := B.notSynchronized
  subst hH
  have hKW := hKX.1.1
  have hK := hKW.1
  have htab : c.exceptionTable.toList = [⟨0, 9, 12, 13⟩] := by rw [vx_table (x := yL_rank) B (hts _ List.mem_cons_self)]; rfl
  have hl := lv_entry ([Value.ref b, Value.int (nI j), Value.ref o]) (n := 4) (Nat.le_of_ble_eq_true rfl)
  rw [lg_entry_eq]
  generalize (lg_sl ([Value.ref b, Value.int (nI j), Value.ref o]) ++ List.replicate (4 - (lg_sl ([Value.ref b, Value.int (nI j), Value.ref o])).length) Slot.unset).toArray = ls at hl ⊢
  have hl : lv_has ls 4 [(0, .ref b), (1, .int (nI j)), (2, .ref o)] := hl
  have hPB : va_P D vwCl (BW cI cJ cG b P ad st) s.heap := wd_P.part hPO (fun _ h => List.mem_append_right _ h)
  have hD0 : va_D (fun _ => True) (BW cI cJ cG b P ad st) := wd_D.left (wd_D.perm hDO List.perm_append_comm)
  have hD := hDO.self (sz := s.heap.size)
  generalize hAe : va_A (OW cI cJ cG o b P ad st f) s.heap.size = A at hD ⊢
  have hA : ∀ q : Nat, s.heap.size ≤ q → A q := fun q h => by rw [← hAe]; exact Or.inr h
  have hS : va_S A s.heap s.heap [] := va_S.rf
  have hP := hPO
  refine lv_aload_n hx hb dL_rank_0 rfl (lv_at hl 2 rfl) ?_
  refine lv_iconst (v := 0) hx hb dL_rank_1 (by decide) ?_
  refine lv_aload_n hx hb dL_rank_2 rfl (lv_at hl 0 rfl) ?_
  refine lv_iload_n hx hb dL_rank_3 rfl (lv_at hl 1 rfl) ?_
  refine pu_V (As := [.int (nI j)]) (rest := [.int (0 : Int32), .ref o]) ⟨hx, hb, hml, hown, hts⟩ (c_X1_rank l s.heap D cI cJ cZ cG b P ad st j x hj hst1 hPB) (KW_puK D cI cJ cZ cG) hKW (cwV 1 hts gL_rank_X1_rank rfl rfl rfl (by decide +kernel) ⟨Nat.le_of_ble_eq_true rfl, Nat.le_of_ble_eq_true rfl⟩) (va_recv hK hPB (ci := 1) (q0 := 0) rfl rfl) rfl hl.1 rfl (Nat.le_of_ble_eq_true rfl) dL_rank_4 ⟨Nat.zero_le _, Nat.zero_le _⟩ ?_
  refine W.eq (g2 := F0 m 7 ls [.int (f_X1_rank st x), .int (0 : Int32), .ref o]) rfl ?_
  refine lv_i2l hx hb dL_rank_7 rfl ?_
  refine va_last (x := (f_X1_rank st x).toInt64) hx hb hK hP hD hS 0 1 rfl rfl (show vp_in (nI 0) 1 from vp_in_nI (by decide) (by decide)) dL_rank_8 (fun H locs hP hD hS => ?_)
  have hP : va_P D vwCl ([(o, .inl (cJ, 1, .inr (.inl (vp_updL f (0 : Int32).toNatClampNeg ((f_X1_rank st x).toInt64)))))] ++ BW cI cJ cG b P ad st) H := hP
  have hD : va_D A ([(o, .inl (cJ, 1, .inr (.inl (vp_updL f (0 : Int32).toNatClampNeg ((f_X1_rank st x).toInt64)))))] ++ BW cI cJ cG b P ad st) := hD
  refine lv_goto (tgt := 15) hx hb dL_rank_9 (by decide) ?_
  refine lv_iconst (v := 0) hx hb dL_rank_15 (by decide) ?_
  refine W.widen (k := 4) (n := 35) (Nat.le_of_ble_eq_true rfl) (Nat.le_of_ble_eq_true rfl) ?_
  exact W.iret (v := (0 : Int32)) hx hb hr (fun t ht hW => ⟨rfl, _, ⟨ad, _, rfl, fun _ => updL0 f _⟩, by rw [ht]; exact hP, hD, (hS.F ht).1, (hS.F ht).2⟩) hS.2.2 dL_rank_16
set_option maxHeartbeats 4000000 in
set_option maxRecDepth 100000 in
theorem l_most_A (l : Launch) (hst : l.stackTraces = false) (z : Nat) (H0 : Heap) (hz : z ≤ H0.size) (D : va_G) (cI cJ cZ cG : ClassId) (b P : Nat) (ad : Nat → ga) (st : Nat → Option GS) (o : Nat) (f : Nat → Int64) (b0 b1 : Int32) (hno : e_X1_needKind b0 = 2) (hPO : va_P D vwCl (OW cI cJ cG o b P ad st f) H0) (hDO : va_D (fun _ => True) (OW cI cJ cG o b P ad st f)) : LC l yL_most wsL_most [Value.ref b, Value.int b0, Value.int b1, Value.ref o] D cI cJ cZ cG z o b P ad st f H0 (1, st, 0) := by
  unfold LC
  refine va_MetW (y := yL_most) (ws := wsL_most) (cc := cL_most) (maxL := 5) (ret := (some .int)) (by decide) rfl ?_
  intro p e s m args below meth c s₁ B hml hv
  obtain ⟨rfl, hH, hKX⟩ := hv
  have hx := B.exec
  have hb := B.bytes
  have hr := B.returns
  have hts := atoms_spec (ws := wsL_most) B.pre
  have hown : s.vm.findClass RL = some m.cls := findClass_of_methodNamed B.named
  have hlocks := B.notSynchronized
  subst hH
  have hKW := hKX.1.1
  have hK := hKW.1
  have htab : c.exceptionTable.toList = [⟨0, 9, 12, 15⟩, ⟨0, 9, 16, 17⟩] := by rw [vx_table (x := yL_most) B (hts _ List.mem_cons_self)]; rfl
  have hl := lv_entry ([Value.ref b, Value.int b0, Value.int b1, Value.ref o]) (n := 5) (Nat.le_of_ble_eq_true rfl)
  rw [lg_entry_eq]
  generalize (lg_sl ([Value.ref b, Value.int b0, Value.int b1, Value.ref o]) ++ List.replicate (5 - (lg_sl ([Value.ref b, Value.int b0, Value.int b1, Value.ref o])).length) Slot.unset).toArray = ls at hl ⊢
  have hl : lv_has ls 5 [(0, .ref b), (1, .int b0), (2, .int b1), (3, .ref o)] := hl
  have hPB : va_P D vwCl (BW cI cJ cG b P ad st) s.heap := wd_P.part hPO (fun _ h => List.mem_append_right _ h)
  have hD0 : va_D (fun _ => True) (BW cI cJ cG b P ad st) := wd_D.left (wd_D.perm hDO List.perm_append_comm)
  have hD := hDO.self (sz := s.heap.size)
  generalize hAe : va_A (OW cI cJ cG o b P ad st f) s.heap.size = A at hD ⊢
  have hA : ∀ q : Nat, s.heap.size ≤ q → A q := fun q h => by rw [← hAe]; exact Or.inr h
  have hS : va_S A s.heap s.heap [] := va_S.rf
  have hP := hPO
  refine lv_aload_n hx hb dL_most_0 rfl (lv_at hl 3 rfl) ?_
  refine lv_iconst (v := 0) hx hb dL_most_1 (by decide) ?_
  refine lv_aload_n hx hb dL_most_2 rfl (lv_at hl 0 rfl) ?_
  refine lv_iload_n hx hb dL_most_3 rfl (lv_at hl 1 rfl) ?_
  refine lv_iload_n hx hb dL_most_4 rfl (lv_at hl 2 rfl) ?_
  refine ct_V (As := [.int b0, .int b1]) (rest := [.int (0 : Int32), .ref o]) ⟨hx, hb, hml, hown, hts⟩ (t_X1_most_A l hst z s.heap hz D cI cJ cZ cG b P ad st b0 b1 hno hPB) (KZ_puK D cI cJ cZ cG z s.heap) hKX.1 (cwV 2 hts gL_most_X1_most rfl rfl rfl (by decide +kernel) ⟨Nat.le_of_ble_eq_true rfl, Nat.le_of_ble_eq_true rfl⟩) (va_recv hK hPB (ci := 1) (q0 := 0) rfl rfl) rfl hl.1 rfl (Nat.le_of_ble_eq_true rfl) dL_most_5 ⟨Nat.le_of_ble_eq_true rfl, Nat.le_of_ble_eq_true rfl⟩ (name := xA) [] ⟨0, 9, 12, 15⟩ [⟨0, 9, 16, 17⟩] htab (fun _ h => nomatch h) (by decide) (by decide) (hts (.classLink RL 15 xA) (by decide +kernel)) (hKW.n 20 rfl rfl) (fun H1 q9 hz1 hk1 => ?_)
  have hP1 : va_P D vwCl (OW cI cJ cG o b P ad st f) H1 := hPO.kept (fun k9 x9 hx9 => hk1 x9.1 ((hPO k9 x9 hx9).lt))
  refine W.eq (g2 := F0 m 12 ls [.ref q9]) rfl ?_
  refine lv_astore (lv' := [(4, .ref q9), (0, .ref b), (1, .int b0), (2, .int b1), (3, .ref o)]) hx hb dL_most_12 hl (by decide) rfl (fun ls hl => ?_)
  refine lv_iconst (v := 1) hx hb dL_most_14 (by decide) ?_
  exact W.iret (v := (1 : Int32)) hx hb hr (fun t ht hW => ⟨rfl, _, ⟨ad, f, rfl, fun h => absurd (show (1 : Int32) = 0 from h) (by decide)⟩, by rw [ht]; exact hP1, hD, by rw [ht]; exact hz1, fun q h1 _ => by rw [ht]; exact hk1 q h1⟩) (fun _ h => nomatch h) dL_most_15
set_option maxHeartbeats 4000000 in
set_option maxRecDepth 100000 in
theorem l_most_S (l : Launch) (hst : l.stackTraces = false) (z : Nat) (H0 : Heap) (hz : z ≤ H0.size) (D : va_G) (cI cJ cZ cG : ClassId) (b P : Nat) (ad : Nat → ga) (st : Nat → Option GS) (o : Nat) (f : Nat → Int64) (b0 b1 : Int32) (hok : e_X1_needKind b0 = 0) (hq : mostL st b0 b1 13 none 0 = none) (hPO : va_P D vwCl (OW cI cJ cG o b P ad st f) H0) (hDO : va_D (fun _ => True) (OW cI cJ cG o b P ad st f)) : LC l yL_most wsL_most [Value.ref b, Value.int b0, Value.int b1, Value.ref o] D cI cJ cZ cG z o b P ad st f H0 (2, st, 0) := by
  unfold LC
  refine va_MetW (y := yL_most) (ws := wsL_most) (cc := cL_most) (maxL := 5) (ret := (some .int)) (by decide) rfl ?_
  intro p e s m args below meth c s₁ B hml hv
  obtain ⟨rfl, hH, hKX⟩ := hv
  have hx := B.exec
  have hb := B.bytes
  have hr := B.returns
  have hts := atoms_spec (ws := wsL_most) B.pre
  have hown : s.vm.findClass RL = some m.cls := findClass_of_methodNamed B.named
  have hlocks := B.notSynchronized
  subst hH
  have hKW := hKX.1.1
  have hK := hKW.1
  have htab : c.exceptionTable.toList = [⟨0, 9, 12, 15⟩, ⟨0, 9, 16, 17⟩] := by rw [vx_table (x := yL_most) B (hts _ List.mem_cons_self)]; rfl
  have hl := lv_entry ([Value.ref b, Value.int b0, Value.int b1, Value.ref o]) (n := 5) (Nat.le_of_ble_eq_true rfl)
  rw [lg_entry_eq]
  generalize (lg_sl ([Value.ref b, Value.int b0, Value.int b1, Value.ref o]) ++ List.replicate (5 - (lg_sl ([Value.ref b, Value.int b0, Value.int b1, Value.ref o])).length) Slot.unset).toArray = ls at hl ⊢
  have hl : lv_has ls 5 [(0, .ref b), (1, .int b0), (2, .int b1), (3, .ref o)] := hl
  have hPB : va_P D vwCl (BW cI cJ cG b P ad st) s.heap := wd_P.part hPO (fun _ h => List.mem_append_right _ h)
  have hD0 : va_D (fun _ => True) (BW cI cJ cG b P ad st) := wd_D.left (wd_D.perm hDO List.perm_append_comm)
  have hD := hDO.self (sz := s.heap.size)
  generalize hAe : va_A (OW cI cJ cG o b P ad st f) s.heap.size = A at hD ⊢
  have hA : ∀ q : Nat, s.heap.size ≤ q → A q := fun q h => by rw [← hAe]; exact Or.inr h
  have hS : va_S A s.heap s.heap [] := va_S.rf
  have hP := hPO
  refine lv_aload_n hx hb dL_most_0 rfl (lv_at hl 3 rfl) ?_
  refine lv_iconst (v := 0) hx hb dL_most_1 (by decide) ?_
  refine lv_aload_n hx hb dL_most_2 rfl (lv_at hl 0 rfl) ?_
  refine lv_iload_n hx hb dL_most_3 rfl (lv_at hl 1 rfl) ?_
  refine lv_iload_n hx hb dL_most_4 rfl (lv_at hl 2 rfl) ?_
  refine ct_V (As := [.int b0, .int b1]) (rest := [.int (0 : Int32), .ref o]) ⟨hx, hb, hml, hown, hts⟩ (t_X1_most_S l hst z s.heap hz D cI cJ cZ cG b P ad st b0 b1 hok hq hPB) (KZ_puK D cI cJ cZ cG z s.heap) hKX.1 (cwV 2 hts gL_most_X1_most rfl rfl rfl (by decide +kernel) ⟨Nat.le_of_ble_eq_true rfl, Nat.le_of_ble_eq_true rfl⟩) (va_recv hK hPB (ci := 1) (q0 := 0) rfl rfl) rfl hl.1 rfl (Nat.le_of_ble_eq_true rfl) dL_most_5 ⟨Nat.le_of_ble_eq_true rfl, Nat.le_of_ble_eq_true rfl⟩ (name := xS) [⟨0, 9, 12, 15⟩] ⟨0, 9, 16, 17⟩ [] htab (List.forall_mem_cons.mpr ⟨Or.inr ⟨by decide, xA, hts (.classLink RL 15 xA) (by decide +kernel), hKX.2.2.2⟩, fun _ h => nomatch h⟩) (by decide) (by decide) (hts (.classLink RL 17 xS) (by decide +kernel)) (hKW.n 21 rfl rfl) (fun H1 q9 hz1 hk1 => ?_)
  have hP1 : va_P D vwCl (OW cI cJ cG o b P ad st f) H1 := hPO.kept (fun k9 x9 hx9 => hk1 x9.1 ((hPO k9 x9 hx9).lt))
  refine W.eq (g2 := F0 m 16 ls [.ref q9]) rfl ?_
  refine lv_astore (lv' := [(4, .ref q9), (0, .ref b), (1, .int b0), (2, .int b1), (3, .ref o)]) hx hb dL_most_16 hl (by decide) rfl (fun ls hl => ?_)
  refine lv_iconst (v := 2) hx hb dL_most_18 (by decide) ?_
  exact W.iret (v := (2 : Int32)) hx hb hr (fun t ht hW => ⟨rfl, _, ⟨ad, f, rfl, fun h => absurd (show (2 : Int32) = 0 from h) (by decide)⟩, by rw [ht]; exact hP1, hD, by rw [ht]; exact hz1, fun q h1 _ => by rw [ht]; exact hk1 q h1⟩) (fun _ h => nomatch h) dL_most_19
set_option maxHeartbeats 4000000 in
set_option maxRecDepth 100000 in
theorem l_most_O (l : Launch) (hst : l.stackTraces = false) (z : Nat) (H0 : Heap) (hz : z ≤ H0.size) (D : va_G) (cI cJ cZ cG : ClassId) (b P : Nat) (ad : Nat → ga) (st : Nat → Option GS) (o : Nat) (f : Nat → Int64) (b0 b1 : Int32) (q : Nat × GS) (hok : e_X1_needKind b0 = 0) (hq : mostL st b0 b1 13 none 0 = some q) (hPO : va_P D vwCl (OW cI cJ cG o b P ad st f) H0) (hDO : va_D (fun _ => True) (OW cI cJ cG o b P ad st f)) : LC l yL_most wsL_most [Value.ref b, Value.int b0, Value.int b1, Value.ref o] D cI cJ cZ cG z o b P ad st f H0 (0, st, gV q.2) := by
  unfold LC
  refine va_MetW (y := yL_most) (ws := wsL_most) (cc := cL_most) (maxL := 5) (ret := (some .int)) (by decide) rfl ?_
  intro p e s m args below meth c s₁ B hml hv
  obtain ⟨rfl, hH, hKX⟩ := hv
  have hx := B.exec
  have hb := B.bytes
  have hr := B.returns
  have hts := atoms_spec (ws := wsL_most) B.pre
  have hown : s.vm.findClass RL = some m.cls := findClass_of_methodNamed B.named
  have hlocks := B.notSynchronized
  subst hH
  have hKW := hKX.1.1
  have hK := hKW.1
  have htab : c.exceptionTable.toList = [⟨0, 9, 12, 15⟩, ⟨0, 9, 16, 17⟩] := by rw [vx_table (x := yL_most) B (hts _ List.mem_cons_self)]; rfl
  have hl := lv_entry ([Value.ref b, Value.int b0, Value.int b1, Value.ref o]) (n := 5) (Nat.le_of_ble_eq_true rfl)
  rw [lg_entry_eq]
  generalize (lg_sl ([Value.ref b, Value.int b0, Value.int b1, Value.ref o]) ++ List.replicate (5 - (lg_sl ([Value.ref b, Value.int b0, Value.int b1, Value.ref o])).length) Slot.unset).toArray = ls at hl ⊢
  have hl : lv_has ls 5 [(0, .ref b), (1, .int b0), (2, .int b1), (3, .ref o)] := hl
  have hPB : va_P D vwCl (BW cI cJ cG b P ad st) s.heap := wd_P.part hPO (fun _ h => List.mem_append_right _ h)
  have hD0 : va_D (fun _ => True) (BW cI cJ cG b P ad st) := wd_D.left (wd_D.perm hDO List.perm_append_comm)
  have hD := hDO.self (sz := s.heap.size)
  generalize hAe : va_A (OW cI cJ cG o b P ad st f) s.heap.size = A at hD ⊢
  have hA : ∀ q : Nat, s.heap.size ≤ q → A q := fun q h => by rw [← hAe]; exact Or.inr h
  have hS : va_S A s.heap s.heap [] := va_S.rf
  have hP := hPO
  refine lv_aload_n hx hb dL_most_0 rfl (lv_at hl 3 rfl) ?_
  refine lv_iconst (v := 0) hx hb dL_most_1 (by decide) ?_
  refine lv_aload_n hx hb dL_most_2 rfl (lv_at hl 0 rfl) ?_
  refine lv_iload_n hx hb dL_most_3 rfl (lv_at hl 1 rfl) ?_
  refine lv_iload_n hx hb dL_most_4 rfl (lv_at hl 2 rfl) ?_
  refine pu_V (As := [.int b0, .int b1]) (rest := [.int (0 : Int32), .ref o]) ⟨hx, hb, hml, hown, hts⟩ (c_X1_most l s.heap D cI cJ cZ cG b P ad st b0 b1 q hok hq hPB) (KW_puK D cI cJ cZ cG) hKW (cwV 2 hts gL_most_X1_most rfl rfl rfl (by decide +kernel) ⟨Nat.le_of_ble_eq_true rfl, Nat.le_of_ble_eq_true rfl⟩) (va_recv hK hPB (ci := 1) (q0 := 0) rfl rfl) rfl hl.1 rfl (Nat.le_of_ble_eq_true rfl) dL_most_5 ⟨Nat.zero_le _, Nat.zero_le _⟩ ?_
  refine W.eq (g2 := F0 m 8 ls [.long (gV q.2), .int (0 : Int32), .ref o]) rfl ?_
  refine va_last (x := gV q.2) hx hb hK hP hD hS 0 1 rfl rfl (show vp_in (nI 0) 1 from vp_in_nI (by decide) (by decide)) dL_most_8 (fun H locs hP hD hS => ?_)
  have hP : va_P D vwCl ([(o, .inl (cJ, 1, .inr (.inl (vp_updL f (0 : Int32).toNatClampNeg (gV q.2)))))] ++ BW cI cJ cG b P ad st) H := hP
  have hD : va_D A ([(o, .inl (cJ, 1, .inr (.inl (vp_updL f (0 : Int32).toNatClampNeg (gV q.2)))))] ++ BW cI cJ cG b P ad st) := hD
  refine lv_goto (tgt := 20) hx hb dL_most_9 (by decide) ?_
  refine lv_iconst (v := 0) hx hb dL_most_20 (by decide) ?_
  refine W.widen (k := 4) (n := 35) (Nat.le_of_ble_eq_true rfl) (Nat.le_of_ble_eq_true rfl) ?_
  exact W.iret (v := (0 : Int32)) hx hb hr (fun t ht hW => ⟨rfl, _, ⟨ad, _, rfl, fun _ => updL0 f _⟩, by rw [ht]; exact hP, hD, (hS.F ht).1, (hS.F ht).2⟩) hS.2.2 dL_most_21
