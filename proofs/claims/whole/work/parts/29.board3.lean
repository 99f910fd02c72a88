/-! about, stepAt, most, fit -/
/-- the board's cells when a gauge has come to place j -/
theorem BW_new {cI cJ cG : ClassId} {b P : Nat} {ad : Nat → ga} {st : Nat → Option GS} {j : Nat} {y : GS} {q : ga} (hj : j < 12) (hn : st j = none) : (GZ cI cJ q y ++ (BB cG b P (va_up (pl ad st) j (some q.1)) ++ BG cI cJ ad st 12)).Perm (BW cI cJ cG b P (va_up ad j q) (va_up st j (some y))) := by
  have h := BW_perm (cI := cI) (cJ := cJ) (cG := cG) (b := b) (P := P) (ad := va_up ad j q) (st := va_up st j (some y)) (i := j) (x := y) hj (by simp [va_up])
  have e1 : va_up ad j q j = q := by simp [va_up]
  have e2 : pl (va_up ad j q) (va_up st j (some y)) = va_up (pl ad st) j (some q.1) := by
    funext i
    by_cases e : i = j
    · subst e; simp [pl, va_up]
    · simp [pl, va_up_ne _ _ e]
  have e3 : BG cI cJ (va_up ad j q) (va_up (va_up st j (some y)) j none) 12 = BG cI cJ ad st 12 := by
    rw [bx_uu]
    refine BG_congr 12 (fun i hi => ?_)
    by_cases e : i = j
    · subst e; rw [hn]; simp [va_up, gz]
    · rw [va_up_ne _ _ e, va_up_ne _ _ e]
  rw [e1, e2, e3] at h
  exact h.symm
theorem perm_last {α : Type} (X R : List α) (c : α) : ((X ++ R) ++ [c]).Perm (c :: (X ++ R)) := List.perm_append_comm
set_option maxHeartbeats 4000000 in
set_option maxRecDepth 100000 in
theorem t_X1_about_N (l : Launch) (hst : l.stackTraces = false) (z : Nat) (H0 : Heap) (hz : z ≤ H0.size) (D : va_G) (cI cJ cZ cG : ClassId) (b P : Nat) (ad : Nat → ga) (st : Nat → Option GS) (b0 : Int32) (b1 : Int32) (hn : gat st b0 = none) (hPB : va_P D vwCl (BW cI cJ cG b P ad st) H0) : th l yX1_about wsX1_about ({ frames := 7, cells := 1, slots := 6, locals := 104 }) [Value.ref b, Value.int b0, Value.int b1] (KZ D cI cJ cZ cG z H0) H0 "java/util/NoSuchElementException" := by
  refine vx_ofW (cc := cX1_about) (maxL := 4) (ret := (some .int)) (by decide) rfl ?_
  intro p e s m args below meth c s₁ B hml hex hv
  obtain ⟨rfl, hH, hKZ⟩ := hv
  have hx := B.exec
  have hb := B.bytes
  have hr := B.returns
  have hts := atoms_spec (ws := wsX1_about) B.pre
  have hown : s.vm.findClass RX1 = some m.cls := findClass_of_methodNamed B.named
  have hlocks := B.notSynchronized
  subst hH
  have hKW := hKZ.1
  have hK := hKW.1
  have hl := lv_entry ([Value.ref b, Value.int b0, Value.int b1]) (n := 4) (Nat.le_of_ble_eq_true rfl)
  rw [lg_entry_eq]
  generalize (lg_sl ([Value.ref b, Value.int b0, Value.int b1]) ++ List.replicate (4 - (lg_sl ([Value.ref b, Value.int b0, Value.int b1])).length) Slot.unset).toArray = ls at hl ⊢
  have hl : lv_has ls 4 [(0, .ref b), (1, .int b0), (2, .int b1)] := hl
  have hB : va_P D vwCl [(b, .inr (1, [.ref P])), (P, .inl (cG, 12, .inr (.inr (.inr (.inr (pl ad st))))))] s.heap := BW_board hPB
  refine lv_aload_n hx hb dX1_about_0 rfl (lv_at hl 0 rfl) ?_
  refine lv_iload_n hx hb dX1_about_1 rfl (lv_at hl 1 rfl) ?_
  exact th_V (As := [.int b0]) (rest := []) ⟨hx, hb, hml, hown, hts⟩ (t_X1_needGauge l hst z s.heap hz D cI cJ cZ cG b P ad st b0 hn hPB) (KZ_puK D cI cJ cZ cG z s.heap) hKZ (cwV 1 hts gX1_about_X1_needGauge rfl rfl rfl (by decide +kernel) ⟨Nat.le_of_ble_eq_true rfl, Nat.le_of_ble_eq_true rfl⟩) (va_recv hK hB (ci := 1) (q0 := 0) rfl rfl) rfl hl.1 rfl (Nat.le_of_ble_eq_true rfl) dX1_about_2 ⟨Nat.le_of_ble_eq_true rfl, Nat.le_of_ble_eq_true rfl⟩ hex hlocks
set_option maxHeartbeats 4000000 in
set_option maxRecDepth 100000 in
theorem t_X1_about_A (l : Launch) (hst : l.stackTraces = false) (z : Nat) (H0 : Heap) (hz : z ≤ H0.size) (D : va_G) (cI cJ cZ cG : ClassId) (b P : Nat) (ad : Nat → ga) (st : Nat → Option GS) (j : Nat) (x : GS) (b1 : Int32) (hj : j < 12) (hst1 : st j = some x) (n0 : ¬ b1 = 0) (n1 : ¬ b1 = 1) (n2 : ¬ b1 = 2) (n3 : ¬ b1 = 3) (n4 : ¬ b1 = 4) (n5 : ¬ b1 = 5) (hPB : va_P D vwCl (BW cI cJ cG b P ad st) H0) : th l yX1_about wsX1_about ({ frames := 7, cells := 1, slots := 6, locals := 104 }) [Value.ref b, Value.int (nI j), Value.int b1] (KZ D cI cJ cZ cG z H0) H0 "java/lang/IllegalArgumentException" := by
  refine vx_ofW (cc := cX1_about) (maxL := 4) (ret := (some .int)) (by decide) rfl ?_
  intro p e s m args below meth c s₁ B hml hex hv
  obtain ⟨rfl, hH, hKZ⟩ := hv
  have hx := B.exec
  have hb := B.bytes
  have hr := B.returns
  have hts := atoms_spec (ws := wsX1_about) B.pre
  have hown : s.vm.findClass RX1 = some m.cls := findClass_of_methodNamed B.named
  have hlocks := B.notSynchronized
  subst hH
  have hKW := hKZ.1
  have hK := hKW.1
  have hl := lv_entry ([Value.ref b, Value.int (nI j), Value.int b1]) (n := 4) (Nat.le_of_ble_eq_true rfl)
  rw [lg_entry_eq]
  generalize (lg_sl ([Value.ref b, Value.int (nI j), Value.int b1]) ++ List.replicate (4 - (lg_sl ([Value.ref b, Value.int (nI j), Value.int b1])).length) Slot.unset).toArray = ls at hl ⊢
  have hl : lv_has ls 4 [(0, .ref b), (1, .int (nI j)), (2, .int b1)] := hl
  have hB : va_P D vwCl [(b, .inr (1, [.ref P])), (P, .inl (cG, 12, .inr (.inr (.inr (.inr (pl ad st))))))] s.heap := BW_board hPB
  have hg : va_P D vwCl [((ad j).1, .inr (0, [.ref ((ad j).2.1), .ref ((ad j).2.2.1), .ref ((ad j).2.2.2), .int (gK x), .int (gC x), .long (gV x), .int (gM x), .long (gH x), .long (gL x), .int (gR x), .int (gW x)])), ((ad j).2.1, .inl (cI, 8, .inl (gSo x))), ((ad j).2.2.1, .inl (cI, 8, .inl (gSr x))), ((ad j).2.2.2, .inl (cJ, 8, .inr (.inl (gOp x))))] s.heap := BW_gauge hPB hj hst1
  refine lv_aload_n hx hb dX1_about_0 rfl (lv_at hl 0 rfl) ?_
  refine lv_iload_n hx hb dX1_about_1 rfl (lv_at hl 1 rfl) ?_
  refine pu_V (As := [.int (nI j)]) (rest := []) ⟨hx, hb, hml, hown, hts⟩ (c_X1_needGauge l s.heap D cI cJ cZ cG b P ad st j x hj hst1 hPB) (KW_puK D cI cJ cZ cG) hKW (cwV 1 hts gX1_about_X1_needGauge rfl rfl rfl (by decide +kernel) ⟨Nat.le_of_ble_eq_true rfl, Nat.le_of_ble_eq_true rfl⟩) (va_recv hK hB (ci := 1) (q0 := 0) rfl rfl) rfl hl.1 rfl (Nat.le_of_ble_eq_true rfl) dX1_about_2 ⟨Nat.zero_le _, Nat.zero_le _⟩ ?_
  refine W.eq (g2 := F0 m 5 ls [.ref ((ad j).1)]) rfl ?_
  refine lv_astore_n (lv' := [(3, .ref ((ad j).1)), (0, .ref b), (1, .int (nI j)), (2, .int b1)]) hx hb dX1_about_5 rfl hl (by decide) rfl (fun ls hl => ?_)
  refine lv_iload_n hx hb dX1_about_6 rfl (lv_at hl 3 rfl) ?_
  have h_sw : b1.toInt < 0 ∨ 5 < b1.toInt := by
    have n0 := lv_neT (k := 0) (a := 0) n0 (by decide)
    have n1 := lv_neT (k := 1) (a := 1) n1 (by decide)
    have n2 := lv_neT (k := 2) (a := 2) n2 (by decide)
    have n3 := lv_neT (k := 3) (a := 3) n3 (by decide)
    have n4 := lv_neT (k := 4) (a := 4) n4 (by decide)
    have n5 := lv_neT (k := 5) (a := 5) n5 (by decide)
    omega
  refine lv_tableOut (tgt := 78) hx hb dX1_about_7 h_sw (by decide) ?_
  exact thr_A (text := "a gauge has nothing of this number") hx hb hst hown hts hKZ hz (List.mem_of_getElem? (i := 12) rfl) (by decide +kernel) (by decide +kernel) (fun w h9 => List.mem_cons_of_mem _ (List.mem_append_left _ (List.mem_append_right _ h9))) (by rw [hml]; exact hl.1) dX1_about_78 dX1_about_81 dX1_about_82 dX1_about_84 dX1_about_87 hex (Nat.le_of_ble_eq_true rfl) (Nat.le_of_ble_eq_true rfl) (Nat.le_of_ble_eq_true rfl) (Nat.le_of_ble_eq_true rfl) hlocks
def f_X1_about (st : Nat → Option GS) (x : GS) (j : Nat) (b1 : Int32) : Int32 := (if b1 = 0 then gK x else (if b1 = 1 then gC x else (if b1 = 2 then gR x else (if b1 = 3 then gW x else (if b1 = 4 then f_X1_signOf (gV x) else (if b1 = 5 then f_X1_stepsTaking st (nI j) else 0))))))
set_option maxHeartbeats 4000000 in
set_option maxRecDepth 100000 in
theorem c_X1_about (l : Launch) (H0 : Heap) (D : va_G) (cI cJ cZ cG : ClassId) (b P : Nat) (ad : Nat → ga) (st : Nat → Option GS) (j : Nat) (x : GS) (b1 : Int32) (hI : BI st) (hj : j < 12) (hst1 : st j = some x) (hw : ¬ (¬ b1 = 0 ∧ ¬ b1 = 1 ∧ ¬ b1 = 2 ∧ ¬ b1 = 3 ∧ ¬ b1 = 4 ∧ ¬ b1 = 5)) (hPB : va_P D vwCl (BW cI cJ cG b P ad st) H0) : pu l yX1_about wsX1_about ({ frames := 3, cells := 0, slots := 0, locals := 63 }) [Value.ref b, Value.int (nI j), Value.int b1] (KW D cI cJ cZ cG) H0 (some (.int (f_X1_about st x j b1))) := by
  refine Met.ofW (cc := cX1_about) (maxL := 4) (ret := (some .int)) (by decide) rfl ?_
  intro p e s m args below meth c s₁ B hml hv
  obtain ⟨rfl, hH, hKW⟩ := hv
  have hx := B.exec
  have hb := B.bytes
  have hr := B.returns
  have hts := atoms_spec (ws := wsX1_about) B.pre
  have hown : s.vm.findClass RX1 = some m.cls := findClass_of_methodNamed B.named
  have hlocks := B.notSynchronized
  subst hH
  have hK := hKW.1
  have hl := lv_entry ([Value.ref b, Value.int (nI j), Value.int b1]) (n := 4) (Nat.le_of_ble_eq_true rfl)
  rw [lg_entry_eq]
  generalize (lg_sl ([Value.ref b, Value.int (nI j), Value.int b1]) ++ List.replicate (4 - (lg_sl ([Value.ref b, Value.int (nI j), Value.int b1])).length) Slot.unset).toArray = ls at hl ⊢
  have hl : lv_has ls 4 [(0, .ref b), (1, .int (nI j)), (2, .int b1)] := hl
  have hinX0 : ∀ w ∈ u_ws RX0 TX0 11, w ∈ wsX1_about := by decide +kernel
  have hB : va_P D vwCl [(b, .inr (1, [.ref P])), (P, .inl (cG, 12, .inr (.inr (.inr (.inr (pl ad st))))))] s.heap := BW_board hPB
  have hg : va_P D vwCl [((ad j).1, .inr (0, [.ref ((ad j).2.1), .ref ((ad j).2.2.1), .ref ((ad j).2.2.2), .int (gK x), .int (gC x), .long (gV x), .int (gM x), .long (gH x), .long (gL x), .int (gR x), .int (gW x)])), ((ad j).2.1, .inl (cI, 8, .inl (gSo x))), ((ad j).2.2.1, .inl (cI, 8, .inl (gSr x))), ((ad j).2.2.2, .inl (cJ, 8, .inr (.inl (gOp x))))] s.heap := BW_gauge hPB hj hst1
  refine lv_aload_n hx hb dX1_about_0 rfl (lv_at hl 0 rfl) ?_
  refine lv_iload_n hx hb dX1_about_1 rfl (lv_at hl 1 rfl) ?_
  refine pu_V (As := [.int (nI j)]) (rest := []) ⟨hx, hb, hml, hown, hts⟩ (c_X1_needGauge l s.heap D cI cJ cZ cG b P ad st j x hj hst1 hPB) (KW_puK D cI cJ cZ cG) hKW (cwV 1 hts gX1_about_X1_needGauge rfl rfl rfl (by decide +kernel) ⟨Nat.le_of_ble_eq_true rfl, Nat.le_of_ble_eq_true rfl⟩) (va_recv hK hB (ci := 1) (q0 := 0) rfl rfl) rfl hl.1 rfl (Nat.le_of_ble_eq_true rfl) dX1_about_2 ⟨Nat.zero_le _, Nat.zero_le _⟩ ?_
  refine W.eq (g2 := F0 m 5 ls [.ref ((ad j).1)]) rfl ?_
  refine lv_astore_n (lv' := [(3, .ref ((ad j).1)), (0, .ref b), (1, .int (nI j)), (2, .int b1)]) hx hb dX1_about_5 rfl hl (by decide) rfl (fun ls hl => ?_)
  refine lv_iload_n hx hb dX1_about_6 rfl (lv_at hl 3 rfl) ?_
  by_cases c_1 : b1 = 0
  · refine lv_tableIn (off := 37) (tgt := 44) hx hb dX1_about_7 (by rw [c_1]; decide) (by rw [c_1]; decide) (by rw [c_1]; decide) (by decide) ?_
    refine lv_aload_n hx hb dX1_about_44 rfl (lv_at hl 0 rfl) ?_
    refine va_getN (D := D) (ci := 0) (v := .int (gK x)) (C := RX0) (T := TX0) (N := 11) hx hb hts hinX0 hown hK hg 0 rfl rfl 3 (by decide) (hKW.n 3 rfl rfl) (fun _ h9 => h9) rfl dX1_about_45 ?_
    exact W.iret (v := gK x) hx hb hr (fun t ht hW => ⟨congrArg (fun z => Outcome.returned (some (Value.int z))) (by unfold f_X1_about; rw [if_pos c_1]), ht⟩) (fun _ h => nomatch h) dX1_about_48
  by_cases c_2 : b1 = 1
  · refine lv_tableIn (off := 42) (tgt := 49) hx hb dX1_about_7 (by rw [c_2]; decide) (by rw [c_2]; decide) (by rw [c_2]; decide) (by decide) ?_
    refine lv_aload_n hx hb dX1_about_49 rfl (lv_at hl 0 rfl) ?_
    refine va_getN (D := D) (ci := 0) (v := .int (gC x)) (C := RX0) (T := TX0) (N := 11) hx hb hts hinX0 hown hK hg 0 rfl rfl 4 (by decide) (hKW.n 4 rfl rfl) (fun _ h9 => h9) rfl dX1_about_50 ?_
    exact W.iret (v := gC x) hx hb hr (fun t ht hW => ⟨congrArg (fun z => Outcome.returned (some (Value.int z))) (by unfold f_X1_about; rw [if_neg c_1, if_pos c_2]), ht⟩) (fun _ h => nomatch h) dX1_about_53
  by_cases c_3 : b1 = 2
  · refine lv_tableIn (off := 47) (tgt := 54) hx hb dX1_about_7 (by rw [c_3]; decide) (by rw [c_3]; decide) (by rw [c_3]; decide) (by decide) ?_
    refine lv_aload_n hx hb dX1_about_54 rfl (lv_at hl 0 rfl) ?_
    refine va_getN (D := D) (ci := 0) (v := .int (gR x)) (C := RX0) (T := TX0) (N := 11) hx hb hts hinX0 hown hK hg 0 rfl rfl 9 (by decide) (hKW.n 9 rfl rfl) (fun _ h9 => h9) rfl dX1_about_55 ?_
    exact W.iret (v := gR x) hx hb hr (fun t ht hW => ⟨congrArg (fun z => Outcome.returned (some (Value.int z))) (by unfold f_X1_about; rw [if_neg c_1, if_neg c_2, if_pos c_3]), ht⟩) (fun _ h => nomatch h) dX1_about_58
  by_cases c_4 : b1 = 3
  · refine lv_tableIn (off := 52) (tgt := 59) hx hb dX1_about_7 (by rw [c_4]; decide) (by rw [c_4]; decide) (by rw [c_4]; decide) (by decide) ?_
    refine lv_aload_n hx hb dX1_about_59 rfl (lv_at hl 0 rfl) ?_
    refine va_getN (D := D) (ci := 0) (v := .int (gW x)) (C := RX0) (T := TX0) (N := 11) hx hb hts hinX0 hown hK hg 0 rfl rfl 10 (by decide) (hKW.n 10 rfl rfl) (fun _ h9 => h9) rfl dX1_about_60 ?_
    exact W.iret (v := gW x) hx hb hr (fun t ht hW => ⟨congrArg (fun z => Outcome.returned (some (Value.int z))) (by unfold f_X1_about; rw [if_neg c_1, if_neg c_2, if_neg c_3, if_pos c_4]), ht⟩) (fun _ h => nomatch h) dX1_about_63
  by_cases c_5 : b1 = 4
  · refine lv_tableIn (off := 57) (tgt := 64) hx hb dX1_about_7 (by rw [c_5]; decide) (by rw [c_5]; decide) (by rw [c_5]; decide) (by decide) ?_
    refine lv_aload_n hx hb dX1_about_64 rfl (lv_at hl 0 rfl) ?_
    refine va_getN (D := D) (ci := 0) (v := .long (gV x)) (C := RX0) (T := TX0) (N := 11) hx hb hts hinX0 hown hK hg 0 rfl rfl 5 (by decide) (hKW.n 5 rfl rfl) (fun _ h9 => h9) rfl dX1_about_65 ?_
    refine pu_S (As := [.long (gV x)]) (rest := []) ⟨hx, hb, hml, hown, hts⟩ (c_X1_signOf l s.heap (gV x)) puK_T trivial (va_cwS 1 hts gX1_about_X1_signOf rfl rfl rfl (by decide +kernel) ⟨Nat.le_of_ble_eq_true rfl, Nat.le_of_ble_eq_true rfl⟩) rfl hl.1 rfl (Nat.le_of_ble_eq_true rfl) dX1_about_68 ⟨Nat.zero_le _, Nat.zero_le _⟩ ?_
    refine W.eq (g2 := F0 m 71 ls [.int (f_X1_signOf (gV x))]) rfl ?_
    exact W.iret (v := f_X1_signOf (gV x)) hx hb hr (fun t ht hW => ⟨congrArg (fun z => Outcome.returned (some (Value.int z))) (by unfold f_X1_about; rw [if_neg c_1, if_neg c_2, if_neg c_3, if_neg c_4, if_pos c_5]), ht⟩) (fun _ h => nomatch h) dX1_about_71
  by_cases c_6 : b1 = 5
  · refine lv_tableIn (off := 65) (tgt := 72) hx hb dX1_about_7 (by rw [c_6]; decide) (by rw [c_6]; decide) (by rw [c_6]; decide) (by decide) ?_
    refine lv_aload_n hx hb dX1_about_72 rfl (lv_at hl 1 rfl) ?_
    refine lv_iload_n hx hb dX1_about_73 rfl (lv_at hl 2 rfl) ?_
    refine pu_V (As := [.int (nI j)]) (rest := []) ⟨hx, hb, hml, hown, hts⟩ (c_X1_stepsTaking l s.heap D cI cJ cZ cG b P ad st (nI j) hI hPB) (KW_puK D cI cJ cZ cG) hKW (cwV 1 hts gX1_about_X1_stepsTaking rfl rfl rfl (by decide +kernel) ⟨Nat.le_of_ble_eq_true rfl, Nat.le_of_ble_eq_true rfl⟩) (va_recv hK hB (ci := 1) (q0 := 0) rfl rfl) rfl hl.1 rfl (Nat.le_of_ble_eq_true rfl) dX1_about_74 ⟨Nat.zero_le _, Nat.zero_le _⟩ ?_
    refine W.eq (g2 := F0 m 77 ls [.int (f_X1_stepsTaking st (nI j))]) rfl ?_
    exact W.iret (v := f_X1_stepsTaking st (nI j)) hx hb hr (fun t ht hW => ⟨congrArg (fun z => Outcome.returned (some (Value.int z))) (by unfold f_X1_about; rw [if_neg c_1, if_neg c_2, if_neg c_3, if_neg c_4, if_neg c_5, if_pos c_6]), ht⟩) (fun _ h => nomatch h) dX1_about_77
  have h_sw : b1.toInt < 0 ∨ 5 < b1.toInt := by
    have n0 := lv_neT (k := 0) (a := 0) c_1 (by decide)
    have n1 := lv_neT (k := 1) (a := 1) c_2 (by decide)
    have n2 := lv_neT (k := 2) (a := 2) c_3 (by decide)
    have n3 := lv_neT (k := 3) (a := 3) c_4 (by decide)
    have n4 := lv_neT (k := 4) (a := 4) c_5 (by decide)
    have n5 := lv_neT (k := 5) (a := 5) c_6 (by decide)
    omega
  refine lv_tableOut (tgt := 78) hx hb dX1_about_7 h_sw (by decide) ?_
  exact absurd ⟨c_1, c_2, c_3, c_4, c_5, c_6⟩ hw
set_option maxHeartbeats 4000000 in
set_option maxRecDepth 100000 in
theorem t_X1_stepAt_N (l : Launch) (hst : l.stackTraces = false) (z : Nat) (H0 : Heap) (hz : z ≤ H0.size) (D : va_G) (cI cJ cZ cG : ClassId) (b P : Nat) (ad : Nat → ga) (st : Nat → Option GS) (b0 : Int32) (b1 : Int32) (b2 : Int32) (hn : gat st b0 = none) (hPB : va_P D vwCl (BW cI cJ cG b P ad st) H0) : th l yX1_stepAt wsX1_stepAt ({ frames := 7, cells := 1, slots := 6, locals := 104 }) [Value.ref b, Value.int b0, Value.int b1, Value.int b2] (KZ D cI cJ cZ cG z H0) H0 "java/util/NoSuchElementException" := by
  refine vx_ofW (cc := cX1_stepAt) (maxL := 5) (ret := (some .int)) (by decide) rfl ?_
  intro p e s m args below meth c s₁ B hml hex hv
  obtain ⟨rfl, hH, hKZ⟩ := hv
  have hx := B.exec
  have hb := B.bytes
  have hr := B.returns
  have hts := atoms_spec (ws := wsX1_stepAt) B.pre
  have hown : s.vm.findClass RX1 = some m.cls := findClass_of_methodNamed B.named
  have hlocks := B.notSynchronized
  subst hH
  have hKW := hKZ.1
  have hK := hKW.1
  have hl := lv_entry ([Value.ref b, Value.int b0, Value.int b1, Value.int b2]) (n := 5) (Nat.le_of_ble_eq_true rfl)
  rw [lg_entry_eq]
  generalize (lg_sl ([Value.ref b, Value.int b0, Value.int b1, Value.int b2]) ++ List.replicate (5 - (lg_sl ([Value.ref b, Value.int b0, Value.int b1, Value.int b2])).length) Slot.unset).toArray = ls at hl ⊢
  have hl : lv_has ls 5 [(0, .ref b), (1, .int b0), (2, .int b1), (3, .int b2)] := hl
  have hB : va_P D vwCl [(b, .inr (1, [.ref P])), (P, .inl (cG, 12, .inr (.inr (.inr (.inr (pl ad st))))))] s.heap := BW_board hPB
  refine lv_aload_n hx hb dX1_stepAt_0 rfl (lv_at hl 0 rfl) ?_
  refine lv_iload_n hx hb dX1_stepAt_1 rfl (lv_at hl 1 rfl) ?_
  exact th_V (As := [.int b0]) (rest := []) ⟨hx, hb, hml, hown, hts⟩ (t_X1_needGauge l hst z s.heap hz D cI cJ cZ cG b P ad st b0 hn hPB) (KZ_puK D cI cJ cZ cG z s.heap) hKZ (cwV 1 hts gX1_stepAt_X1_needGauge rfl rfl rfl (by decide +kernel) ⟨Nat.le_of_ble_eq_true rfl, Nat.le_of_ble_eq_true rfl⟩) (va_recv hK hB (ci := 1) (q0 := 0) rfl rfl) rfl hl.1 rfl (Nat.le_of_ble_eq_true rfl) dX1_stepAt_2 ⟨Nat.le_of_ble_eq_true rfl, Nat.le_of_ble_eq_true rfl⟩ hex hlocks
set_option maxHeartbeats 4000000 in
set_option maxRecDepth 100000 in
theorem t_X1_stepAt_M (l : Launch) (hst : l.stackTraces = false) (z : Nat) (H0 : Heap) (hz : z ≤ H0.size) (D : va_G) (cI cJ cZ cG : ClassId) (b P : Nat) (ad : Nat → ga) (st : Nat → Option GS) (j : Nat) (x : GS) (b1 : Int32) (b2 : Int32) (hj : j < 12) (hst1 : st j = some x) (k0 : b1 < 0) (hPB : va_P D vwCl (BW cI cJ cG b P ad st) H0) : th l yX1_stepAt wsX1_stepAt ({ frames := 7, cells := 1, slots := 6, locals := 104 }) [Value.ref b, Value.int (nI j), Value.int b1, Value.int b2] (KZ D cI cJ cZ cG z H0) H0 "java/util/NoSuchElementException" := by
  refine vx_ofW (cc := cX1_stepAt) (maxL := 5) (ret := (some .int)) (by decide) rfl ?_
  intro p e s m args below meth c s₁ B hml hex hv
  obtain ⟨rfl, hH, hKZ⟩ := hv
  have hx := B.exec
  have hb := B.bytes
  have hr := B.returns
  have hts := atoms_spec (ws := wsX1_stepAt) B.pre
  have hown : s.vm.findClass RX1 = some m.cls := findClass_of_methodNamed B.named
  have hlocks := B.notSynchronized
  subst hH
  have hKW := hKZ.1
  have hK := hKW.1
  have hl := lv_entry ([Value.ref b, Value.int (nI j), Value.int b1, Value.int b2]) (n := 5) (Nat.le_of_ble_eq_true rfl)
  rw [lg_entry_eq]
  generalize (lg_sl ([Value.ref b, Value.int (nI j), Value.int b1, Value.int b2]) ++ List.replicate (5 - (lg_sl ([Value.ref b, Value.int (nI j), Value.int b1, Value.int b2])).length) Slot.unset).toArray = ls at hl ⊢
  have hl : lv_has ls 5 [(0, .ref b), (1, .int (nI j)), (2, .int b1), (3, .int b2)] := hl
  have hB : va_P D vwCl [(b, .inr (1, [.ref P])), (P, .inl (cG, 12, .inr (.inr (.inr (.inr (pl ad st))))))] s.heap := BW_board hPB
  have hg : va_P D vwCl [((ad j).1, .inr (0, [.ref ((ad j).2.1), .ref ((ad j).2.2.1), .ref ((ad j).2.2.2), .int (gK x), .int (gC x), .long (gV x), .int (gM x), .long (gH x), .long (gL x), .int (gR x), .int (gW x)])), ((ad j).2.1, .inl (cI, 8, .inl (gSo x))), ((ad j).2.2.1, .inl (cI, 8, .inl (gSr x))), ((ad j).2.2.2, .inl (cJ, 8, .inr (.inl (gOp x))))] s.heap := BW_gauge hPB hj hst1
  refine lv_aload_n hx hb dX1_stepAt_0 rfl (lv_at hl 0 rfl) ?_
  refine lv_iload_n hx hb dX1_stepAt_1 rfl (lv_at hl 1 rfl) ?_
  refine pu_V (As := [.int (nI j)]) (rest := []) ⟨hx, hb, hml, hown, hts⟩ (c_X1_needGauge l s.heap D cI cJ cZ cG b P ad st j x hj hst1 hPB) (KW_puK D cI cJ cZ cG) hKW (cwV 1 hts gX1_stepAt_X1_needGauge rfl rfl rfl (by decide +kernel) ⟨Nat.le_of_ble_eq_true rfl, Nat.le_of_ble_eq_true rfl⟩) (va_recv hK hB (ci := 1) (q0 := 0) rfl rfl) rfl hl.1 rfl (Nat.le_of_ble_eq_true rfl) dX1_stepAt_2 ⟨Nat.zero_le _, Nat.zero_le _⟩ ?_
  refine W.eq (g2 := F0 m 5 ls [.ref ((ad j).1)]) rfl ?_
  refine lv_astore (lv' := [(4, .ref ((ad j).1)), (0, .ref b), (1, .int (nI j)), (2, .int b1), (3, .int b2)]) hx hb dX1_stepAt_5 hl (by decide) rfl (fun ls hl => ?_)
  refine lv_iload_n hx hb dX1_stepAt_7 rfl (lv_at hl 3 rfl) ?_
  refine lv_if_lt (tgt := 20) hx hb dX1_stepAt_8 (by decide) (fun z_9 => ?_) (fun z_9 => absurd k0 z_9)
  exact thr_N (text := "there is no such step") hx hb hst hown hts hKZ hz (List.mem_of_getElem? (i := 13) rfl) (by decide +kernel) (by decide +kernel) (fun w h9 => List.mem_cons_of_mem _ (List.mem_append_left _ (List.mem_append_right _ h9))) (by rw [hml]; exact hl.1) dX1_stepAt_20 dX1_stepAt_23 dX1_stepAt_24 dX1_stepAt_26 dX1_stepAt_29 hex (Nat.le_of_ble_eq_true rfl) (Nat.le_of_ble_eq_true rfl) (Nat.le_of_ble_eq_true rfl) (Nat.le_of_ble_eq_true rfl) hlocks
set_option maxHeartbeats 4000000 in
set_option maxRecDepth 100000 in
theorem t_X1_stepAt_L (l : Launch) (hst : l.stackTraces = false) (z : Nat) (H0 : Heap) (hz : z ≤ H0.size) (D : va_G) (cI cJ cZ cG : ClassId) (b P : Nat) (ad : Nat → ga) (st : Nat → Option GS) (j : Nat) (x : GS) (b1 : Int32) (b2 : Int32) (hj : j < 12) (hst1 : st j = some x) (k0 : ¬ b1 < 0) (k1 : ¬ b1 < (gC x)) (hPB : va_P D vwCl (BW cI cJ cG b P ad st) H0) : th l yX1_stepAt wsX1_stepAt ({ frames := 7, cells := 1, slots := 6, locals := 104 }) [Value.ref b, Value.int (nI j), Value.int b1, Value.int b2] (KZ D cI cJ cZ cG z H0) H0 "java/util/NoSuchElementException" := by
  refine vx_ofW (cc := cX1_stepAt) (maxL := 5) (ret := (some .int)) (by decide) rfl ?_
  intro p e s m args below meth c s₁ B hml hex hv
  obtain ⟨rfl, hH, hKZ⟩ := hv
  have hx := B.exec
  have hb := B.bytes
  have hr := B.returns
  have hts := atoms_spec (ws := wsX1_stepAt) B.pre
  have hown : s.vm.findClass RX1 = some m.cls := findClass_of_methodNamed B.named
  have hlocks := B.notSynchronized
  subst hH
  have hKW := hKZ.1
  have hK := hKW.1
  have hl := lv_entry ([Value.ref b, Value.int (nI j), Value.int b1, Value.int b2]) (n := 5) (Nat.le_of_ble_eq_true rfl)
  rw [lg_entry_eq]
  generalize (lg_sl ([Value.ref b, Value.int (nI j), Value.int b1, Value.int b2]) ++ List.replicate (5 - (lg_sl ([Value.ref b, Value.int (nI j), Value.int b1, Value.int b2])).length) Slot.unset).toArray = ls at hl ⊢
  have hl : lv_has ls 5 [(0, .ref b), (1, .int (nI j)), (2, .int b1), (3, .int b2)] := hl
  have hinX0 : ∀ w ∈ u_ws RX0 TX0 11, w ∈ wsX1_stepAt := by decide +kernel
  have hB : va_P D vwCl [(b, .inr (1, [.ref P])), (P, .inl (cG, 12, .inr (.inr (.inr (.inr (pl ad st))))))] s.heap := BW_board hPB
  have hg : va_P D vwCl [((ad j).1, .inr (0, [.ref ((ad j).2.1), .ref ((ad j).2.2.1), .ref ((ad j).2.2.2), .int (gK x), .int (gC x), .long (gV x), .int (gM x), .long (gH x), .long (gL x), .int (gR x), .int (gW x)])), ((ad j).2.1, .inl (cI, 8, .inl (gSo x))), ((ad j).2.2.1, .inl (cI, 8, .inl (gSr x))), ((ad j).2.2.2, .inl (cJ, 8, .inr (.inl (gOp x))))] s.heap := BW_gauge hPB hj hst1
  refine lv_aload_n hx hb dX1_stepAt_0 rfl (lv_at hl 0 rfl) ?_
  refine lv_iload_n hx hb dX1_stepAt_1 rfl (lv_at hl 1 rfl) ?_
  refine pu_V (As := [.int (nI j)]) (rest := []) ⟨hx, hb, hml, hown, hts⟩ (c_X1_needGauge l s.heap D cI cJ cZ cG b P ad st j x hj hst1 hPB) (KW_puK D cI cJ cZ cG) hKW (cwV 1 hts gX1_stepAt_X1_needGauge rfl rfl rfl (by decide +kernel) ⟨Nat.le_of_ble_eq_true rfl, Nat.le_of_ble_eq_true rfl⟩) (va_recv hK hB (ci := 1) (q0 := 0) rfl rfl) rfl hl.1 rfl (Nat.le_of_ble_eq_true rfl) dX1_stepAt_2 ⟨Nat.zero_le _, Nat.zero_le _⟩ ?_
  refine W.eq (g2 := F0 m 5 ls [.ref ((ad j).1)]) rfl ?_
  refine lv_astore (lv' := [(4, .ref ((ad j).1)), (0, .ref b), (1, .int (nI j)), (2, .int b1), (3, .int b2)]) hx hb dX1_stepAt_5 hl (by decide) rfl (fun ls hl => ?_)
  refine lv_iload_n hx hb dX1_stepAt_7 rfl (lv_at hl 3 rfl) ?_
  refine lv_if_lt (tgt := 20) hx hb dX1_stepAt_8 (by decide) (fun z_9 => absurd z_9 k0) (fun z_9 => ?_)
  refine lv_iload_n hx hb dX1_stepAt_11 rfl (lv_at hl 3 rfl) ?_
  refine lv_aload hx hb dX1_stepAt_12 (lv_at hl 0 rfl) ?_
  refine va_getN (D := D) (ci := 0) (v := .int (gC x)) (C := RX0) (T := TX0) (N := 11) hx hb hts hinX0 hown hK hg 0 rfl rfl 4 (by decide) (hKW.n 4 rfl rfl) (fun _ h9 => h9) rfl dX1_stepAt_14 ?_
  refine lv_icmp_lt (tgt := 30) hx hb dX1_stepAt_17 (by decide) (fun z_9 => absurd z_9 k1) (fun z_9 => ?_)
  exact thr_N (text := "there is no such step") hx hb hst hown hts hKZ hz (List.mem_of_getElem? (i := 13) rfl) (by decide +kernel) (by decide +kernel) (fun w h9 => List.mem_cons_of_mem _ (List.mem_append_left _ (List.mem_append_right _ h9))) (by rw [hml]; exact hl.1) dX1_stepAt_20 dX1_stepAt_23 dX1_stepAt_24 dX1_stepAt_26 dX1_stepAt_29 hex (Nat.le_of_ble_eq_true rfl) (Nat.le_of_ble_eq_true rfl) (Nat.le_of_ble_eq_true rfl) (Nat.le_of_ble_eq_true rfl) hlocks
set_option maxHeartbeats 4000000 in
set_option maxRecDepth 100000 in
theorem t_X1_stepAt_A (l : Launch) (hst : l.stackTraces = false) (z : Nat) (H0 : Heap) (hz : z ≤ H0.size) (D : va_G) (cI cJ cZ cG : ClassId) (b P : Nat) (ad : Nat → ga) (st : Nat → Option GS) (j : Nat) (x : GS) (b1 : Int32) (b2 : Int32) (hj : j < 12) (hst1 : st j = some x) (k0 : ¬ b1 < 0) (k1 : b1 < (gC x)) (n0 : ¬ b2 = 0) (n1 : ¬ b2 = 1) (n2 : ¬ b2 = 2) (hPB : va_P D vwCl (BW cI cJ cG b P ad st) H0) : th l yX1_stepAt wsX1_stepAt ({ frames := 7, cells := 1, slots := 6, locals := 104 }) [Value.ref b, Value.int (nI j), Value.int b1, Value.int b2] (KZ D cI cJ cZ cG z H0) H0 "java/lang/IllegalArgumentException" := by
  refine vx_ofW (cc := cX1_stepAt) (maxL := 5) (ret := (some .int)) (by decide) rfl ?_
  intro p e s m args below meth c s₁ B hml hex hv
  obtain ⟨rfl, hH, hKZ⟩ := hv
  have hx := B.exec
  have hb := B.bytes
  have hr := B.returns
  have hts := atoms_spec (ws := wsX1_stepAt) B.pre
  have hown : s.vm.findClass RX1 = some m.cls := findClass_of_methodNamed B.named
  have hlocks := B.notSynchronized
  subst hH
  have hKW := hKZ.1
  have hK := hKW.1
  have hl := lv_entry ([Value.ref b, Value.int (nI j), Value.int b1, Value.int b2]) (n := 5) (Nat.le_of_ble_eq_true rfl)
  rw [lg_entry_eq]
  generalize (lg_sl ([Value.ref b, Value.int (nI j), Value.int b1, Value.int b2]) ++ List.replicate (5 - (lg_sl ([Value.ref b, Value.int (nI j), Value.int b1, Value.int b2])).length) Slot.unset).toArray = ls at hl ⊢
  have hl : lv_has ls 5 [(0, .ref b), (1, .int (nI j)), (2, .int b1), (3, .int b2)] := hl
  have hinX0 : ∀ w ∈ u_ws RX0 TX0 11, w ∈ wsX1_stepAt := by decide +kernel
  have hB : va_P D vwCl [(b, .inr (1, [.ref P])), (P, .inl (cG, 12, .inr (.inr (.inr (.inr (pl ad st))))))] s.heap := BW_board hPB
  have hg : va_P D vwCl [((ad j).1, .inr (0, [.ref ((ad j).2.1), .ref ((ad j).2.2.1), .ref ((ad j).2.2.2), .int (gK x), .int (gC x), .long (gV x), .int (gM x), .long (gH x), .long (gL x), .int (gR x), .int (gW x)])), ((ad j).2.1, .inl (cI, 8, .inl (gSo x))), ((ad j).2.2.1, .inl (cI, 8, .inl (gSr x))), ((ad j).2.2.2, .inl (cJ, 8, .inr (.inl (gOp x))))] s.heap := BW_gauge hPB hj hst1
  refine lv_aload_n hx hb dX1_stepAt_0 rfl (lv_at hl 0 rfl) ?_
  refine lv_iload_n hx hb dX1_stepAt_1 rfl (lv_at hl 1 rfl) ?_
  refine pu_V (As := [.int (nI j)]) (rest := []) ⟨hx, hb, hml, hown, hts⟩ (c_X1_needGauge l s.heap D cI cJ cZ cG b P ad st j x hj hst1 hPB) (KW_puK D cI cJ cZ cG) hKW (cwV 1 hts gX1_stepAt_X1_needGauge rfl rfl rfl (by decide +kernel) ⟨Nat.le_of_ble_eq_true rfl, Nat.le_of_ble_eq_true rfl⟩) (va_recv hK hB (ci := 1) (q0 := 0) rfl rfl) rfl hl.1 rfl (Nat.le_of_ble_eq_true rfl) dX1_stepAt_2 ⟨Nat.zero_le _, Nat.zero_le _⟩ ?_
  refine W.eq (g2 := F0 m 5 ls [.ref ((ad j).1)]) rfl ?_
  refine lv_astore (lv' := [(4, .ref ((ad j).1)), (0, .ref b), (1, .int (nI j)), (2, .int b1), (3, .int b2)]) hx hb dX1_stepAt_5 hl (by decide) rfl (fun ls hl => ?_)
  refine lv_iload_n hx hb dX1_stepAt_7 rfl (lv_at hl 3 rfl) ?_
  refine lv_if_lt (tgt := 20) hx hb dX1_stepAt_8 (by decide) (fun z_9 => absurd z_9 k0) (fun z_9 => ?_)
  refine lv_iload_n hx hb dX1_stepAt_11 rfl (lv_at hl 3 rfl) ?_
  refine lv_aload hx hb dX1_stepAt_12 (lv_at hl 0 rfl) ?_
  refine va_getN (D := D) (ci := 0) (v := .int (gC x)) (C := RX0) (T := TX0) (N := 11) hx hb hts hinX0 hown hK hg 0 rfl rfl 4 (by decide) (hKW.n 4 rfl rfl) (fun _ h9 => h9) rfl dX1_stepAt_14 ?_
  refine lv_icmp_lt (tgt := 30) hx hb dX1_stepAt_17 (by decide) (fun z_9 => ?_) (fun z_9 => absurd k1 z_9)
  refine lv_iload_n hx hb dX1_stepAt_30 rfl (lv_at hl 4 rfl) ?_
  have h_sw : b2.toInt < 0 ∨ 2 < b2.toInt := by
    have n0 := lv_neT (k := 0) (a := 0) n0 (by decide)
    have n1 := lv_neT (k := 1) (a := 1) n1 (by decide)
    have n2 := lv_neT (k := 2) (a := 2) n2 (by decide)
    omega
  refine lv_tableOut (tgt := 90) hx hb dX1_stepAt_31 h_sw (by decide) ?_
  exact thr_A (text := "a step has nothing of this number") hx hb hst hown hts hKZ hz (List.mem_of_getElem? (i := 14) rfl) (by decide +kernel) (by decide +kernel) (fun w h9 => List.mem_cons_of_mem _ (List.mem_append_right _ h9)) (by rw [hml]; exact hl.1) dX1_stepAt_90 dX1_stepAt_93 dX1_stepAt_94 dX1_stepAt_96 dX1_stepAt_99 hex (Nat.le_of_ble_eq_true rfl) (Nat.le_of_ble_eq_true rfl) (Nat.le_of_ble_eq_true rfl) (Nat.le_of_ble_eq_true rfl) hlocks
def f_X1_stepAt (x : GS) (b1 b2 : Int32) : Int32 := (if b2 = 0 then (gSo x) b1.toNatClampNeg else (if b2 = 1 then f_X1_operandForm ((gSo x) b1.toNatClampNeg) ((gSr x) b1.toNatClampNeg) else (if b2 = 2 then (gSr x) b1.toNatClampNeg else 0)))
set_option maxHeartbeats 4000000 in
set_option maxRecDepth 100000 in
theorem c_X1_stepAt (l : Launch) (H0 : Heap) (D : va_G) (cI cJ cZ cG : ClassId) (b P : Nat) (ad : Nat → ga) (st : Nat → Option GS) (j : Nat) (x : GS) (b1 : Int32) (b2 : Int32) (hj : j < 12) (hst1 : st j = some x) (hc : vp_in (gC x) 9) (k0 : ¬ b1 < 0) (k1 : b1 < (gC x)) (hw : ¬ (¬ b2 = 0 ∧ ¬ b2 = 1 ∧ ¬ b2 = 2)) (hPB : va_P D vwCl (BW cI cJ cG b P ad st) H0) : pu l yX1_stepAt wsX1_stepAt ({ frames := 3, cells := 0, slots := 0, locals := 63 }) [Value.ref b, Value.int (nI j), Value.int b1, Value.int b2] (KW D cI cJ cZ cG) H0 (some (.int (f_X1_stepAt x b1 b2))) := by
  refine Met.ofW (cc := cX1_stepAt) (maxL := 5) (ret := (some .int)) (by decide) rfl ?_
  intro p e s m args below meth c s₁ B hml hv
  obtain ⟨rfl, hH, hKW⟩ := hv
  have hx := B.exec
  have hb := B.bytes
  have hr := B.returns
  have hts := atoms_spec (ws := wsX1_stepAt) B.pre
  have hown : s.vm.findClass RX1 = some m.cls := findClass_of_methodNamed B.named
  have hlocks := B.notSynchronized
  subst hH
  have hK := hKW.1
  have hl := lv_entry ([Value.ref b, Value.int (nI j), Value.int b1, Value.int b2]) (n := 5) (Nat.le_of_ble_eq_true rfl)
  rw [lg_entry_eq]
  generalize (lg_sl ([Value.ref b, Value.int (nI j), Value.int b1, Value.int b2]) ++ List.replicate (5 - (lg_sl ([Value.ref b, Value.int (nI j), Value.int b1, Value.int b2])).length) Slot.unset).toArray = ls at hl ⊢
  have hl : lv_has ls 5 [(0, .ref b), (1, .int (nI j)), (2, .int b1), (3, .int b2)] := hl
  have hinX0 : ∀ w ∈ u_ws RX0 TX0 11, w ∈ wsX1_stepAt := by decide +kernel
  have hB : va_P D vwCl [(b, .inr (1, [.ref P])), (P, .inl (cG, 12, .inr (.inr (.inr (.inr (pl ad st))))))] s.heap := BW_board hPB
  have hg : va_P D vwCl [((ad j).1, .inr (0, [.ref ((ad j).2.1), .ref ((ad j).2.2.1), .ref ((ad j).2.2.2), .int (gK x), .int (gC x), .long (gV x), .int (gM x), .long (gH x), .long (gL x), .int (gR x), .int (gW x)])), ((ad j).2.1, .inl (cI, 8, .inl (gSo x))), ((ad j).2.2.1, .inl (cI, 8, .inl (gSr x))), ((ad j).2.2.2, .inl (cJ, 8, .inr (.inl (gOp x))))] s.heap := BW_gauge hPB hj hst1
  refine lv_aload_n hx hb dX1_stepAt_0 rfl (lv_at hl 0 rfl) ?_
  refine lv_iload_n hx hb dX1_stepAt_1 rfl (lv_at hl 1 rfl) ?_
  refine pu_V (As := [.int (nI j)]) (rest := []) ⟨hx, hb, hml, hown, hts⟩ (c_X1_needGauge l s.heap D cI cJ cZ cG b P ad st j x hj hst1 hPB) (KW_puK D cI cJ cZ cG) hKW (cwV 1 hts gX1_stepAt_X1_needGauge rfl rfl rfl (by decide +kernel) ⟨Nat.le_of_ble_eq_true rfl, Nat.le_of_ble_eq_true rfl⟩) (va_recv hK hB (ci := 1) (q0 := 0) rfl rfl) rfl hl.1 rfl (Nat.le_of_ble_eq_true rfl) dX1_stepAt_2 ⟨Nat.zero_le _, Nat.zero_le _⟩ ?_
  refine W.eq (g2 := F0 m 5 ls [.ref ((ad j).1)]) rfl ?_
  refine lv_astore (lv' := [(4, .ref ((ad j).1)), (0, .ref b), (1, .int (nI j)), (2, .int b1), (3, .int b2)]) hx hb dX1_stepAt_5 hl (by decide) rfl (fun ls hl => ?_)
  refine lv_iload_n hx hb dX1_stepAt_7 rfl (lv_at hl 3 rfl) ?_
  refine lv_if_lt (tgt := 20) hx hb dX1_stepAt_8 (by decide) (fun z_9 => absurd z_9 k0) (fun z_9 => ?_)
  refine lv_iload_n hx hb dX1_stepAt_11 rfl (lv_at hl 3 rfl) ?_
  refine lv_aload hx hb dX1_stepAt_12 (lv_at hl 0 rfl) ?_
  refine va_getN (D := D) (ci := 0) (v := .int (gC x)) (C := RX0) (T := TX0) (N := 11) hx hb hts hinX0 hown hK hg 0 rfl rfl 4 (by decide) (hKW.n 4 rfl rfl) (fun _ h9 => h9) rfl dX1_stepAt_14 ?_
  refine lv_icmp_lt (tgt := 30) hx hb dX1_stepAt_17 (by decide) (fun z_9 => ?_) (fun z_9 => absurd k1 z_9)
  refine lv_iload_n hx hb dX1_stepAt_30 rfl (lv_at hl 4 rfl) ?_
  by_cases c_1 : b2 = 0
  · refine lv_tableIn (off := 25) (tgt := 56) hx hb dX1_stepAt_31 (by rw [c_1]; decide) (by rw [c_1]; decide) (by rw [c_1]; decide) (by decide) ?_
    refine lv_aload hx hb dX1_stepAt_56 (lv_at hl 0 rfl) ?_
    refine va_getN (D := D) (ci := 0) (v := .ref ((ad j).2.1)) (C := RX0) (T := TX0) (N := 11) hx hb hts hinX0 hown hK hg 0 rfl rfl 0 (by decide) (hKW.n 0 rfl rfl) (fun _ h9 => h9) rfl dX1_stepAt_58 ?_
    refine lv_iload_n hx hb dX1_stepAt_61 rfl (lv_at hl 3 rfl) ?_
    refine va_iald hx hb hK hg 1 0 rfl rfl (in_rg hc k0 k1) dX1_stepAt_62 ?_
    exact W.iret (v := (gSo x) b1.toNatClampNeg) hx hb hr (fun t ht hW => ⟨congrArg (fun z => Outcome.returned (some (Value.int z))) (by unfold f_X1_stepAt; rw [if_pos c_1]), ht⟩) (fun _ h => nomatch h) dX1_stepAt_63
  by_cases c_2 : b2 = 1
  · refine lv_tableIn (off := 33) (tgt := 64) hx hb dX1_stepAt_31 (by rw [c_2]; decide) (by rw [c_2]; decide) (by rw [c_2]; decide) (by decide) ?_
    refine lv_aload hx hb dX1_stepAt_64 (lv_at hl 0 rfl) ?_
    refine va_getN (D := D) (ci := 0) (v := .ref ((ad j).2.1)) (C := RX0) (T := TX0) (N := 11) hx hb hts hinX0 hown hK hg 0 rfl rfl 0 (by decide) (hKW.n 0 rfl rfl) (fun _ h9 => h9) rfl dX1_stepAt_66 ?_
    refine lv_iload_n hx hb dX1_stepAt_69 rfl (lv_at hl 3 rfl) ?_
    refine va_iald hx hb hK hg 1 0 rfl rfl (in_rg hc k0 k1) dX1_stepAt_70 ?_
    refine lv_aload hx hb dX1_stepAt_71 (lv_at hl 0 rfl) ?_
    refine va_getN (D := D) (ci := 0) (v := .ref ((ad j).2.2.1)) (C := RX0) (T := TX0) (N := 11) hx hb hts hinX0 hown hK hg 0 rfl rfl 1 (by decide) (hKW.n 1 rfl rfl) (fun _ h9 => h9) rfl dX1_stepAt_73 ?_
    refine lv_iload_n hx hb dX1_stepAt_76 rfl (lv_at hl 3 rfl) ?_
    refine va_iald hx hb hK hg 2 0 rfl rfl (in_rg hc k0 k1) dX1_stepAt_77 ?_
    refine pu_S (As := [.int ((gSo x) b1.toNatClampNeg), .int ((gSr x) b1.toNatClampNeg)]) (rest := []) ⟨hx, hb, hml, hown, hts⟩ (c_X1_operandForm l s.heap ((gSo x) b1.toNatClampNeg) ((gSr x) b1.toNatClampNeg)) puK_T trivial (va_cwS 2 hts gX1_stepAt_X1_operandForm rfl rfl rfl (by decide +kernel) ⟨Nat.le_of_ble_eq_true rfl, Nat.le_of_ble_eq_true rfl⟩) rfl hl.1 rfl (Nat.le_of_ble_eq_true rfl) dX1_stepAt_78 ⟨Nat.zero_le _, Nat.zero_le _⟩ ?_
    refine W.eq (g2 := F0 m 81 ls [.int (f_X1_operandForm ((gSo x) b1.toNatClampNeg) ((gSr x) b1.toNatClampNeg))]) rfl ?_
    exact W.iret (v := f_X1_operandForm ((gSo x) b1.toNatClampNeg) ((gSr x) b1.toNatClampNeg)) hx hb hr (fun t ht hW => ⟨congrArg (fun z => Outcome.returned (some (Value.int z))) (by unfold f_X1_stepAt; rw [if_neg c_1, if_pos c_2]), ht⟩) (fun _ h => nomatch h) dX1_stepAt_81
  by_cases c_3 : b2 = 2
  · refine lv_tableIn (off := 51) (tgt := 82) hx hb dX1_stepAt_31 (by rw [c_3]; decide) (by rw [c_3]; decide) (by rw [c_3]; decide) (by decide) ?_
    refine lv_aload hx hb dX1_stepAt_82 (lv_at hl 0 rfl) ?_
    refine va_getN (D := D) (ci := 0) (v := .ref ((ad j).2.2.1)) (C := RX0) (T := TX0) (N := 11) hx hb hts hinX0 hown hK hg 0 rfl rfl 1 (by decide) (hKW.n 1 rfl rfl) (fun _ h9 => h9) rfl dX1_stepAt_84 ?_
    refine lv_iload_n hx hb dX1_stepAt_87 rfl (lv_at hl 3 rfl) ?_
    refine va_iald hx hb hK hg 2 0 rfl rfl (in_rg hc k0 k1) dX1_stepAt_88 ?_
    exact W.iret (v := (gSr x) b1.toNatClampNeg) hx hb hr (fun t ht hW => ⟨congrArg (fun z => Outcome.returned (some (Value.int z))) (by unfold f_X1_stepAt; rw [if_neg c_1, if_neg c_2, if_pos c_3]), ht⟩) (fun _ h => nomatch h) dX1_stepAt_89
  have h_sw : b2.toInt < 0 ∨ 2 < b2.toInt := by
    have n0 := lv_neT (k := 0) (a := 0) c_1 (by decide)
    have n1 := lv_neT (k := 1) (a := 1) c_2 (by decide)
    have n2 := lv_neT (k := 2) (a := 2) c_3 (by decide)
    omega
  refine lv_tableOut (tgt := 90) hx hb dX1_stepAt_31 h_sw (by decide) ?_
  exact absurd ⟨c_1, c_2, c_3⟩ hw
set_option maxHeartbeats 4000000 in
set_option maxRecDepth 100000 in
theorem c_X1_further_b (l : Launch) (H0 : Heap) (D : va_G) (cI cJ cZ cG : ClassId) (qa qb : ga) (x y : GS) (b1 : Int32) (hu : (f_X1_isAbove (gV y) (gV x) (gK x)) = b1) (ha : va_P D vwCl (GZ cI cJ qa x) H0) (hb9 : va_P D vwCl (GZ cI cJ qb y) H0) : pu l yX1_further wsX1_further ({ frames := 3, cells := 0, slots := 0, locals := 66 }) [Value.ref qa.1, Value.ref qb.1, Value.int b1] (KW D cI cJ cZ cG) H0 (some (.ref qb.1)) := by
  refine Met.ofW (cc := cX1_further) (maxL := 3) (ret := (some (.object "GaugeBoard$Gauge"))) (by decide) rfl ?_
  intro p e s m args below meth c s₁ B hml hv
  obtain ⟨rfl, hH, hKW⟩ := hv
  have hx := B.exec
  have hb := B.bytes
  have hr := B.returns
  have hts := atoms_spec (ws := wsX1_further) B.pre
  have hown : s.vm.findClass RX1 = some m.cls := findClass_of_methodNamed B.named
  have hlocks := B.notSynchronized
  subst hH
  have hK := hKW.1
  have hl := lv_entry ([Value.ref qa.1, Value.ref qb.1, Value.int b1]) (n := 3) (Nat.le_of_ble_eq_true rfl)
  rw [lg_entry_eq]
  generalize (lg_sl ([Value.ref qa.1, Value.ref qb.1, Value.int b1]) ++ List.replicate (3 - (lg_sl ([Value.ref qa.1, Value.ref qb.1, Value.int b1])).length) Slot.unset).toArray = ls at hl ⊢
  have hl : lv_has ls 3 [(0, .ref qa.1), (1, .ref qb.1), (2, .int b1)] := hl
  have hinX0 : ∀ w ∈ u_ws RX0 TX0 11, w ∈ wsX1_further := by decide +kernel
  have hga : va_P D vwCl [(qa.1, .inr (0, [.ref qa.2.1, .ref qa.2.2.1, .ref qa.2.2.2, .int (gK x), .int (gC x), .long (gV x), .int (gM x), .long (gH x), .long (gL x), .int (gR x), .int (gW x)])), (qa.2.1, .inl (cI, 8, .inl (gSo x))), (qa.2.2.1, .inl (cI, 8, .inl (gSr x))), (qa.2.2.2, .inl (cJ, 8, .inr (.inl (gOp x))))] s.heap := ha
  have hgb : va_P D vwCl [(qb.1, .inr (0, [.ref qb.2.1, .ref qb.2.2.1, .ref qb.2.2.2, .int (gK y), .int (gC y), .long (gV y), .int (gM y), .long (gH y), .long (gL y), .int (gR y), .int (gW y)])), (qb.2.1, .inl (cI, 8, .inl (gSo y))), (qb.2.2.1, .inl (cI, 8, .inl (gSr y))), (qb.2.2.2, .inl (cJ, 8, .inr (.inl (gOp y))))] s.heap := hb9
  refine lv_aload_n hx hb dX1_further_0 rfl (lv_at hl 1 rfl) ?_
  refine va_getN (D := D) (ci := 0) (v := .long (gV y)) (C := RX0) (T := TX0) (N := 11) hx hb hts hinX0 hown hK hgb 0 rfl rfl 5 (by decide) (hKW.n 5 rfl rfl) (fun _ h9 => h9) rfl dX1_further_1 ?_
  refine lv_aload_n hx hb dX1_further_4 rfl (lv_at hl 0 rfl) ?_
  refine va_getN (D := D) (ci := 0) (v := .long (gV x)) (C := RX0) (T := TX0) (N := 11) hx hb hts hinX0 hown hK hga 0 rfl rfl 5 (by decide) (hKW.n 5 rfl rfl) (fun _ h9 => h9) rfl dX1_further_5 ?_
  refine lv_aload_n hx hb dX1_further_8 rfl (lv_at hl 0 rfl) ?_
  refine va_getN (D := D) (ci := 0) (v := .int (gK x)) (C := RX0) (T := TX0) (N := 11) hx hb hts hinX0 hown hK hga 0 rfl rfl 3 (by decide) (hKW.n 3 rfl rfl) (fun _ h9 => h9) rfl dX1_further_9 ?_
  refine pu_S (As := [.long (gV y), .long (gV x), .int (gK x)]) (rest := []) ⟨hx, hb, hml, hown, hts⟩ (c_X1_isAbove l s.heap (gV y) (gV x) (gK x)) puK_T trivial (va_cwS 3 hts gX1_further_X1_isAbove rfl rfl rfl (by decide +kernel) ⟨Nat.le_of_ble_eq_true rfl, Nat.le_of_ble_eq_true rfl⟩) rfl hl.1 rfl (Nat.le_of_ble_eq_true rfl) dX1_further_12 ⟨Nat.zero_le _, Nat.zero_le _⟩ ?_
  refine W.eq (g2 := F0 m 15 ls [.int (f_X1_isAbove (gV y) (gV x) (gK x))]) rfl ?_
  refine lv_iload_n hx hb dX1_further_15 rfl (lv_at hl 2 rfl) ?_
  refine lv_icmp_ne (tgt := 23) hx hb dX1_further_16 (by decide) (fun z_9 => absurd hu z_9) (fun z_9 => ?_)
  refine lv_aload_n hx hb dX1_further_19 rfl (lv_at hl 1 rfl) ?_
  refine lv_goto (tgt := 24) hx hb dX1_further_20 (by decide) ?_
  exact W.aret (v := .ref qb.1) hx hb hr (Or.inl ⟨_, rfl⟩) (Or.inr ⟨_, rfl⟩) (fun t ht hW => ⟨rfl, ht⟩) (fun _ h => nomatch h) dX1_further_24
set_option maxHeartbeats 4000000 in
set_option maxRecDepth 100000 in
theorem c_X1_further_a (l : Launch) (H0 : Heap) (D : va_G) (cI cJ cZ cG : ClassId) (qa qb : ga) (x y : GS) (b1 : Int32) (hu : ¬ (f_X1_isAbove (gV y) (gV x) (gK x)) = b1) (ha : va_P D vwCl (GZ cI cJ qa x) H0) (hb9 : va_P D vwCl (GZ cI cJ qb y) H0) : pu l yX1_further wsX1_further ({ frames := 3, cells := 0, slots := 0, locals := 66 }) [Value.ref qa.1, Value.ref qb.1, Value.int b1] (KW D cI cJ cZ cG) H0 (some (.ref qa.1)) := by
  refine Met.ofW (cc := cX1_further) (maxL := 3) (ret := (some (.object "GaugeBoard$Gauge"))) (by decide) rfl ?_
  intro p e s m args below meth c s₁ B hml hv
  obtain ⟨rfl, hH, hKW⟩ := hv
  have hx := B.exec
  have hb := B.bytes
  have hr := B.returns
  have hts := atoms_spec (ws := wsX1_further) B.pre
  have hown : s.vm.findClass RX1 = some m.cls := findClass_of_methodNamed B.named
  have hlocks := B.notSynchronized
  subst hH
  have hK := hKW.1
  have hl := lv_entry ([Value.ref qa.1, Value.ref qb.1, Value.int b1]) (n := 3) (Nat.le_of_ble_eq_true rfl)
  rw [lg_entry_eq]
  generalize (lg_sl ([Value.ref qa.1, Value.ref qb.1, Value.int b1]) ++ List.replicate (3 - (lg_sl ([Value.ref qa.1, Value.ref qb.1, Value.int b1])).length) Slot.unset).toArray = ls at hl ⊢
  have hl : lv_has ls 3 [(0, .ref qa.1), (1, .ref qb.1), (2, .int b1)] := hl
  have hinX0 : ∀ w ∈ u_ws RX0 TX0 11, w ∈ wsX1_further := by decide +kernel
  have hga : va_P D vwCl [(qa.1, .inr (0, [.ref qa.2.1, .ref qa.2.2.1, .ref qa.2.2.2, .int (gK x), .int (gC x), .long (gV x), .int (gM x), .long (gH x), .long (gL x), .int (gR x), .int (gW x)])), (qa.2.1, .inl (cI, 8, .inl (gSo x))), (qa.2.2.1, .inl (cI, 8, .inl (gSr x))), (qa.2.2.2, .inl (cJ, 8, .inr (.inl (gOp x))))] s.heap := ha
  have hgb : va_P D vwCl [(qb.1, .inr (0, [.ref qb.2.1, .ref qb.2.2.1, .ref qb.2.2.2, .int (gK y), .int (gC y), .long (gV y), .int (gM y), .long (gH y), .long (gL y), .int (gR y), .int (gW y)])), (qb.2.1, .inl (cI, 8, .inl (gSo y))), (qb.2.2.1, .inl (cI, 8, .inl (gSr y))), (qb.2.2.2, .inl (cJ, 8, .inr (.inl (gOp y))))] s.heap := hb9
  refine lv_aload_n hx hb dX1_further_0 rfl (lv_at hl 1 rfl) ?_
  refine va_getN (D := D) (ci := 0) (v := .long (gV y)) (C := RX0) (T := TX0) (N := 11) hx hb hts hinX0 hown hK hgb 0 rfl rfl 5 (by decide) (hKW.n 5 rfl rfl) (fun _ h9 => h9) rfl dX1_further_1 ?_
  refine lv_aload_n hx hb dX1_further_4 rfl (lv_at hl 0 rfl) ?_
  refine va_getN (D := D) (ci := 0) (v := .long (gV x)) (C := RX0) (T := TX0) (N := 11) hx hb hts hinX0 hown hK hga 0 rfl rfl 5 (by decide) (hKW.n 5 rfl rfl) (fun _ h9 => h9) rfl dX1_further_5 ?_
  refine lv_aload_n hx hb dX1_further_8 rfl (lv_at hl 0 rfl) ?_
  refine va_getN (D := D) (ci := 0) (v := .int (gK x)) (C := RX0) (T := TX0) (N := 11) hx hb hts hinX0 hown hK hga 0 rfl rfl 3 (by decide) (hKW.n 3 rfl rfl) (fun _ h9 => h9) rfl dX1_further_9 ?_
  refine pu_S (As := [.long (gV y), .long (gV x), .int (gK x)]) (rest := []) ⟨hx, hb, hml, hown, hts⟩ (c_X1_isAbove l s.heap (gV y) (gV x) (gK x)) puK_T trivial (va_cwS 3 hts gX1_further_X1_isAbove rfl rfl rfl (by decide +kernel) ⟨Nat.le_of_ble_eq_true rfl, Nat.le_of_ble_eq_true rfl⟩) rfl hl.1 rfl (Nat.le_of_ble_eq_true rfl) dX1_further_12 ⟨Nat.zero_le _, Nat.zero_le _⟩ ?_
  refine W.eq (g2 := F0 m 15 ls [.int (f_X1_isAbove (gV y) (gV x) (gK x))]) rfl ?_
  refine lv_iload_n hx hb dX1_further_15 rfl (lv_at hl 2 rfl) ?_
  refine lv_icmp_ne (tgt := 23) hx hb dX1_further_16 (by decide) (fun z_9 => ?_) (fun z_9 => absurd z_9 hu)
  refine lv_aload_n hx hb dX1_further_23 rfl (lv_at hl 0 rfl) ?_
  exact W.aret (v := .ref qa.1) hx hb hr (Or.inl ⟨_, rfl⟩) (Or.inr ⟨_, rfl⟩) (fun t ht hW => ⟨rfl, ht⟩) (fun _ h => nomatch h) dX1_further_24
/-- the furthest so far -/
def mostL (st : Nat → Option GS) (b0 b1 : Int32) : Nat → Option (Nat × GS) → Nat → Option (Nat × GS)
  | 0, o, _ => o
  | k + 1, o, i => if (12 : Int32) ≤ (nI i) then o else oe (st i) (mostL st b0 b1 k o (i + 1)) (fun y => if (gK y) = b0 then mostL st b0 b1 k (some (match o with
      | none => (i, y)
      | some q => if (f_X1_isAbove (gV y) (gV q.2) (gK q.2)) = b1 then (i, y) else q)) (i + 1) else mostL st b0 b1 k o (i + 1))
def bV (ad : Nat → ga) : Option (Nat × GS) → Value
  | none => .null
  | some q => .ref (ad q.1).1
theorem mL_e {st : Nat → Option GS} {b0 b1 : Int32} {k i : Nat} {o : Option (Nat × GS)} (h : (12 : Int32) ≤ nI i) : mostL st b0 b1 (k + 1) o i = o := by rw [mostL, if_pos h]
theorem mL_n {st : Nat → Option GS} {b0 b1 : Int32} {k i : Nat} {o : Option (Nat × GS)} (h : ¬ (12 : Int32) ≤ nI i) (hs : st i = none) : mostL st b0 b1 (k + 1) o i = mostL st b0 b1 k o (i + 1) := by rw [mostL, if_neg h, oe_none hs]
theorem mL_k {st : Nat → Option GS} {b0 b1 : Int32} {k i : Nat} {o : Option (Nat × GS)} {y : GS} (h : ¬ (12 : Int32) ≤ nI i) (hs : st i = some y) (hk : ¬ gK y = b0) : mostL st b0 b1 (k + 1) o i = mostL st b0 b1 k o (i + 1) := by rw [mostL, if_neg h, oe_some hs, if_neg hk]
theorem mL_0 {st : Nat → Option GS} {b0 b1 : Int32} {k i : Nat} {y : GS} (h : ¬ (12 : Int32) ≤ nI i) (hs : st i = some y) (hk : gK y = b0) : mostL st b0 b1 (k + 1) none i = mostL st b0 b1 k (some (i, y)) (i + 1) := by rw [mostL, if_neg h, oe_some hs, if_pos hk]
theorem mL_b {st : Nat → Option GS} {b0 b1 : Int32} {k i bi : Nat} {y yb : GS} (h : ¬ (12 : Int32) ≤ nI i) (hs : st i = some y) (hk : gK y = b0) (hu : (f_X1_isAbove (gV y) (gV yb) (gK yb)) = b1) : mostL st b0 b1 (k + 1) (some (bi, yb)) i = mostL st b0 b1 k (some (i, y)) (i + 1) := by
  rw [mostL, if_neg h, oe_some hs, if_pos hk]
  show mostL st b0 b1 k (some (if f_X1_isAbove (gV y) (gV yb) (gK yb) = b1 then (i, y) else (bi, yb))) (i + 1) = _
  rw [if_pos hu]
theorem mL_a {st : Nat → Option GS} {b0 b1 : Int32} {k i bi : Nat} {y yb : GS} (h : ¬ (12 : Int32) ≤ nI i) (hs : st i = some y) (hk : gK y = b0) (hu : ¬ (f_X1_isAbove (gV y) (gV yb) (gK yb)) = b1) : mostL st b0 b1 (k + 1) (some (bi, yb)) i = mostL st b0 b1 k (some (bi, yb)) (i + 1) := by
  rw [mostL, if_neg h, oe_some hs, if_pos hk]
  show mostL st b0 b1 k (some (if f_X1_isAbove (gV y) (gV yb) (gK yb) = b1 then (i, y) else (bi, yb))) (i + 1) = _
  rw [if_neg hu]
set_option maxHeartbeats 4000000 in
set_option maxRecDepth 100000 in
theorem t_X1_most_A (l : Launch) (hst : l.stackTraces = false) (z : Nat) (H0 : Heap) (hz : z ≤ H0.size) (D : va_G) (cI cJ cZ cG : ClassId) (b P : Nat) (ad : Nat → ga) (st : Nat → Option GS) (b0 b1 : Int32) (hno : e_X1_needKind b0 = 2) (hPB : va_P D vwCl (BW cI cJ cG b P ad st) H0) : th l yX1_most wsX1_most ({ frames := 7, cells := 1, slots := 6, locals := 102 }) [Value.ref b, Value.int b0, Value.int b1] (KZ D cI cJ cZ cG z H0) H0 "java/lang/IllegalArgumentException" := by
  refine vx_ofW (cc := cX1_most) (maxL := 6) (ret := (some .long)) (by decide) rfl ?_
  intro p e s m args below meth c s₁ B hml hex hv
  obtain ⟨rfl, hH, hKZ⟩ := hv
  have hx := B.exec
  have hb := B.bytes
  have hr := B.returns
  have hts := atoms_spec (ws := wsX1_most) B.pre
  have hown : s.vm.findClass RX1 = some m.cls := findClass_of_methodNamed B.named
  have hlocks := B.notSynchronized
  subst hH
  have hKW := hKZ.1
  have hK := hKW.1
  have hl := lv_entry ([Value.ref b, Value.int b0, Value.int b1]) (n := 6) (Nat.le_of_ble_eq_true rfl)
  rw [lg_entry_eq]
  generalize (lg_sl ([Value.ref b, Value.int b0, Value.int b1]) ++ List.replicate (6 - (lg_sl ([Value.ref b, Value.int b0, Value.int b1])).length) Slot.unset).toArray = ls at hl ⊢
  have hl : lv_has ls 6 [(0, .ref b), (1, .int b0), (2, .int b1)] := hl
  have hB : va_P D vwCl [(b, .inr (1, [.ref P])), (P, .inl (cG, 12, .inr (.inr (.inr (.inr (pl ad st))))))] s.heap := BW_board hPB
  refine lv_iload_n hx hb dX1_most_0 rfl (lv_at hl 1 rfl) ?_
  exact th_S (As := [.int b0]) (rest := []) ⟨hx, hb, hml, hown, hts⟩ (t_X1_needKind l hst z s.heap hz D cI cJ cZ cG b0 hno) (KZ_puK D cI cJ cZ cG z s.heap) hKZ (va_cwS 1 hts gX1_most_X1_needKind rfl rfl rfl (by decide +kernel) ⟨Nat.le_of_ble_eq_true rfl, Nat.le_of_ble_eq_true rfl⟩) rfl hl.1 rfl (Nat.le_of_ble_eq_true rfl) dX1_most_1 ⟨Nat.le_of_ble_eq_true rfl, Nat.le_of_ble_eq_true rfl⟩ hex hlocks
set_option maxHeartbeats 4000000 in
set_option maxRecDepth 100000 in
theorem c_X1_most (l : Launch) (H0 : Heap) (D : va_G) (cI cJ cZ cG : ClassId) (b P : Nat) (ad : Nat → ga) (st : Nat → Option GS) (b0 b1 : Int32) (q : Nat × GS) (hok : e_X1_needKind b0 = 0) (hq : mostL st b0 b1 13 none 0 = some q) (hPB : va_P D vwCl (BW cI cJ cG b P ad st) H0) : pu l yX1_most wsX1_most ({ frames := 4, cells := 0, slots := 0, locals := 88 }) [Value.ref b, Value.int b0, Value.int b1] (KW D cI cJ cZ cG) H0 (some (.long (gV q.2))) := by
  refine Met.ofW (cc := cX1_most) (maxL := 6) (ret := (some .long)) (by decide) rfl ?_
  intro p e s m args below meth c s₁ B hml hv
  obtain ⟨rfl, hH, hKW⟩ := hv
  have hx := B.exec
  have hb := B.bytes
  have hr := B.returns
  have hts := atoms_spec (ws := wsX1_most) B.pre
  have hown : s.vm.findClass RX1 = some m.cls := findClass_of_methodNamed B.named
  have hlocks := B.notSynchronized
  subst hH
  have hK := hKW.1
  have hl := lv_entry ([Value.ref b, Value.int b0, Value.int b1]) (n := 6) (Nat.le_of_ble_eq_true rfl)
  rw [lg_entry_eq]
  generalize (lg_sl ([Value.ref b, Value.int b0, Value.int b1]) ++ List.replicate (6 - (lg_sl ([Value.ref b, Value.int b0, Value.int b1])).length) Slot.unset).toArray = ls at hl ⊢
  have hl : lv_has ls 6 [(0, .ref b), (1, .int b0), (2, .int b1)] := hl
  have hinX0 : ∀ w ∈ u_ws RX0 TX0 11, w ∈ wsX1_most := by decide +kernel
  have hinX1 : ∀ w ∈ u_ws RX1 TX1 1, w ∈ wsX1_most := by decide +kernel
  have hB : va_P D vwCl [(b, .inr (1, [.ref P])), (P, .inl (cG, 12, .inr (.inr (.inr (.inr (pl ad st))))))] s.heap := BW_board hPB
  refine lv_iload_n hx hb dX1_most_0 rfl (lv_at hl 1 rfl) ?_
  refine pu_S (As := [.int b0]) (rest := []) ⟨hx, hb, hml, hown, hts⟩ (c_X1_needKind l s.heap b0 hok) puK_T trivial (va_cwS 1 hts gX1_most_X1_needKind rfl rfl rfl (by decide +kernel) ⟨Nat.le_of_ble_eq_true rfl, Nat.le_of_ble_eq_true rfl⟩) rfl hl.1 rfl (Nat.le_of_ble_eq_true rfl) dX1_most_1 ⟨Nat.zero_le _, Nat.zero_le _⟩ ?_
  refine W.eq (g2 := F0 m 4 ls []) rfl ?_
  refine lv_null hx hb dX1_most_4 ?_
  refine lv_astore_nN (lv' := [(3, .null), (0, .ref b), (1, .int b0), (2, .int b1)]) hx hb dX1_most_5 rfl hl (by decide) rfl (fun ls hl => ?_)
  refine lv_iconst (v := 0) hx hb dX1_most_6 (by decide) ?_
  refine lv_istore (lv' := [(4, .int (0 : Int32)), (3, .null), (0, .ref b), (1, .int b0), (2, .int b1)]) hx hb dX1_most_7 hl (by decide) rfl (fun ls hl => ?_)
  have hloop : ∀ (k i : Nat) (o : Option (Nat × GS)), i ≤ 12 → 13 ≤ i + k → (∀ q, o = some q → q.1 < 12 ∧ st q.1 = some q.2) → mostL st b0 b1 k o i = mostL st b0 b1 13 none 0 → ∀ ls : Array Slot, lv_has ls 6 [(4, .int (nI i)), (3, bV ad o), (0, .ref b), (1, .int b0), (2, .int b1)] → W p l e (headSpec wsX1_most { frames := 4, cells := 0, slots := 0, locals := 88 }).room s m [Value.ref b, Value.int b0, Value.int b1].toArray below meth c s.heap [] 0 0 (MQ below (fun _ _ o t => o = .returned (some (.long (gV q.2))) ∧ t.heap = s.heap) [Value.ref b, Value.int b0, Value.int b1].toArray s 0 0 (fun _ => False)) (F0 m 9 ls []) := by
    intro k
    induction k with
    | zero => intro i o h1 h2; omega
    | succ k ih =>
      intro i o hi hk ho hf ls hl
      rcases o with _ | ⟨bi, yb⟩
      · have hl : lv_has ls 6 [(4, .int (nI i)), (3, .null), (0, .ref b), (1, .int b0), (2, .int b1)] := hl
        refine lv_iload hx hb dX1_most_9 (lv_at hl 0 rfl) ?_
        refine lv_bipush (v := 12) hx hb dX1_most_11 (by decide) ?_
        refine lv_icmp_ge (tgt := 62) hx hb dX1_most_13 (by decide) (fun c_1 => ?_) (fun c_1 => ?_)
        · refine lv_aload_nN hx hb dX1_most_62 rfl (lv_at hl 1 rfl) ?_
          refine lv_ifnonnullN hx hb dX1_most_63 ?_
          exact absurd hq (by rw [← hf, mL_e c_1]; exact fun h => by cases h)
        · refine lv_aload_n hx hb dX1_most_16 rfl (lv_at hl 2 rfl) ?_
          refine va_get (D := D) (ci := 1) (v := .ref P) (C := RX1) (T := TX1) (N := 1) hx hb hts hinX1 hown hK hB 0 rfl rfl 0 (by decide) (hts (.fieldLink RX1 11 "GaugeBoard" "places" "[LGaugeBoard$Gauge;") (by decide +kernel)) (fun _ h9 => h9) rfl dX1_most_17 ?_
          refine lv_iload hx hb dX1_most_20 (lv_at hl 0 rfl) ?_
          refine va_aldq hx hb hK hB 1 3 rfl rfl (vp_in_nI (nlt12 c_1 (by omega)) (by decide)) dX1_most_22 ?_
          rcases hs : st i with _ | y
          · refine W.eq (g2 := F0 m 23 ls [.null]) (by rw [pl_no (by omega) hs]) ?_
            refine lv_astoreN (lv' := [(5, .null), (4, .int (nI i)), (3, .null), (0, .ref b), (1, .int b0), (2, .int b1)]) hx hb dX1_most_23 hl (by decide) rfl (fun ls hl => ?_)
            refine lv_aloadN hx hb dX1_most_25 (lv_at hl 0 rfl) ?_
            refine lv_ifnullN (tgt := 56) hx hb dX1_most_27 (by decide) ?_
            refine lv_iinc (v := (nI i) + 1) (lv' := [(4, .int ((nI i) + 1)), (5, .null), (3, .null), (0, .ref b), (1, .int b0), (2, .int b1)]) hx hb dX1_most_56 hl (k := 1) rfl rfl (by decide) rfl (fun ls hl => ?_)
            refine lv_goto (tgt := 9) hx hb dX1_most_59 (by decide) ?_
            have hl := lv_sub hl [0, 2, 3, 4, 5] rfl
            rw [nI_1] at hl
            exact ih (i + 1) none (nlt12 c_1 (by omega)) (by omega) ho (by rw [← hf, mL_n c_1 hs]) ls hl
          · refine W.eq (g2 := F0 m 23 ls [.ref ((ad i).1)]) (by rw [pl_of (by omega) hs]) ?_
            have hy : va_P D vwCl [((ad i).1, .inr (0, [.ref ((ad i).2.1), .ref ((ad i).2.2.1), .ref ((ad i).2.2.2), .int (gK y), .int (gC y), .long (gV y), .int (gM y), .long (gH y), .long (gL y), .int (gR y), .int (gW y)])), ((ad i).2.1, .inl (cI, 8, .inl (gSo y))), ((ad i).2.2.1, .inl (cI, 8, .inl (gSr y))), ((ad i).2.2.2, .inl (cJ, 8, .inr (.inl (gOp y))))] s.heap := BW_gauge hPB (nlt12 c_1 (by omega)) hs
            refine lv_astore (lv' := [(5, .ref ((ad i).1)), (4, .int (nI i)), (3, .null), (0, .ref b), (1, .int b0), (2, .int b1)]) hx hb dX1_most_23 hl (by decide) rfl (fun ls hl => ?_)
            refine lv_aload hx hb dX1_most_25 (lv_at hl 0 rfl) ?_
            refine lv_ifnull hx hb dX1_most_27 ?_
            refine lv_aload hx hb dX1_most_30 (lv_at hl 0 rfl) ?_
            refine va_getN (D := D) (ci := 0) (v := .int (gK y)) (C := RX0) (T := TX0) (N := 11) hx hb hts hinX0 hown hK hy 0 rfl rfl 3 (by decide) (hKW.n 3 rfl rfl) (fun _ h9 => h9) rfl dX1_most_32 ?_
            refine lv_iload_n hx hb dX1_most_35 rfl (lv_at hl 4 rfl) ?_
            refine lv_icmp_ne (tgt := 56) hx hb dX1_most_36 (by decide) (fun c_2 => ?_) (fun c_2 => ?_)
            · refine lv_iinc (v := (nI i) + 1) (lv' := [(4, .int ((nI i) + 1)), (5, .ref ((ad i).1)), (3, .null), (0, .ref b), (1, .int b0), (2, .int b1)]) hx hb dX1_most_56 hl (k := 1) rfl rfl (by decide) rfl (fun ls hl => ?_)
              refine lv_goto (tgt := 9) hx hb dX1_most_59 (by decide) ?_
              have hl := lv_sub hl [0, 2, 3, 4, 5] rfl
              rw [nI_1] at hl
              exact ih (i + 1) none (nlt12 c_1 (by omega)) (by omega) ho (by rw [← hf, mL_k c_1 hs c_2]) ls hl
            · refine lv_aload_nN hx hb dX1_most_39 rfl (lv_at hl 2 rfl) ?_
              refine lv_ifnonnullN hx hb dX1_most_40 ?_
              refine lv_aload hx hb dX1_most_43 (lv_at hl 0 rfl) ?_
              refine lv_goto (tgt := 55) hx hb dX1_most_45 (by decide) ?_
              refine lv_astore_n (lv' := [(3, .ref ((ad i).1)), (5, .ref ((ad i).1)), (4, .int (nI i)), (0, .ref b), (1, .int b0), (2, .int b1)]) hx hb dX1_most_55 rfl hl (by decide) rfl (fun ls hl => ?_)
              refine lv_iinc (v := (nI i) + 1) (lv' := [(4, .int ((nI i) + 1)), (3, .ref ((ad i).1)), (5, .ref ((ad i).1)), (0, .ref b), (1, .int b0), (2, .int b1)]) hx hb dX1_most_56 hl (k := 2) rfl rfl (by decide) rfl (fun ls hl => ?_)
              refine lv_goto (tgt := 9) hx hb dX1_most_59 (by decide) ?_
              have hl := lv_sub hl [0, 1, 3, 4, 5] rfl
              rw [nI_1] at hl
              exact ih (i + 1) (some (i, y)) (nlt12 c_1 (by omega)) (by omega) (fun q h => by cases h; exact ⟨nlt12 c_1 (by omega), hs⟩) (by rw [← hf, mL_0 c_1 hs c_2]) ls hl
      · have hl : lv_has ls 6 [(4, .int (nI i)), (3, .ref ((ad bi).1)), (0, .ref b), (1, .int b0), (2, .int b1)] := hl
        obtain ⟨hbi, hsb⟩ := ho (bi, yb) rfl
        have hyb : va_P D vwCl [((ad bi).1, .inr (0, [.ref ((ad bi).2.1), .ref ((ad bi).2.2.1), .ref ((ad bi).2.2.2), .int (gK yb), .int (gC yb), .long (gV yb), .int (gM yb), .long (gH yb), .long (gL yb), .int (gR yb), .int (gW yb)])), ((ad bi).2.1, .inl (cI, 8, .inl (gSo yb))), ((ad bi).2.2.1, .inl (cI, 8, .inl (gSr yb))), ((ad bi).2.2.2, .inl (cJ, 8, .inr (.inl (gOp yb))))] s.heap := BW_gauge hPB hbi hsb
        refine lv_iload hx hb dX1_most_9 (lv_at hl 0 rfl) ?_
        refine lv_bipush (v := 12) hx hb dX1_most_11 (by decide) ?_
        refine lv_icmp_ge (tgt := 62) hx hb dX1_most_13 (by decide) (fun c_3 => ?_) (fun c_3 => ?_)
        · refine lv_aload_n hx hb dX1_most_62 rfl (lv_at hl 1 rfl) ?_
          refine lv_ifnonnull (tgt := 76) hx hb dX1_most_63 (by decide) ?_
          refine lv_aload_n hx hb dX1_most_76 rfl (lv_at hl 1 rfl) ?_
          refine va_getN (D := D) (ci := 0) (v := .long (gV yb)) (C := RX0) (T := TX0) (N := 11) hx hb hts hinX0 hown hK hyb 0 rfl rfl 5 (by decide) (hKW.n 5 rfl rfl) (fun _ h9 => h9) rfl dX1_most_77 ?_
          have hq2 : q = (bi, yb) := Option.some.inj (hq.symm.trans (by rw [← hf, mL_e c_3]))
          exact W.lret (v := gV yb) hx hb hr (fun t ht hW => ⟨by rw [hq2], ht⟩) (fun _ h => nomatch h) dX1_most_80
        · refine lv_aload_n hx hb dX1_most_16 rfl (lv_at hl 2 rfl) ?_
          refine va_get (D := D) (ci := 1) (v := .ref P) (C := RX1) (T := TX1) (N := 1) hx hb hts hinX1 hown hK hB 0 rfl rfl 0 (by decide) (hts (.fieldLink RX1 11 "GaugeBoard" "places" "[LGaugeBoard$Gauge;") (by decide +kernel)) (fun _ h9 => h9) rfl dX1_most_17 ?_
          refine lv_iload hx hb dX1_most_20 (lv_at hl 0 rfl) ?_
          refine va_aldq hx hb hK hB 1 3 rfl rfl (vp_in_nI (nlt12 c_3 (by omega)) (by decide)) dX1_most_22 ?_
          rcases hs : st i with _ | y
          · refine W.eq (g2 := F0 m 23 ls [.null]) (by rw [pl_no (by omega) hs]) ?_
            refine lv_astoreN (lv' := [(5, .null), (4, .int (nI i)), (3, .ref ((ad bi).1)), (0, .ref b), (1, .int b0), (2, .int b1)]) hx hb dX1_most_23 hl (by decide) rfl (fun ls hl => ?_)
            refine lv_aloadN hx hb dX1_most_25 (lv_at hl 0 rfl) ?_
            refine lv_ifnullN (tgt := 56) hx hb dX1_most_27 (by decide) ?_
            refine lv_iinc (v := (nI i) + 1) (lv' := [(4, .int ((nI i) + 1)), (5, .null), (3, .ref ((ad bi).1)), (0, .ref b), (1, .int b0), (2, .int b1)]) hx hb dX1_most_56 hl (k := 1) rfl rfl (by decide) rfl (fun ls hl => ?_)
            refine lv_goto (tgt := 9) hx hb dX1_most_59 (by decide) ?_
            have hl := lv_sub hl [0, 2, 3, 4, 5] rfl
            rw [nI_1] at hl
            exact ih (i + 1) (some (bi, yb)) (nlt12 c_3 (by omega)) (by omega) ho (by rw [← hf, mL_n c_3 hs]) ls hl
          · refine W.eq (g2 := F0 m 23 ls [.ref ((ad i).1)]) (by rw [pl_of (by omega) hs]) ?_
            have hy : va_P D vwCl [((ad i).1, .inr (0, [.ref ((ad i).2.1), .ref ((ad i).2.2.1), .ref ((ad i).2.2.2), .int (gK y), .int (gC y), .long (gV y), .int (gM y), .long (gH y), .long (gL y), .int (gR y), .int (gW y)])), ((ad i).2.1, .inl (cI, 8, .inl (gSo y))), ((ad i).2.2.1, .inl (cI, 8, .inl (gSr y))), ((ad i).2.2.2, .inl (cJ, 8, .inr (.inl (gOp y))))] s.heap := BW_gauge hPB (nlt12 c_3 (by omega)) hs
            refine lv_astore (lv' := [(5, .ref ((ad i).1)), (4, .int (nI i)), (3, .ref ((ad bi).1)), (0, .ref b), (1, .int b0), (2, .int b1)]) hx hb dX1_most_23 hl (by decide) rfl (fun ls hl => ?_)
            refine lv_aload hx hb dX1_most_25 (lv_at hl 0 rfl) ?_
            refine lv_ifnull hx hb dX1_most_27 ?_
            refine lv_aload hx hb dX1_most_30 (lv_at hl 0 rfl) ?_
            refine va_getN (D := D) (ci := 0) (v := .int (gK y)) (C := RX0) (T := TX0) (N := 11) hx hb hts hinX0 hown hK hy 0 rfl rfl 3 (by decide) (hKW.n 3 rfl rfl) (fun _ h9 => h9) rfl dX1_most_32 ?_
            refine lv_iload_n hx hb dX1_most_35 rfl (lv_at hl 4 rfl) ?_
            refine lv_icmp_ne (tgt := 56) hx hb dX1_most_36 (by decide) (fun c_4 => ?_) (fun c_4 => ?_)
            · refine lv_iinc (v := (nI i) + 1) (lv' := [(4, .int ((nI i) + 1)), (5, .ref ((ad i).1)), (3, .ref ((ad bi).1)), (0, .ref b), (1, .int b0), (2, .int b1)]) hx hb dX1_most_56 hl (k := 1) rfl rfl (by decide) rfl (fun ls hl => ?_)
              refine lv_goto (tgt := 9) hx hb dX1_most_59 (by decide) ?_
              have hl := lv_sub hl [0, 2, 3, 4, 5] rfl
              rw [nI_1] at hl
              exact ih (i + 1) (some (bi, yb)) (nlt12 c_3 (by omega)) (by omega) ho (by rw [← hf, mL_k c_3 hs c_4]) ls hl
            · refine lv_aload_n hx hb dX1_most_39 rfl (lv_at hl 2 rfl) ?_
              refine lv_ifnonnull (tgt := 48) hx hb dX1_most_40 (by decide) ?_
              refine lv_aload_n hx hb dX1_most_48 rfl (lv_at hl 2 rfl) ?_
              refine lv_aload hx hb dX1_most_49 (lv_at hl 0 rfl) ?_
              refine lv_iload_n hx hb dX1_most_51 rfl (lv_at hl 5 rfl) ?_
              by_cases hu : (f_X1_isAbove (gV y) (gV yb) (gK yb)) = b1
              · refine pu_S (As := [.ref ((ad bi).1), .ref ((ad i).1), .int b1]) (rest := []) ⟨hx, hb, hml, hown, hts⟩ (c_X1_further_b l s.heap D cI cJ cZ cG (ad bi) (ad i) yb y b1 hu hyb hy) (KW_puK D cI cJ cZ cG) hKW (va_cwS 3 hts gX1_most_X1_further rfl rfl rfl (by decide +kernel) ⟨Nat.le_of_ble_eq_true rfl, Nat.le_of_ble_eq_true rfl⟩) rfl hl.1 rfl (Nat.le_of_ble_eq_true rfl) dX1_most_52 ⟨Nat.zero_le _, Nat.zero_le _⟩ ?_
                refine W.eq (g2 := F0 m 55 ls [.ref ((ad i).1)]) rfl ?_
                refine lv_astore_n (lv' := [(3, .ref ((ad i).1)), (5, .ref ((ad i).1)), (4, .int (nI i)), (0, .ref b), (1, .int b0), (2, .int b1)]) hx hb dX1_most_55 rfl hl (by decide) rfl (fun ls hl => ?_)
                refine lv_iinc (v := (nI i) + 1) (lv' := [(4, .int ((nI i) + 1)), (3, .ref ((ad i).1)), (5, .ref ((ad i).1)), (0, .ref b), (1, .int b0), (2, .int b1)]) hx hb dX1_most_56 hl (k := 2) rfl rfl (by decide) rfl (fun ls hl => ?_)
                refine lv_goto (tgt := 9) hx hb dX1_most_59 (by decide) ?_
                have hl := lv_sub hl [0, 1, 3, 4, 5] rfl
                rw [nI_1] at hl
                exact ih (i + 1) (some (i, y)) (nlt12 c_3 (by omega)) (by omega) (fun q h => by cases h; exact ⟨nlt12 c_3 (by omega), hs⟩) (by rw [← hf, mL_b c_3 hs c_4 hu]) ls hl
              · refine pu_S (As := [.ref ((ad bi).1), .ref ((ad i).1), .int b1]) (rest := []) ⟨hx, hb, hml, hown, hts⟩ (c_X1_further_a l s.heap D cI cJ cZ cG (ad bi) (ad i) yb y b1 hu hyb hy) (KW_puK D cI cJ cZ cG) hKW (va_cwS 3 hts gX1_most_X1_further rfl rfl rfl (by decide +kernel) ⟨Nat.le_of_ble_eq_true rfl, Nat.le_of_ble_eq_true rfl⟩) rfl hl.1 rfl (Nat.le_of_ble_eq_true rfl) dX1_most_52 ⟨Nat.zero_le _, Nat.zero_le _⟩ ?_
                refine W.eq (g2 := F0 m 55 ls [.ref ((ad bi).1)]) rfl ?_
                refine lv_astore_n (lv' := [(3, .ref ((ad bi).1)), (5, .ref ((ad i).1)), (4, .int (nI i)), (0, .ref b), (1, .int b0), (2, .int b1)]) hx hb dX1_most_55 rfl hl (by decide) rfl (fun ls hl => ?_)
                refine lv_iinc (v := (nI i) + 1) (lv' := [(4, .int ((nI i) + 1)), (3, .ref ((ad bi).1)), (5, .ref ((ad i).1)), (0, .ref b), (1, .int b0), (2, .int b1)]) hx hb dX1_most_56 hl (k := 2) rfl rfl (by decide) rfl (fun ls hl => ?_)
                refine lv_goto (tgt := 9) hx hb dX1_most_59 (by decide) ?_
                have hl := lv_sub hl [0, 1, 3, 4, 5] rfl
                rw [nI_1] at hl
                exact ih (i + 1) (some (bi, yb)) (nlt12 c_3 (by omega)) (by omega) ho (by rw [← hf, mL_a c_3 hs c_4 hu]) ls hl
  exact hloop 13 0 none (Nat.zero_le _) (Nat.le_refl _) (fun q h => by cases h) rfl ls (lv_sub hl [0, 1, 2, 3, 4] rfl)
set_option maxHeartbeats 4000000 in
set_option maxRecDepth 100000 in
theorem t_X1_most_S (l : Launch) (hst : l.stackTraces = false) (z : Nat) (H0 : Heap) (hz : z ≤ H0.size) (D : va_G) (cI cJ cZ cG : ClassId) (b P : Nat) (ad : Nat → ga) (st : Nat → Option GS) (b0 b1 : Int32) (hok : e_X1_needKind b0 = 0) (hq : mostL st b0 b1 13 none 0 = none) (hPB : va_P D vwCl (BW cI cJ cG b P ad st) H0) : th l yX1_most wsX1_most ({ frames := 7, cells := 1, slots := 6, locals := 102 }) [Value.ref b, Value.int b0, Value.int b1] (KZ D cI cJ cZ cG z H0) H0 "java/lang/IllegalStateException" := by
  refine vx_ofW (cc := cX1_most) (maxL := 6) (ret := (some .long)) (by decide) rfl ?_
  intro p e s m args below meth c s₁ B hml hex hv
  obtain ⟨rfl, hH, hKZ⟩ := hv
  have hx := B.exec
  have hb := B.bytes
  have hr := B.returns
  have hts := atoms_spec (ws := wsX1_most) B.pre
  have hown : s.vm.findClass RX1 = some m.cls := findClass_of_methodNamed B.named
  have hlocks := B.notSynchronized
  subst hH
  have hKW := hKZ.1
  have hK := hKW.1
  have hl := lv_entry ([Value.ref b, Value.int b0, Value.int b1]) (n := 6) (Nat.le_of_ble_eq_true rfl)
  rw [lg_entry_eq]
  generalize (lg_sl ([Value.ref b, Value.int b0, Value.int b1]) ++ List.replicate (6 - (lg_sl ([Value.ref b, Value.int b0, Value.int b1])).length) Slot.unset).toArray = ls at hl ⊢
  have hl : lv_has ls 6 [(0, .ref b), (1, .int b0), (2, .int b1)] := hl
  have hinX0 : ∀ w ∈ u_ws RX0 TX0 11, w ∈ wsX1_most := by decide +kernel
  have hinX1 : ∀ w ∈ u_ws RX1 TX1 1, w ∈ wsX1_most := by decide +kernel
  have hB : va_P D vwCl [(b, .inr (1, [.ref P])), (P, .inl (cG, 12, .inr (.inr (.inr (.inr (pl ad st))))))] s.heap := BW_board hPB
  refine lv_iload_n hx hb dX1_most_0 rfl (lv_at hl 1 rfl) ?_
  refine pu_S (As := [.int b0]) (rest := []) ⟨hx, hb, hml, hown, hts⟩ (c_X1_needKind l s.heap b0 hok) puK_T trivial (va_cwS 1 hts gX1_most_X1_needKind rfl rfl rfl (by decide +kernel) ⟨Nat.le_of_ble_eq_true rfl, Nat.le_of_ble_eq_true rfl⟩) rfl hl.1 rfl (Nat.le_of_ble_eq_true rfl) dX1_most_1 ⟨Nat.zero_le _, Nat.zero_le _⟩ ?_
  refine W.eq (g2 := F0 m 4 ls []) rfl ?_
  refine lv_null hx hb dX1_most_4 ?_
  refine lv_astore_nN (lv' := [(3, .null), (0, .ref b), (1, .int b0), (2, .int b1)]) hx hb dX1_most_5 rfl hl (by decide) rfl (fun ls hl => ?_)
  refine lv_iconst (v := 0) hx hb dX1_most_6 (by decide) ?_
  refine lv_istore (lv' := [(4, .int (0 : Int32)), (3, .null), (0, .ref b), (1, .int b0), (2, .int b1)]) hx hb dX1_most_7 hl (by decide) rfl (fun ls hl => ?_)
  have hloop : ∀ (k i : Nat) (o : Option (Nat × GS)), i ≤ 12 → 13 ≤ i + k → (∀ q, o = some q → q.1 < 12 ∧ st q.1 = some q.2) → mostL st b0 b1 k o i = mostL st b0 b1 13 none 0 → ∀ ls : Array Slot, lv_has ls 6 [(4, .int (nI i)), (3, bV ad o), (0, .ref b), (1, .int b0), (2, .int b1)] → W p l e (headSpec wsX1_most { frames := 7, cells := 1, slots := 6, locals := 102 }).room s m [Value.ref b, Value.int b0, Value.int b1].toArray below meth c s.heap [] 0 0 (vx_MQ below (fun _ _ _ _ => False) (thX "java/lang/IllegalStateException" s.heap) [Value.ref b, Value.int b0, Value.int b1].toArray s 1 6 (fun _ => False)) (F0 m 9 ls []) := by
    intro k
    induction k with
    | zero => intro i o h1 h2; omega
    | succ k ih =>
      intro i o hi hk ho hf ls hl
      rcases o with _ | ⟨bi, yb⟩
      · have hl : lv_has ls 6 [(4, .int (nI i)), (3, .null), (0, .ref b), (1, .int b0), (2, .int b1)] := hl
        refine lv_iload hx hb dX1_most_9 (lv_at hl 0 rfl) ?_
        refine lv_bipush (v := 12) hx hb dX1_most_11 (by decide) ?_
        refine lv_icmp_ge (tgt := 62) hx hb dX1_most_13 (by decide) (fun c_1 => ?_) (fun c_1 => ?_)
        · refine lv_aload_nN hx hb dX1_most_62 rfl (lv_at hl 1 rfl) ?_
          refine lv_ifnonnullN hx hb dX1_most_63 ?_
          exact thr_S (text := "there is no gauge of this kind") hx hb hst hown hts hKZ hz (List.mem_of_getElem? (i := 15) rfl) (by decide +kernel) (by decide +kernel) (fun w h9 => List.mem_cons_of_mem _ (List.mem_append_left _ (List.mem_append_right _ h9))) (by rw [hml]; exact hl.1) dX1_most_66 dX1_most_69 dX1_most_70 dX1_most_72 dX1_most_75 hex (Nat.le_of_ble_eq_true rfl) (Nat.le_of_ble_eq_true rfl) (Nat.le_of_ble_eq_true rfl) (Nat.le_of_ble_eq_true rfl) hlocks
        · refine lv_aload_n hx hb dX1_most_16 rfl (lv_at hl 2 rfl) ?_
          refine va_get (D := D) (ci := 1) (v := .ref P) (C := RX1) (T := TX1) (N := 1) hx hb hts hinX1 hown hK hB 0 rfl rfl 0 (by decide) (hts (.fieldLink RX1 11 "GaugeBoard" "places" "[LGaugeBoard$Gauge;") (by decide +kernel)) (fun _ h9 => h9) rfl dX1_most_17 ?_
          refine lv_iload hx hb dX1_most_20 (lv_at hl 0 rfl) ?_
          refine va_aldq hx hb hK hB 1 3 rfl rfl (vp_in_nI (nlt12 c_1 (by omega)) (by decide)) dX1_most_22 ?_
          rcases hs : st i with _ | y
          · refine W.eq (g2 := F0 m 23 ls [.null]) (by rw [pl_no (by omega) hs]) ?_
            refine lv_astoreN (lv' := [(5, .null), (4, .int (nI i)), (3, .null), (0, .ref b), (1, .int b0), (2, .int b1)]) hx hb dX1_most_23 hl (by decide) rfl (fun ls hl => ?_)
            refine lv_aloadN hx hb dX1_most_25 (lv_at hl 0 rfl) ?_
            refine lv_ifnullN (tgt := 56) hx hb dX1_most_27 (by decide) ?_
            refine lv_iinc (v := (nI i) + 1) (lv' := [(4, .int ((nI i) + 1)), (5, .null), (3, .null), (0, .ref b), (1, .int b0), (2, .int b1)]) hx hb dX1_most_56 hl (k := 1) rfl rfl (by decide) rfl (fun ls hl => ?_)
            refine lv_goto (tgt := 9) hx hb dX1_most_59 (by decide) ?_
            have hl := lv_sub hl [0, 2, 3, 4, 5] rfl
            rw [nI_1] at hl
            exact ih (i + 1) none (nlt12 c_1 (by omega)) (by omega) ho (by rw [← hf, mL_n c_1 hs]) ls hl
          · refine W.eq (g2 := F0 m 23 ls [.ref ((ad i).1)]) (by rw [pl_of (by omega) hs]) ?_
            have hy : va_P D vwCl [((ad i).1, .inr (0, [.ref ((ad i).2.1), .ref ((ad i).2.2.1), .ref ((ad i).2.2.2), .int (gK y), .int (gC y), .long (gV y), .int (gM y), .long (gH y), .long (gL y), .int (gR y), .int (gW y)])), ((ad i).2.1, .inl (cI, 8, .inl (gSo y))), ((ad i).2.2.1, .inl (cI, 8, .inl (gSr y))), ((ad i).2.2.2, .inl (cJ, 8, .inr (.inl (gOp y))))] s.heap := BW_gauge hPB (nlt12 c_1 (by omega)) hs
            refine lv_astore (lv' := [(5, .ref ((ad i).1)), (4, .int (nI i)), (3, .null), (0, .ref b), (1, .int b0), (2, .int b1)]) hx hb dX1_most_23 hl (by decide) rfl (fun ls hl => ?_)
            refine lv_aload hx hb dX1_most_25 (lv_at hl 0 rfl) ?_
            refine lv_ifnull hx hb dX1_most_27 ?_
            refine lv_aload hx hb dX1_most_30 (lv_at hl 0 rfl) ?_
            refine va_getN (D := D) (ci := 0) (v := .int (gK y)) (C := RX0) (T := TX0) (N := 11) hx hb hts hinX0 hown hK hy 0 rfl rfl 3 (by decide) (hKW.n 3 rfl rfl) (fun _ h9 => h9) rfl dX1_most_32 ?_
            refine lv_iload_n hx hb dX1_most_35 rfl (lv_at hl 4 rfl) ?_
            refine lv_icmp_ne (tgt := 56) hx hb dX1_most_36 (by decide) (fun c_2 => ?_) (fun c_2 => ?_)
            · refine lv_iinc (v := (nI i) + 1) (lv' := [(4, .int ((nI i) + 1)), (5, .ref ((ad i).1)), (3, .null), (0, .ref b), (1, .int b0), (2, .int b1)]) hx hb dX1_most_56 hl (k := 1) rfl rfl (by decide) rfl (fun ls hl => ?_)
              refine lv_goto (tgt := 9) hx hb dX1_most_59 (by decide) ?_
              have hl := lv_sub hl [0, 2, 3, 4, 5] rfl
              rw [nI_1] at hl
              exact ih (i + 1) none (nlt12 c_1 (by omega)) (by omega) ho (by rw [← hf, mL_k c_1 hs c_2]) ls hl
            · refine lv_aload_nN hx hb dX1_most_39 rfl (lv_at hl 2 rfl) ?_
              refine lv_ifnonnullN hx hb dX1_most_40 ?_
              refine lv_aload hx hb dX1_most_43 (lv_at hl 0 rfl) ?_
              refine lv_goto (tgt := 55) hx hb dX1_most_45 (by decide) ?_
              refine lv_astore_n (lv' := [(3, .ref ((ad i).1)), (5, .ref ((ad i).1)), (4, .int (nI i)), (0, .ref b), (1, .int b0), (2, .int b1)]) hx hb dX1_most_55 rfl hl (by decide) rfl (fun ls hl => ?_)
              refine lv_iinc (v := (nI i) + 1) (lv' := [(4, .int ((nI i) + 1)), (3, .ref ((ad i).1)), (5, .ref ((ad i).1)), (0, .ref b), (1, .int b0), (2, .int b1)]) hx hb dX1_most_56 hl (k := 2) rfl rfl (by decide) rfl (fun ls hl => ?_)
              refine lv_goto (tgt := 9) hx hb dX1_most_59 (by decide) ?_
              have hl := lv_sub hl [0, 1, 3, 4, 5] rfl
              rw [nI_1] at hl
              exact ih (i + 1) (some (i, y)) (nlt12 c_1 (by omega)) (by omega) (fun q h => by cases h; exact ⟨nlt12 c_1 (by omega), hs⟩) (by rw [← hf, mL_0 c_1 hs c_2]) ls hl
      · have hl : lv_has ls 6 [(4, .int (nI i)), (3, .ref ((ad bi).1)), (0, .ref b), (1, .int b0), (2, .int b1)] := hl
        obtain ⟨hbi, hsb⟩ := ho (bi, yb) rfl
        have hyb : va_P D vwCl [((ad bi).1, .inr (0, [.ref ((ad bi).2.1), .ref ((ad bi).2.2.1), .ref ((ad bi).2.2.2), .int (gK yb), .int (gC yb), .long (gV yb), .int (gM yb), .long (gH yb), .long (gL yb), .int (gR yb), .int (gW yb)])), ((ad bi).2.1, .inl (cI, 8, .inl (gSo yb))), ((ad bi).2.2.1, .inl (cI, 8, .inl (gSr yb))), ((ad bi).2.2.2, .inl (cJ, 8, .inr (.inl (gOp yb))))] s.heap := BW_gauge hPB hbi hsb
        refine lv_iload hx hb dX1_most_9 (lv_at hl 0 rfl) ?_
        refine lv_bipush (v := 12) hx hb dX1_most_11 (by decide) ?_
        refine lv_icmp_ge (tgt := 62) hx hb dX1_most_13 (by decide) (fun c_3 => ?_) (fun c_3 => ?_)
        · refine lv_aload_n hx hb dX1_most_62 rfl (lv_at hl 1 rfl) ?_
          refine lv_ifnonnull (tgt := 76) hx hb dX1_most_63 (by decide) ?_
          refine lv_aload_n hx hb dX1_most_76 rfl (lv_at hl 1 rfl) ?_
          refine va_getN (D := D) (ci := 0) (v := .long (gV yb)) (C := RX0) (T := TX0) (N := 11) hx hb hts hinX0 hown hK hyb 0 rfl rfl 5 (by decide) (hKW.n 5 rfl rfl) (fun _ h9 => h9) rfl dX1_most_77 ?_
          exact absurd hq (by rw [← hf, mL_e c_3]; exact fun h => by cases h)
        · refine lv_aload_n hx hb dX1_most_16 rfl (lv_at hl 2 rfl) ?_
          refine va_get (D := D) (ci := 1) (v := .ref P) (C := RX1) (T := TX1) (N := 1) hx hb hts hinX1 hown hK hB 0 rfl rfl 0 (by decide) (hts (.fieldLink RX1 11 "GaugeBoard" "places" "[LGaugeBoard$Gauge;") (by decide +kernel)) (fun _ h9 => h9) rfl dX1_most_17 ?_
          refine lv_iload hx hb dX1_most_20 (lv_at hl 0 rfl) ?_
          refine va_aldq hx hb hK hB 1 3 rfl rfl (vp_in_nI (nlt12 c_3 (by omega)) (by decide)) dX1_most_22 ?_
          rcases hs : st i with _ | y
          · refine W.eq (g2 := F0 m 23 ls [.null]) (by rw [pl_no (by omega) hs]) ?_
            refine lv_astoreN (lv' := [(5, .null), (4, .int (nI i)), (3, .ref ((ad bi).1)), (0, .ref b), (1, .int b0), (2, .int b1)]) hx hb dX1_most_23 hl (by decide) rfl (fun ls hl => ?_)
            refine lv_aloadN hx hb dX1_most_25 (lv_at hl 0 rfl) ?_
            refine lv_ifnullN (tgt := 56) hx hb dX1_most_27 (by decide) ?_
            refine lv_iinc (v := (nI i) + 1) (lv' := [(4, .int ((nI i) + 1)), (5, .null), (3, .ref ((ad bi).1)), (0, .ref b), (1, .int b0), (2, .int b1)]) hx hb dX1_most_56 hl (k := 1) rfl rfl (by decide) rfl (fun ls hl => ?_)
            refine lv_goto (tgt := 9) hx hb dX1_most_59 (by decide) ?_
            have hl := lv_sub hl [0, 2, 3, 4, 5] rfl
            rw [nI_1] at hl
            exact ih (i + 1) (some (bi, yb)) (nlt12 c_3 (by omega)) (by omega) ho (by rw [← hf, mL_n c_3 hs]) ls hl
          · refine W.eq (g2 := F0 m 23 ls [.ref ((ad i).1)]) (by rw [pl_of (by omega) hs]) ?_
            have hy : va_P D vwCl [((ad i).1, .inr (0, [.ref ((ad i).2.1), .ref ((ad i).2.2.1), .ref ((ad i).2.2.2), .int (gK y), .int (gC y), .long (gV y), .int (gM y), .long (gH y), .long (gL y), .int (gR y), .int (gW y)])), ((ad i).2.1, .inl (cI, 8, .inl (gSo y))), ((ad i).2.2.1, .inl (cI, 8, .inl (gSr y))), ((ad i).2.2.2, .inl (cJ, 8, .inr (.inl (gOp y))))] s.heap := BW_gauge hPB (nlt12 c_3 (by omega)) hs
            refine lv_astore (lv' := [(5, .ref ((ad i).1)), (4, .int (nI i)), (3, .ref ((ad bi).1)), (0, .ref b), (1, .int b0), (2, .int b1)]) hx hb dX1_most_23 hl (by decide) rfl (fun ls hl => ?_)
            refine lv_aload hx hb dX1_most_25 (lv_at hl 0 rfl) ?_
            refine lv_ifnull hx hb dX1_most_27 ?_
            refine lv_aload hx hb dX1_most_30 (lv_at hl 0 rfl) ?_
            refine va_getN (D := D) (ci := 0) (v := .int (gK y)) (C := RX0) (T := TX0) (N := 11) hx hb hts hinX0 hown hK hy 0 rfl rfl 3 (by decide) (hKW.n 3 rfl rfl) (fun _ h9 => h9) rfl dX1_most_32 ?_
            refine lv_iload_n hx hb dX1_most_35 rfl (lv_at hl 4 rfl) ?_
            refine lv_icmp_ne (tgt := 56) hx hb dX1_most_36 (by decide) (fun c_4 => ?_) (fun c_4 => ?_)
            · refine lv_iinc (v := (nI i) + 1) (lv' := [(4, .int ((nI i) + 1)), (5, .ref ((ad i).1)), (3, .ref ((ad bi).1)), (0, .ref b), (1, .int b0), (2, .int b1)]) hx hb dX1_most_56 hl (k := 1) rfl rfl (by decide) rfl (fun ls hl => ?_)
              refine lv_goto (tgt := 9) hx hb dX1_most_59 (by decide) ?_
              have hl := lv_sub hl [0, 2, 3, 4, 5] rfl
              rw [nI_1] at hl
              exact ih (i + 1) (some (bi, yb)) (nlt12 c_3 (by omega)) (by omega) ho (by rw [← hf, mL_k c_3 hs c_4]) ls hl
            · refine lv_aload_n hx hb dX1_most_39 rfl (lv_at hl 2 rfl) ?_
              refine lv_ifnonnull (tgt := 48) hx hb dX1_most_40 (by decide) ?_
              refine lv_aload_n hx hb dX1_most_48 rfl (lv_at hl 2 rfl) ?_
              refine lv_aload hx hb dX1_most_49 (lv_at hl 0 rfl) ?_
              refine lv_iload_n hx hb dX1_most_51 rfl (lv_at hl 5 rfl) ?_
              by_cases hu : (f_X1_isAbove (gV y) (gV yb) (gK yb)) = b1
              · refine pu_S (As := [.ref ((ad bi).1), .ref ((ad i).1), .int b1]) (rest := []) ⟨hx, hb, hml, hown, hts⟩ (c_X1_further_b l s.heap D cI cJ cZ cG (ad bi) (ad i) yb y b1 hu hyb hy) (KW_puK D cI cJ cZ cG) hKW (va_cwS 3 hts gX1_most_X1_further rfl rfl rfl (by decide +kernel) ⟨Nat.le_of_ble_eq_true rfl, Nat.le_of_ble_eq_true rfl⟩) rfl hl.1 rfl (Nat.le_of_ble_eq_true rfl) dX1_most_52 ⟨Nat.zero_le _, Nat.zero_le _⟩ ?_
                refine W.eq (g2 := F0 m 55 ls [.ref ((ad i).1)]) rfl ?_
                refine lv_astore_n (lv' := [(3, .ref ((ad i).1)), (5, .ref ((ad i).1)), (4, .int (nI i)), (0, .ref b), (1, .int b0), (2, .int b1)]) hx hb dX1_most_55 rfl hl (by decide) rfl (fun ls hl => ?_)
                refine lv_iinc (v := (nI i) + 1) (lv' := [(4, .int ((nI i) + 1)), (3, .ref ((ad i).1)), (5, .ref ((ad i).1)), (0, .ref b), (1, .int b0), (2, .int b1)]) hx hb dX1_most_56 hl (k := 2) rfl rfl (by decide) rfl (fun ls hl => ?_)
                refine lv_goto (tgt := 9) hx hb dX1_most_59 (by decide) ?_
                have hl := lv_sub hl [0, 1, 3, 4, 5] rfl
                rw [nI_1] at hl
                exact ih (i + 1) (some (i, y)) (nlt12 c_3 (by omega)) (by omega) (fun q h => by cases h; exact ⟨nlt12 c_3 (by omega), hs⟩) (by rw [← hf, mL_b c_3 hs c_4 hu]) ls hl
              · refine pu_S (As := [.ref ((ad bi).1), .ref ((ad i).1), .int b1]) (rest := []) ⟨hx, hb, hml, hown, hts⟩ (c_X1_further_a l s.heap D cI cJ cZ cG (ad bi) (ad i) yb y b1 hu hyb hy) (KW_puK D cI cJ cZ cG) hKW (va_cwS 3 hts gX1_most_X1_further rfl rfl rfl (by decide +kernel) ⟨Nat.le_of_ble_eq_true rfl, Nat.le_of_ble_eq_true rfl⟩) rfl hl.1 rfl (Nat.le_of_ble_eq_true rfl) dX1_most_52 ⟨Nat.zero_le _, Nat.zero_le _⟩ ?_
                refine W.eq (g2 := F0 m 55 ls [.ref ((ad bi).1)]) rfl ?_
                refine lv_astore_n (lv' := [(3, .ref ((ad bi).1)), (5, .ref ((ad i).1)), (4, .int (nI i)), (0, .ref b), (1, .int b0), (2, .int b1)]) hx hb dX1_most_55 rfl hl (by decide) rfl (fun ls hl => ?_)
                refine lv_iinc (v := (nI i) + 1) (lv' := [(4, .int ((nI i) + 1)), (3, .ref ((ad bi).1)), (5, .ref ((ad i).1)), (0, .ref b), (1, .int b0), (2, .int b1)]) hx hb dX1_most_56 hl (k := 2) rfl rfl (by decide) rfl (fun ls hl => ?_)
                refine lv_goto (tgt := 9) hx hb dX1_most_59 (by decide) ?_
                have hl := lv_sub hl [0, 1, 3, 4, 5] rfl
                rw [nI_1] at hl
                exact ih (i + 1) (some (bi, yb)) (nlt12 c_3 (by omega)) (by omega) ho (by rw [← hf, mL_a c_3 hs c_4 hu]) ls hl
  exact hloop 13 0 none (Nat.zero_le _) (Nat.le_refl _) (fun q h => by cases h) rfl ls (lv_sub hl [0, 1, 2, 3, 4] rfl)
