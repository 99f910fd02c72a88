def f_X1_isPlace (a0 : Int32) : Int32 := (if a0 < 0 then (0 : Int32) else (if (12 : Int32) ≤ a0 then (0 : Int32) else (1 : Int32)))
set_option maxHeartbeats 4000000 in
set_option maxRecDepth 100000 in
theorem c_X1_isPlace (l : Launch) (H0 : Heap) (a0 : Int32) : pu l yX1_isPlace wsX1_isPlace ({ frames := 0, cells := 0, slots := 0, locals := 0 }) [.int a0] (fun _ => True) H0 (some (.int (f_X1_isPlace a0))) := by
  refine Met.ofW (cc := cX1_isPlace) (maxL := 1) (ret := (some .boolean)) (by decide) rfl ?_
  intro p e s m args below meth c s₁ B hml hv
  obtain ⟨rfl, hH, -⟩ := hv
  have hx := B.exec
  have hb := B.bytes
  have hr := B.returns
  have hts := atoms_spec (ws := wsX1_isPlace) B.pre
  have hown : s.vm.findClass RX1 = some m.cls := findClass_of_methodNamed B.named
  have hlocks := B.notSynchronized
  subst hH
  have hl := lv_entry ([.int a0]) (n := 1) (Nat.le_of_ble_eq_true rfl)
  rw [lg_entry_eq]
  generalize (lg_sl ([.int a0]) ++ List.replicate (1 - (lg_sl ([.int a0])).length) Slot.unset).toArray = ls at hl ⊢
  have hl : lv_has ls 1 [(0, .int a0)] := hl
  refine lv_iload_n hx hb dX1_isPlace_0 rfl (lv_at hl 0 rfl) ?_
  refine lv_if_lt (tgt := 14) hx hb dX1_isPlace_1 (by decide) (fun c_1 => ?_) (fun c_1 => ?_)
  · refine lv_iconst (v := 0) hx hb dX1_isPlace_14 (by decide) ?_
    exact W.zret (v := (0 : Int32)) hx hb hr (by rfl) (fun t ht hW => ⟨congrArg (fun z => Outcome.returned (some (Value.int z))) (by unfold f_X1_isPlace; rw [if_pos c_1]), ht⟩) (fun _ h => nomatch h) dX1_isPlace_15
  · refine lv_iload_n hx hb dX1_isPlace_4 rfl (lv_at hl 0 rfl) ?_
    refine lv_bipush (v := 12) hx hb dX1_isPlace_5 (by decide) ?_
    refine lv_icmp_ge (tgt := 14) hx hb dX1_isPlace_7 (by decide) (fun c_2 => ?_) (fun c_2 => ?_)
    · refine lv_iconst (v := 0) hx hb dX1_isPlace_14 (by decide) ?_
      exact W.zret (v := (0 : Int32)) hx hb hr (by rfl) (fun t ht hW => ⟨congrArg (fun z => Outcome.returned (some (Value.int z))) (by unfold f_X1_isPlace; rw [if_neg c_1, if_pos c_2]), ht⟩) (fun _ h => nomatch h) dX1_isPlace_15
    · refine lv_iconst (v := 1) hx hb dX1_isPlace_10 (by decide) ?_
      refine lv_goto (tgt := 15) hx hb dX1_isPlace_11 (by decide) ?_
      exact W.zret (v := (1 : Int32)) hx hb hr (by rfl) (fun t ht hW => ⟨congrArg (fun z => Outcome.returned (some (Value.int z))) (by unfold f_X1_isPlace; rw [if_neg c_1, if_neg c_2]), ht⟩) (fun _ h => nomatch h) dX1_isPlace_15
def f_X1_lastSort (a0 : Int32) : Int32 := (if a0 = (3 : Int32) then (7 : Int32) else (if a0 = (2 : Int32) then (4 : Int32) else (2 : Int32)))
set_option maxHeartbeats 4000000 in
set_option maxRecDepth 100000 in
theorem c_X1_lastSort (l : Launch) (H0 : Heap) (a0 : Int32) : pu l yX1_lastSort wsX1_lastSort ({ frames := 0, cells := 0, slots := 0, locals := 0 }) [.int a0] (fun _ => True) H0 (some (.int (f_X1_lastSort a0))) := by
  refine Met.ofW (cc := cX1_lastSort) (maxL := 1) (ret := (some .int)) (by decide) rfl ?_
  intro p e s m args below meth c s₁ B hml hv
  obtain ⟨rfl, hH, -⟩ := hv
  have hx := B.exec
  have hb := B.bytes
  have hr := B.returns
  have hts := atoms_spec (ws := wsX1_lastSort) B.pre
  have hown : s.vm.findClass RX1 = some m.cls := findClass_of_methodNamed B.named
  have hlocks := B.notSynchronized
  subst hH
  have hl := lv_entry ([.int a0]) (n := 1) (Nat.le_of_ble_eq_true rfl)
  rw [lg_entry_eq]
  generalize (lg_sl ([.int a0]) ++ List.replicate (1 - (lg_sl ([.int a0])).length) Slot.unset).toArray = ls at hl ⊢
  have hl : lv_has ls 1 [(0, .int a0)] := hl
  refine lv_iload_n hx hb dX1_lastSort_0 rfl (lv_at hl 0 rfl) ?_
  refine lv_iconst (v := 3) hx hb dX1_lastSort_1 (by decide) ?_
  refine lv_icmp_ne (tgt := 8) hx hb dX1_lastSort_2 (by decide) (fun c_1 => ?_) (fun c_1 => ?_)
  · refine lv_iload_n hx hb dX1_lastSort_8 rfl (lv_at hl 0 rfl) ?_
    refine lv_iconst (v := 2) hx hb dX1_lastSort_9 (by decide) ?_
    refine lv_icmp_ne (tgt := 17) hx hb dX1_lastSort_10 (by decide) (fun c_2 => ?_) (fun c_2 => ?_)
    · refine lv_iconst (v := 2) hx hb dX1_lastSort_17 (by decide) ?_
      exact W.iret (v := (2 : Int32)) hx hb hr (fun t ht hW => ⟨congrArg (fun z => Outcome.returned (some (Value.int z))) (by unfold f_X1_lastSort; rw [if_neg c_1, if_neg c_2]), ht⟩) (fun _ h => nomatch h) dX1_lastSort_18
    · refine lv_iconst (v := 4) hx hb dX1_lastSort_13 (by decide) ?_
      refine lv_goto (tgt := 18) hx hb dX1_lastSort_14 (by decide) ?_
      exact W.iret (v := (4 : Int32)) hx hb hr (fun t ht hW => ⟨congrArg (fun z => Outcome.returned (some (Value.int z))) (by unfold f_X1_lastSort; rw [if_neg c_1, if_pos c_2]), ht⟩) (fun _ h => nomatch h) dX1_lastSort_18
  · refine lv_bipush (v := 7) hx hb dX1_lastSort_5 (by decide) ?_
    exact W.iret (v := (7 : Int32)) hx hb hr (fun t ht hW => ⟨congrArg (fun z => Outcome.returned (some (Value.int z))) (by unfold f_X1_lastSort; rw [if_pos c_1]), ht⟩) (fun _ h => nomatch h) dX1_lastSort_7
def f_X1_wantsOperand (a0 : Int32) : Int32 := (if a0 = (1 : Int32) then (1 : Int32) else (if a0 = (2 : Int32) then (1 : Int32) else (if a0 = (4 : Int32) then (1 : Int32) else (0 : Int32))))
set_option maxHeartbeats 4000000 in
set_option maxRecDepth 100000 in
theorem c_X1_wantsOperand (l : Launch) (H0 : Heap) (a0 : Int32) : pu l yX1_wantsOperand wsX1_wantsOperand ({ frames := 0, cells := 0, slots := 0, locals := 0 }) [.int a0] (fun _ => True) H0 (some (.int (f_X1_wantsOperand a0))) := by
  refine Met.ofW (cc := cX1_wantsOperand) (maxL := 1) (ret := (some .boolean)) (by decide) rfl ?_
  intro p e s m args below meth c s₁ B hml hv
  obtain ⟨rfl, hH, -⟩ := hv
  have hx := B.exec
  have hb := B.bytes
  have hr := B.returns
  have hts := atoms_spec (ws := wsX1_wantsOperand) B.pre
  have hown : s.vm.findClass RX1 = some m.cls := findClass_of_methodNamed B.named
  have hlocks := B.notSynchronized
  subst hH
  have hl := lv_entry ([.int a0]) (n := 1) (Nat.le_of_ble_eq_true rfl)
  rw [lg_entry_eq]
  generalize (lg_sl ([.int a0]) ++ List.replicate (1 - (lg_sl ([.int a0])).length) Slot.unset).toArray = ls at hl ⊢
  have hl : lv_has ls 1 [(0, .int a0)] := hl
  refine lv_iload_n hx hb dX1_wantsOperand_0 rfl (lv_at hl 0 rfl) ?_
  refine lv_iconst (v := 1) hx hb dX1_wantsOperand_1 (by decide) ?_
  refine lv_icmp_eq (tgt := 15) hx hb dX1_wantsOperand_2 (by decide) (fun c_1 => ?_) (fun c_1 => ?_)
  · refine lv_iconst (v := 1) hx hb dX1_wantsOperand_15 (by decide) ?_
    refine lv_goto (tgt := 20) hx hb dX1_wantsOperand_16 (by decide) ?_
    exact W.zret (v := (1 : Int32)) hx hb hr (by rfl) (fun t ht hW => ⟨congrArg (fun z => Outcome.returned (some (Value.int z))) (by unfold f_X1_wantsOperand; rw [if_pos c_1]), ht⟩) (fun _ h => nomatch h) dX1_wantsOperand_20
  · refine lv_iload_n hx hb dX1_wantsOperand_5 rfl (lv_at hl 0 rfl) ?_
    refine lv_iconst (v := 2) hx hb dX1_wantsOperand_6 (by decide) ?_
    refine lv_icmp_eq (tgt := 15) hx hb dX1_wantsOperand_7 (by decide) (fun c_2 => ?_) (fun c_2 => ?_)
    · refine lv_iconst (v := 1) hx hb dX1_wantsOperand_15 (by decide) ?_
      refine lv_goto (tgt := 20) hx hb dX1_wantsOperand_16 (by decide) ?_
      exact W.zret (v := (1 : Int32)) hx hb hr (by rfl) (fun t ht hW => ⟨congrArg (fun z => Outcome.returned (some (Value.int z))) (by unfold f_X1_wantsOperand; rw [if_neg c_1, if_pos c_2]), ht⟩) (fun _ h => nomatch h) dX1_wantsOperand_20
    · refine lv_iload_n hx hb dX1_wantsOperand_10 rfl (lv_at hl 0 rfl) ?_
      refine lv_iconst (v := 4) hx hb dX1_wantsOperand_11 (by decide) ?_
      refine lv_icmp_ne (tgt := 19) hx hb dX1_wantsOperand_12 (by decide) (fun c_3 => ?_) (fun c_3 => ?_)
      · refine lv_iconst (v := 0) hx hb dX1_wantsOperand_19 (by decide) ?_
        exact W.zret (v := (0 : Int32)) hx hb hr (by rfl) (fun t ht hW => ⟨congrArg (fun z => Outcome.returned (some (Value.int z))) (by unfold f_X1_wantsOperand; rw [if_neg c_1, if_neg c_2, if_neg c_3]), ht⟩) (fun _ h => nomatch h) dX1_wantsOperand_20
      · refine lv_iconst (v := 1) hx hb dX1_wantsOperand_15 (by decide) ?_
        refine lv_goto (tgt := 20) hx hb dX1_wantsOperand_16 (by decide) ?_
        exact W.zret (v := (1 : Int32)) hx hb hr (by rfl) (fun t ht hW => ⟨congrArg (fun z => Outcome.returned (some (Value.int z))) (by unfold f_X1_wantsOperand; rw [if_neg c_1, if_neg c_2, if_pos c_3]), ht⟩) (fun _ h => nomatch h) dX1_wantsOperand_20
def f_X1_operandForm (a0 : Int32) (a1 : Int32) : Int32 := (if (f_X1_wantsOperand a0) = 0 then (0 : Int32) else (if a1 = (-1 : Int32) then (1 : Int32) else (2 : Int32)))
set_option maxHeartbeats 4000000 in
set_option maxRecDepth 100000 in
theorem c_X1_operandForm (l : Launch) (H0 : Heap) (a0 : Int32) (a1 : Int32) : pu l yX1_operandForm wsX1_operandForm ({ frames := 1, cells := 0, slots := 0, locals := 20 }) [.int a0, .int a1] (fun _ => True) H0 (some (.int (f_X1_operandForm a0 a1))) := by
  refine Met.ofW (cc := cX1_operandForm) (maxL := 2) (ret := (some .int)) (by decide) rfl ?_
  intro p e s m args below meth c s₁ B hml hv
  obtain ⟨rfl, hH, -⟩ := hv
  have hx := B.exec
  have hb := B.bytes
  have hr := B.returns
  have hts := atoms_spec (ws := wsX1_operandForm) B.pre
  have hown : s.vm.findClass RX1 = some m.cls := findClass_of_methodNamed B.named
  have hlocks := B.notSynchronized
  subst hH
  have hl := lv_entry ([.int a0, .int a1]) (n := 2) (Nat.le_of_ble_eq_true rfl)
  rw [lg_entry_eq]
  generalize (lg_sl ([.int a0, .int a1]) ++ List.replicate (2 - (lg_sl ([.int a0, .int a1])).length) Slot.unset).toArray = ls at hl ⊢
  have hl : lv_has ls 2 [(0, .int a0), (1, .int a1)] := hl
  refine lv_iload_n hx hb dX1_operandForm_0 rfl (lv_at hl 0 rfl) ?_
  refine pu_S (As := [.int a0]) (rest := []) ⟨hx, hb, hml, hown, hts⟩ (c_X1_wantsOperand l s.heap a0) puK_T trivial (va_cwS 1 hts gX1_operandForm_X1_wantsOperand rfl rfl rfl (by decide +kernel) ⟨Nat.le_of_ble_eq_true rfl, Nat.le_of_ble_eq_true rfl⟩) rfl hl.1 rfl (Nat.le_of_ble_eq_true rfl) dX1_operandForm_1 ⟨Nat.zero_le _, Nat.zero_le _⟩ ?_
  refine W.eq (g2 := F0 m 4 ls [.int (f_X1_wantsOperand a0)]) rfl ?_
  refine lv_if_ne (tgt := 9) hx hb dX1_operandForm_4 (by decide) (fun c_1 => ?_) (fun c_1 => ?_)
  · refine lv_iload_n hx hb dX1_operandForm_9 rfl (lv_at hl 1 rfl) ?_
    refine lv_iconst (v := (-1)) hx hb dX1_operandForm_10 (by decide) ?_
    refine lv_icmp_ne (tgt := 18) hx hb dX1_operandForm_11 (by decide) (fun c_2 => ?_) (fun c_2 => ?_)
    · refine lv_iconst (v := 2) hx hb dX1_operandForm_18 (by decide) ?_
      exact W.iret (v := (2 : Int32)) hx hb hr (fun t ht hW => ⟨congrArg (fun z => Outcome.returned (some (Value.int z))) (by unfold f_X1_operandForm; rw [if_neg c_1, if_neg c_2]), ht⟩) (fun _ h => nomatch h) dX1_operandForm_19
    · refine lv_iconst (v := 1) hx hb dX1_operandForm_14 (by decide) ?_
      refine lv_goto (tgt := 19) hx hb dX1_operandForm_15 (by decide) ?_
      exact W.iret (v := (1 : Int32)) hx hb hr (fun t ht hW => ⟨congrArg (fun z => Outcome.returned (some (Value.int z))) (by unfold f_X1_operandForm; rw [if_neg c_1, if_pos c_2]), ht⟩) (fun _ h => nomatch h) dX1_operandForm_19
  · refine lv_iconst (v := 0) hx hb dX1_operandForm_7 (by decide) ?_
    exact W.iret (v := (0 : Int32)) hx hb hr (fun t ht hW => ⟨congrArg (fun z => Outcome.returned (some (Value.int z))) (by unfold f_X1_operandForm; rw [if_pos c_1]), ht⟩) (fun _ h => nomatch h) dX1_operandForm_8
def f_X1_isGood (a0 : Int32) (a1 : Int64) : Int32 := (if a0 = (1 : Int32) then (1 : Int32) else (if a0 = (3 : Int32) then (if 0 < (lg_cmp (a1 &&& (9223372036854775807 : Int64)) (9218868437227405312 : Int64)) then (0 : Int32) else (1 : Int32)) else (if (lg_cmp a1 (-2147483648 : Int64)) < 0 then (0 : Int32) else (if (lg_cmp a1 (2147483647 : Int64)) ≤ 0 then (if a0 = 0 then (1 : Int32) else (if 0 < (lg_cmp (a1 &&& (2147483647 : Int64)) (2139095040 : Int64)) then (0 : Int32) else (1 : Int32))) else (0 : Int32)))))
set_option maxHeartbeats 4000000 in
set_option maxRecDepth 100000 in
theorem c_X1_isGood (l : Launch) (H0 : Heap) (a0 : Int32) (a1 : Int64) : pu l yX1_isGood wsX1_isGood ({ frames := 0, cells := 0, slots := 0, locals := 0 }) [.int a0, .long a1] (fun _ => True) H0 (some (.int (f_X1_isGood a0 a1))) := by
  refine Met.ofW (cc := cX1_isGood) (maxL := 3) (ret := (some .boolean)) (by decide) rfl ?_
  intro p e s m args below meth c s₁ B hml hv
  obtain ⟨rfl, hH, -⟩ := hv
  have hx := B.exec
  have hb := B.bytes
  have hr := B.returns
  have hts := atoms_spec (ws := wsX1_isGood) B.pre
  have hown : s.vm.findClass RX1 = some m.cls := findClass_of_methodNamed B.named
  have hlocks := B.notSynchronized
  subst hH
  have hl := lv_entry ([.int a0, .long a1]) (n := 3) (Nat.le_of_ble_eq_true rfl)
  rw [lg_entry_eq]
  generalize (lg_sl ([.int a0, .long a1]) ++ List.replicate (3 - (lg_sl ([.int a0, .long a1])).length) Slot.unset).toArray = ls at hl ⊢
  have hl : lv_has ls 3 [(0, .int a0), (1, .long a1)] := hl
  refine lv_iload_n hx hb dX1_isGood_0 rfl (lv_at hl 0 rfl) ?_
  refine lv_iconst (v := 1) hx hb dX1_isGood_1 (by decide) ?_
  refine lv_icmp_ne (tgt := 7) hx hb dX1_isGood_2 (by decide) (fun c_1 => ?_) (fun c_1 => ?_)
  · refine lv_iload_n hx hb dX1_isGood_7 rfl (lv_at hl 0 rfl) ?_
    refine lv_iconst (v := 3) hx hb dX1_isGood_8 (by decide) ?_
    refine lv_icmp_ne (tgt := 30) hx hb dX1_isGood_9 (by decide) (fun c_2 => ?_) (fun c_2 => ?_)
    · refine lv_lload_n hx hb dX1_isGood_30 rfl (lv_at hl 1 rfl) ?_
      refine lv_ldc2 (v := (-2147483648)) hx hb hown (hts (.constantLong RX1 171 (-2147483648)) (by decide +kernel)) dX1_isGood_31 ?_
      refine W.lcmp hx hb dX1_isGood_34 ?_
      refine lv_if_lt (tgt := 46) hx hb dX1_isGood_35 (by decide) (fun c_3 => ?_) (fun c_3 => ?_)
      · refine lv_iconst (v := 0) hx hb dX1_isGood_46 (by decide) ?_
        exact W.zret (v := (0 : Int32)) hx hb hr (by rfl) (fun t ht hW => ⟨congrArg (fun z => Outcome.returned (some (Value.int z))) (by unfold f_X1_isGood; rw [if_neg c_1, if_neg c_2, if_pos c_3]), ht⟩) (fun _ h => nomatch h) dX1_isGood_47
      · refine lv_lload_n hx hb dX1_isGood_38 rfl (lv_at hl 1 rfl) ?_
        refine lv_ldc2 (v := 2147483647) hx hb hown (hts (.constantLong RX1 173 2147483647) (by decide +kernel)) dX1_isGood_39 ?_
        refine W.lcmp hx hb dX1_isGood_42 ?_
        refine lv_if_le (tgt := 48) hx hb dX1_isGood_43 (by decide) (fun c_4 => ?_) (fun c_4 => ?_)
        · refine lv_iload_n hx hb dX1_isGood_48 rfl (lv_at hl 0 rfl) ?_
          refine lv_if_eq (tgt := 64) hx hb dX1_isGood_49 (by decide) (fun c_5 => ?_) (fun c_5 => ?_)
          · refine lv_iconst (v := 1) hx hb dX1_isGood_64 (by decide) ?_
            refine lv_goto (tgt := 69) hx hb dX1_isGood_65 (by decide) ?_
            exact W.zret (v := (1 : Int32)) hx hb hr (by rfl) (fun t ht hW => ⟨congrArg (fun z => Outcome.returned (some (Value.int z))) (by unfold f_X1_isGood; rw [if_neg c_1, if_neg c_2, if_neg c_3, if_pos c_4, if_pos c_5]), ht⟩) (fun _ h => nomatch h) dX1_isGood_69
          · refine lv_lload_n hx hb dX1_isGood_52 rfl (lv_at hl 1 rfl) ?_
            refine lv_ldc2 (v := 2147483647) hx hb hown (hts (.constantLong RX1 173 2147483647) (by decide +kernel)) dX1_isGood_53 ?_
            refine lv_land hx hb dX1_isGood_56 ?_
            refine lv_ldc2 (v := 2139095040) hx hb hown (hts (.constantLong RX1 175 2139095040) (by decide +kernel)) dX1_isGood_57 ?_
            refine W.lcmp hx hb dX1_isGood_60 ?_
            refine lv_if_gt (tgt := 68) hx hb dX1_isGood_61 (by decide) (fun c_6 => ?_) (fun c_6 => ?_)
            · refine lv_iconst (v := 0) hx hb dX1_isGood_68 (by decide) ?_
              exact W.zret (v := (0 : Int32)) hx hb hr (by rfl) (fun t ht hW => ⟨congrArg (fun z => Outcome.returned (some (Value.int z))) (by unfold f_X1_isGood; rw [if_neg c_1, if_neg c_2, if_neg c_3, if_pos c_4, if_neg c_5, if_pos c_6]), ht⟩) (fun _ h => nomatch h) dX1_isGood_69
            · refine lv_iconst (v := 1) hx hb dX1_isGood_64 (by decide) ?_
              refine lv_goto (tgt := 69) hx hb dX1_isGood_65 (by decide) ?_
              exact W.zret (v := (1 : Int32)) hx hb hr (by rfl) (fun t ht hW => ⟨congrArg (fun z => Outcome.returned (some (Value.int z))) (by unfold f_X1_isGood; rw [if_neg c_1, if_neg c_2, if_neg c_3, if_pos c_4, if_neg c_5, if_neg c_6]), ht⟩) (fun _ h => nomatch h) dX1_isGood_69
        · refine lv_iconst (v := 0) hx hb dX1_isGood_46 (by decide) ?_
          exact W.zret (v := (0 : Int32)) hx hb hr (by rfl) (fun t ht hW => ⟨congrArg (fun z => Outcome.returned (some (Value.int z))) (by unfold f_X1_isGood; rw [if_neg c_1, if_neg c_2, if_neg c_3, if_neg c_4]), ht⟩) (fun _ h => nomatch h) dX1_isGood_47
    · refine lv_lload_n hx hb dX1_isGood_12 rfl (lv_at hl 1 rfl) ?_
      refine lv_ldc2 (v := 9223372036854775807) hx hb hown (hts (.constantLong RX1 167 9223372036854775807) (by decide +kernel)) dX1_isGood_13 ?_
      refine lv_land hx hb dX1_isGood_16 ?_
      refine lv_ldc2 (v := 9218868437227405312) hx hb hown (hts (.constantLong RX1 169 9218868437227405312) (by decide +kernel)) dX1_isGood_17 ?_
      refine W.lcmp hx hb dX1_isGood_20 ?_
      refine lv_if_gt (tgt := 28) hx hb dX1_isGood_21 (by decide) (fun c_7 => ?_) (fun c_7 => ?_)
      · refine lv_iconst (v := 0) hx hb dX1_isGood_28 (by decide) ?_
        exact W.zret (v := (0 : Int32)) hx hb hr (by rfl) (fun t ht hW => ⟨congrArg (fun z => Outcome.returned (some (Value.int z))) (by unfold f_X1_isGood; rw [if_neg c_1, if_pos c_2, if_pos c_7]), ht⟩) (fun _ h => nomatch h) dX1_isGood_29
      · refine lv_iconst (v := 1) hx hb dX1_isGood_24 (by decide) ?_
        refine lv_goto (tgt := 29) hx hb dX1_isGood_25 (by decide) ?_
        exact W.zret (v := (1 : Int32)) hx hb hr (by rfl) (fun t ht hW => ⟨congrArg (fun z => Outcome.returned (some (Value.int z))) (by unfold f_X1_isGood; rw [if_neg c_1, if_pos c_2, if_neg c_7]), ht⟩) (fun _ h => nomatch h) dX1_isGood_29
  · refine lv_iconst (v := 1) hx hb dX1_isGood_5 (by decide) ?_
    exact W.zret (v := (1 : Int32)) hx hb hr (by rfl) (fun t ht hW => ⟨congrArg (fun z => Outcome.returned (some (Value.int z))) (by unfold f_X1_isGood; rw [if_pos c_1]), ht⟩) (fun _ h => nomatch h) dX1_isGood_6
def f_X1_isReal (a0 : Int32) : Int32 := (if a0 = (2 : Int32) then (1 : Int32) else (if a0 = (3 : Int32) then (1 : Int32) else (0 : Int32)))
set_option maxHeartbeats 4000000 in
set_option maxRecDepth 100000 in
theorem c_X1_isReal (l : Launch) (H0 : Heap) (a0 : Int32) : pu l yX1_isReal wsX1_isReal ({ frames := 0, cells := 0, slots := 0, locals := 0 }) [.int a0] (fun _ => True) H0 (some (.int (f_X1_isReal a0))) := by
  refine Met.ofW (cc := cX1_isReal) (maxL := 1) (ret := (some .boolean)) (by decide) rfl ?_
  intro p e s m args below meth c s₁ B hml hv
  obtain ⟨rfl, hH, -⟩ := hv
  have hx := B.exec
  have hb := B.bytes
  have hr := B.returns
  have hts := atoms_spec (ws := wsX1_isReal) B.pre
  have hown : s.vm.findClass RX1 = some m.cls := findClass_of_methodNamed B.named
  have hlocks := B.notSynchronized
  subst hH
  have hl := lv_entry ([.int a0]) (n := 1) (Nat.le_of_ble_eq_true rfl)
  rw [lg_entry_eq]
  generalize (lg_sl ([.int a0]) ++ List.replicate (1 - (lg_sl ([.int a0])).length) Slot.unset).toArray = ls at hl ⊢
  have hl : lv_has ls 1 [(0, .int a0)] := hl
  refine lv_iload_n hx hb dX1_isReal_0 rfl (lv_at hl 0 rfl) ?_
  refine lv_iconst (v := 2) hx hb dX1_isReal_1 (by decide) ?_
  refine lv_icmp_eq (tgt := 10) hx hb dX1_isReal_2 (by decide) (fun c_1 => ?_) (fun c_1 => ?_)
  · refine lv_iconst (v := 1) hx hb dX1_isReal_10 (by decide) ?_
    refine lv_goto (tgt := 15) hx hb dX1_isReal_11 (by decide) ?_
    exact W.zret (v := (1 : Int32)) hx hb hr (by rfl) (fun t ht hW => ⟨congrArg (fun z => Outcome.returned (some (Value.int z))) (by unfold f_X1_isReal; rw [if_pos c_1]), ht⟩) (fun _ h => nomatch h) dX1_isReal_15
  · refine lv_iload_n hx hb dX1_isReal_5 rfl (lv_at hl 0 rfl) ?_
    refine lv_iconst (v := 3) hx hb dX1_isReal_6 (by decide) ?_
    refine lv_icmp_ne (tgt := 14) hx hb dX1_isReal_7 (by decide) (fun c_2 => ?_) (fun c_2 => ?_)
    · refine lv_iconst (v := 0) hx hb dX1_isReal_14 (by decide) ?_
      exact W.zret (v := (0 : Int32)) hx hb hr (by rfl) (fun t ht hW => ⟨congrArg (fun z => Outcome.returned (some (Value.int z))) (by unfold f_X1_isReal; rw [if_neg c_1, if_neg c_2]), ht⟩) (fun _ h => nomatch h) dX1_isReal_15
    · refine lv_iconst (v := 1) hx hb dX1_isReal_10 (by decide) ?_
      refine lv_goto (tgt := 15) hx hb dX1_isReal_11 (by decide) ?_
      exact W.zret (v := (1 : Int32)) hx hb hr (by rfl) (fun t ht hW => ⟨congrArg (fun z => Outcome.returned (some (Value.int z))) (by unfold f_X1_isReal; rw [if_neg c_1, if_pos c_2]), ht⟩) (fun _ h => nomatch h) dX1_isReal_15
def f_X1_signOf (a0 : Int64) : Int32 := (if 0 ≤ (lg_cmp a0 (0 : Int64)) then (0 : Int32) else (1 : Int32))
set_option maxHeartbeats 4000000 in
set_option maxRecDepth 100000 in
theorem c_X1_signOf (l : Launch) (H0 : Heap) (a0 : Int64) : pu l yX1_signOf wsX1_signOf ({ frames := 0, cells := 0, slots := 0, locals := 0 }) [.long a0] (fun _ => True) H0 (some (.int (f_X1_signOf a0))) := by
  refine Met.ofW (cc := cX1_signOf) (maxL := 2) (ret := (some .int)) (by decide) rfl ?_
  intro p e s m args below meth c s₁ B hml hv
  obtain ⟨rfl, hH, -⟩ := hv
  have hx := B.exec
  have hb := B.bytes
  have hr := B.returns
  have hts := atoms_spec (ws := wsX1_signOf) B.pre
  have hown : s.vm.findClass RX1 = some m.cls := findClass_of_methodNamed B.named
  have hlocks := B.notSynchronized
  subst hH
  have hl := lv_entry ([.long a0]) (n := 2) (Nat.le_of_ble_eq_true rfl)
  rw [lg_entry_eq]
  generalize (lg_sl ([.long a0]) ++ List.replicate (2 - (lg_sl ([.long a0])).length) Slot.unset).toArray = ls at hl ⊢
  have hl : lv_has ls 2 [(0, .long a0)] := hl
  refine lv_lload_n hx hb dX1_signOf_0 rfl (lv_at hl 0 rfl) ?_
  refine lv_lconst (v := 0) hx hb dX1_signOf_1 (by decide) ?_
  refine W.lcmp hx hb dX1_signOf_2 ?_
  refine lv_if_ge (tgt := 10) hx hb dX1_signOf_3 (by decide) (fun c_1 => ?_) (fun c_1 => ?_)
  · refine lv_iconst (v := 0) hx hb dX1_signOf_10 (by decide) ?_
    exact W.iret (v := (0 : Int32)) hx hb hr (fun t ht hW => ⟨congrArg (fun z => Outcome.returned (some (Value.int z))) (by unfold f_X1_signOf; rw [if_pos c_1]), ht⟩) (fun _ h => nomatch h) dX1_signOf_11
  · refine lv_iconst (v := 1) hx hb dX1_signOf_6 (by decide) ?_
    refine lv_goto (tgt := 11) hx hb dX1_signOf_7 (by decide) ?_
    exact W.iret (v := (1 : Int32)) hx hb hr (fun t ht hW => ⟨congrArg (fun z => Outcome.returned (some (Value.int z))) (by unfold f_X1_signOf; rw [if_neg c_1]), ht⟩) (fun _ h => nomatch h) dX1_signOf_11
def f_X1_orderKey (a0 : Int64) (a1 : Int32) : Int64 := (if (f_X1_isReal a1) = 0 then a0 else (if 0 ≤ (lg_cmp a0 (0 : Int64)) then a0 else a0 ^^^ (9223372036854775807 : Int64)))
set_option maxHeartbeats 4000000 in
set_option maxRecDepth 100000 in
theorem c_X1_orderKey (l : Launch) (H0 : Heap) (a0 : Int64) (a1 : Int32) : pu l yX1_orderKey wsX1_orderKey ({ frames := 1, cells := 0, slots := 0, locals := 20 }) [.long a0, .int a1] (fun _ => True) H0 (some (.long (f_X1_orderKey a0 a1))) := by
  refine Met.ofW (cc := cX1_orderKey) (maxL := 3) (ret := (some .long)) (by decide) rfl ?_
  intro p e s m args below meth c s₁ B hml hv
  obtain ⟨rfl, hH, -⟩ := hv
  have hx := B.exec
  have hb := B.bytes
  have hr := B.returns
  have hts := atoms_spec (ws := wsX1_orderKey) B.pre
  have hown : s.vm.findClass RX1 = some m.cls := findClass_of_methodNamed B.named
  have hlocks := B.notSynchronized
  subst hH
  have hl := lv_entry ([.long a0, .int a1]) (n := 3) (Nat.le_of_ble_eq_true rfl)
  rw [lg_entry_eq]
  generalize (lg_sl ([.long a0, .int a1]) ++ List.replicate (3 - (lg_sl ([.long a0, .int a1])).length) Slot.unset).toArray = ls at hl ⊢
  have hl : lv_has ls 3 [(0, .long a0), (2, .int a1)] := hl
  refine lv_iload_n hx hb dX1_orderKey_0 rfl (lv_at hl 1 rfl) ?_
  refine pu_S (As := [.int a1]) (rest := []) ⟨hx, hb, hml, hown, hts⟩ (c_X1_isReal l s.heap a1) puK_T trivial (va_cwS 1 hts gX1_orderKey_X1_isReal rfl rfl rfl (by decide +kernel) ⟨Nat.le_of_ble_eq_true rfl, Nat.le_of_ble_eq_true rfl⟩) rfl hl.1 rfl (Nat.le_of_ble_eq_true rfl) dX1_orderKey_1 ⟨Nat.zero_le _, Nat.zero_le _⟩ ?_
  refine W.eq (g2 := F0 m 4 ls [.int (f_X1_isReal a1)]) rfl ?_
  refine lv_if_eq (tgt := 21) hx hb dX1_orderKey_4 (by decide) (fun c_1 => ?_) (fun c_1 => ?_)
  · refine lv_lload_n hx hb dX1_orderKey_21 rfl (lv_at hl 0 rfl) ?_
    exact W.lret (v := a0) hx hb hr (fun t ht hW => ⟨congrArg (fun z => Outcome.returned (some (Value.long z))) (by unfold f_X1_orderKey; rw [if_pos c_1]), ht⟩) (fun _ h => nomatch h) dX1_orderKey_22
  · refine lv_lload_n hx hb dX1_orderKey_7 rfl (lv_at hl 0 rfl) ?_
    refine lv_lconst (v := 0) hx hb dX1_orderKey_8 (by decide) ?_
    refine W.lcmp hx hb dX1_orderKey_9 ?_
    refine lv_if_ge (tgt := 21) hx hb dX1_orderKey_10 (by decide) (fun c_2 => ?_) (fun c_2 => ?_)
    · refine lv_lload_n hx hb dX1_orderKey_21 rfl (lv_at hl 0 rfl) ?_
      exact W.lret (v := a0) hx hb hr (fun t ht hW => ⟨congrArg (fun z => Outcome.returned (some (Value.long z))) (by unfold f_X1_orderKey; rw [if_neg c_1, if_pos c_2]), ht⟩) (fun _ h => nomatch h) dX1_orderKey_22
    · refine lv_lload_n hx hb dX1_orderKey_13 rfl (lv_at hl 0 rfl) ?_
      refine lv_ldc2 (v := 9223372036854775807) hx hb hown (hts (.constantLong RX1 167 9223372036854775807) (by decide +kernel)) dX1_orderKey_14 ?_
      refine lv_lxor hx hb dX1_orderKey_17 ?_
      refine lv_goto (tgt := 22) hx hb dX1_orderKey_18 (by decide) ?_
      exact W.lret (v := a0 ^^^ (9223372036854775807 : Int64)) hx hb hr (fun t ht hW => ⟨congrArg (fun z => Outcome.returned (some (Value.long z))) (by unfold f_X1_orderKey; rw [if_neg c_1, if_neg c_2]), ht⟩) (fun _ h => nomatch h) dX1_orderKey_22
def f_X1_isAbove (a0 : Int64) (a1 : Int64) (a2 : Int32) : Int32 := (if (lg_cmp (f_X1_orderKey a0 a2) (f_X1_orderKey a1 a2)) ≤ 0 then (0 : Int32) else (1 : Int32))
set_option maxHeartbeats 4000000 in
set_option maxRecDepth 100000 in
theorem c_X1_isAbove (l : Launch) (H0 : Heap) (a0 : Int64) (a1 : Int64) (a2 : Int32) : pu l yX1_isAbove wsX1_isAbove ({ frames := 2, cells := 0, slots := 0, locals := 42 }) [.long a0, .long a1, .int a2] (fun _ => True) H0 (some (.int (f_X1_isAbove a0 a1 a2))) := by
  refine Met.ofW (cc := cX1_isAbove) (maxL := 5) (ret := (some .boolean)) (by decide) rfl ?_
  intro p e s m args below meth c s₁ B hml hv
  obtain ⟨rfl, hH, -⟩ := hv
  have hx := B.exec
  have hb := B.bytes
  have hr := B.returns
  have hts := atoms_spec (ws := wsX1_isAbove) B.pre
  have hown : s.vm.findClass RX1 = some m.cls := findClass_of_methodNamed B.named
  have hlocks := B.notSynchronized
  subst hH
  have hl := lv_entry ([.long a0, .long a1, .int a2]) (n := 5) (Nat.le_of_ble_eq_true rfl)
  rw [lg_entry_eq]
  generalize (lg_sl ([.long a0, .long a1, .int a2]) ++ List.replicate (5 - (lg_sl ([.long a0, .long a1, .int a2])).length) Slot.unset).toArray = ls at hl ⊢
  have hl : lv_has ls 5 [(0, .long a0), (2, .long a1), (4, .int a2)] := hl
  refine lv_lload_n hx hb dX1_isAbove_0 rfl (lv_at hl 0 rfl) ?_
  refine lv_iload hx hb dX1_isAbove_1 (lv_at hl 2 rfl) ?_
  refine pu_S (As := [.long a0, .int a2]) (rest := []) ⟨hx, hb, hml, hown, hts⟩ (c_X1_orderKey l s.heap a0 a2) puK_T trivial (va_cwS 2 hts gX1_isAbove_X1_orderKey rfl rfl rfl (by decide +kernel) ⟨Nat.le_of_ble_eq_true rfl, Nat.le_of_ble_eq_true rfl⟩) rfl hl.1 rfl (Nat.le_of_ble_eq_true rfl) dX1_isAbove_3 ⟨Nat.zero_le _, Nat.zero_le _⟩ ?_
  refine W.eq (g2 := F0 m 6 ls [.long (f_X1_orderKey a0 a2)]) rfl ?_
  refine lv_lload_n hx hb dX1_isAbove_6 rfl (lv_at hl 1 rfl) ?_
  refine lv_iload hx hb dX1_isAbove_7 (lv_at hl 2 rfl) ?_
  refine pu_S (As := [.long a1, .int a2]) (rest := [.long (f_X1_orderKey a0 a2)]) ⟨hx, hb, hml, hown, hts⟩ (c_X1_orderKey l s.heap a1 a2) puK_T trivial (va_cwS 2 hts gX1_isAbove_X1_orderKey rfl rfl rfl (by decide +kernel) ⟨Nat.le_of_ble_eq_true rfl, Nat.le_of_ble_eq_true rfl⟩) rfl hl.1 rfl (Nat.le_of_ble_eq_true rfl) dX1_isAbove_9 ⟨Nat.zero_le _, Nat.zero_le _⟩ ?_
  refine W.eq (g2 := F0 m 12 ls [.long (f_X1_orderKey a1 a2), .long (f_X1_orderKey a0 a2)]) rfl ?_
  refine W.lcmp hx hb dX1_isAbove_12 ?_
  refine lv_if_le (tgt := 20) hx hb dX1_isAbove_13 (by decide) (fun c_1 => ?_) (fun c_1 => ?_)
  · refine lv_iconst (v := 0) hx hb dX1_isAbove_20 (by decide) ?_
    exact W.zret (v := (0 : Int32)) hx hb hr (by rfl) (fun t ht hW => ⟨congrArg (fun z => Outcome.returned (some (Value.int z))) (by unfold f_X1_isAbove; rw [if_pos c_1]), ht⟩) (fun _ h => nomatch h) dX1_isAbove_21
  · refine lv_iconst (v := 1) hx hb dX1_isAbove_16 (by decide) ?_
    refine lv_goto (tgt := 21) hx hb dX1_isAbove_17 (by decide) ?_
    exact W.zret (v := (1 : Int32)) hx hb hr (by rfl) (fun t ht hW => ⟨congrArg (fun z => Outcome.returned (some (Value.int z))) (by unfold f_X1_isAbove; rw [if_neg c_1]), ht⟩) (fun _ h => nomatch h) dX1_isAbove_21
def f_X1_higher (a0 : Int64) (a1 : Int64) (a2 : Int32) : Int64 := (if (f_X1_isAbove a0 a1 a2) = 0 then a1 else a0)
set_option maxHeartbeats 4000000 in
set_option maxRecDepth 100000 in
theorem c_X1_higher (l : Launch) (H0 : Heap) (a0 : Int64) (a1 : Int64) (a2 : Int32) : pu l yX1_higher wsX1_higher ({ frames := 3, cells := 0, slots := 0, locals := 66 }) [.long a0, .long a1, .int a2] (fun _ => True) H0 (some (.long (f_X1_higher a0 a1 a2))) := by
  refine Met.ofW (cc := cX1_higher) (maxL := 5) (ret := (some .long)) (by decide) rfl ?_
  intro p e s m args below meth c s₁ B hml hv
  obtain ⟨rfl, hH, -⟩ := hv
  have hx := B.exec
  have hb := B.bytes
  have hr := B.returns
  have hts := atoms_spec (ws := wsX1_higher) B.pre
  have hown : s.vm.findClass RX1 = some m.cls := findClass_of_methodNamed B.named
  have hlocks := B.notSynchronized
  subst hH
  have hl := lv_entry ([.long a0, .long a1, .int a2]) (n := 5) (Nat.le_of_ble_eq_true rfl)
  rw [lg_entry_eq]
  generalize (lg_sl ([.long a0, .long a1, .int a2]) ++ List.replicate (5 - (lg_sl ([.long a0, .long a1, .int a2])).length) Slot.unset).toArray = ls at hl ⊢
  have hl : lv_has ls 5 [(0, .long a0), (2, .long a1), (4, .int a2)] := hl
  refine lv_lload_n hx hb dX1_higher_0 rfl (lv_at hl 0 rfl) ?_
  refine lv_lload_n hx hb dX1_higher_1 rfl (lv_at hl 1 rfl) ?_
  refine lv_iload hx hb dX1_higher_2 (lv_at hl 2 rfl) ?_
  refine pu_S (As := [.long a0, .long a1, .int a2]) (rest := []) ⟨hx, hb, hml, hown, hts⟩ (c_X1_isAbove l s.heap a0 a1 a2) puK_T trivial (va_cwS 3 hts gX1_higher_X1_isAbove rfl rfl rfl (by decide +kernel) ⟨Nat.le_of_ble_eq_true rfl, Nat.le_of_ble_eq_true rfl⟩) rfl hl.1 rfl (Nat.le_of_ble_eq_true rfl) dX1_higher_4 ⟨Nat.zero_le _, Nat.zero_le _⟩ ?_
  refine W.eq (g2 := F0 m 7 ls [.int (f_X1_isAbove a0 a1 a2)]) rfl ?_
  refine lv_if_eq (tgt := 14) hx hb dX1_higher_7 (by decide) (fun c_1 => ?_) (fun c_1 => ?_)
  · refine lv_lload_n hx hb dX1_higher_14 rfl (lv_at hl 1 rfl) ?_
    exact W.lret (v := a1) hx hb hr (fun t ht hW => ⟨congrArg (fun z => Outcome.returned (some (Value.long z))) (by unfold f_X1_higher; rw [if_pos c_1]), ht⟩) (fun _ h => nomatch h) dX1_higher_15
  · refine lv_lload_n hx hb dX1_higher_10 rfl (lv_at hl 0 rfl) ?_
    refine lv_goto (tgt := 15) hx hb dX1_higher_11 (by decide) ?_
    exact W.lret (v := a0) hx hb hr (fun t ht hW => ⟨congrArg (fun z => Outcome.returned (some (Value.long z))) (by unfold f_X1_higher; rw [if_neg c_1]), ht⟩) (fun _ h => nomatch h) dX1_higher_15
def f_X1_lower (a0 : Int64) (a1 : Int64) (a2 : Int32) : Int64 := (if (f_X1_isAbove a0 a1 a2) = 0 then a0 else a1)
set_option maxHeartbeats 4000000 in
set_option maxRecDepth 100000 in
theorem c_X1_lower (l : Launch) (H0 : Heap) (a0 : Int64) (a1 : Int64) (a2 : Int32) : pu l yX1_lower wsX1_lower ({ frames := 3, cells := 0, slots := 0, locals := 66 }) [.long a0, .long a1, .int a2] (fun _ => True) H0 (some (.long (f_X1_lower a0 a1 a2))) := by
  refine Met.ofW (cc := cX1_lower) (maxL := 5) (ret := (some .long)) (by decide) rfl ?_
  intro p e s m args below meth c s₁ B hml hv
  obtain ⟨rfl, hH, -⟩ := hv
  have hx := B.exec
  have hb := B.bytes
  have hr := B.returns
  have hts := atoms_spec (ws := wsX1_lower) B.pre
  have hown : s.vm.findClass RX1 = some m.cls := findClass_of_methodNamed B.named
  have hlocks := B.notSynchronized
  subst hH
  have hl := lv_entry ([.long a0, .long a1, .int a2]) (n := 5) (Nat.le_of_ble_eq_true rfl)
  rw [lg_entry_eq]
  generalize (lg_sl ([.long a0, .long a1, .int a2]) ++ List.replicate (5 - (lg_sl ([.long a0, .long a1, .int a2])).length) Slot.unset).toArray = ls at hl ⊢
  have hl : lv_has ls 5 [(0, .long a0), (2, .long a1), (4, .int a2)] := hl
  refine lv_lload_n hx hb dX1_lower_0 rfl (lv_at hl 0 rfl) ?_
  refine lv_lload_n hx hb dX1_lower_1 rfl (lv_at hl 1 rfl) ?_
  refine lv_iload hx hb dX1_lower_2 (lv_at hl 2 rfl) ?_
  refine pu_S (As := [.long a0, .long a1, .int a2]) (rest := []) ⟨hx, hb, hml, hown, hts⟩ (c_X1_isAbove l s.heap a0 a1 a2) puK_T trivial (va_cwS 3 hts gX1_lower_X1_isAbove rfl rfl rfl (by decide +kernel) ⟨Nat.le_of_ble_eq_true rfl, Nat.le_of_ble_eq_true rfl⟩) rfl hl.1 rfl (Nat.le_of_ble_eq_true rfl) dX1_lower_4 ⟨Nat.zero_le _, Nat.zero_le _⟩ ?_
  refine W.eq (g2 := F0 m 7 ls [.int (f_X1_isAbove a0 a1 a2)]) rfl ?_
  refine lv_if_eq (tgt := 14) hx hb dX1_lower_7 (by decide) (fun c_1 => ?_) (fun c_1 => ?_)
  · refine lv_lload_n hx hb dX1_lower_14 rfl (lv_at hl 0 rfl) ?_
    exact W.lret (v := a0) hx hb hr (fun t ht hW => ⟨congrArg (fun z => Outcome.returned (some (Value.long z))) (by unfold f_X1_lower; rw [if_pos c_1]), ht⟩) (fun _ h => nomatch h) dX1_lower_15
  · refine lv_lload_n hx hb dX1_lower_10 rfl (lv_at hl 1 rfl) ?_
    refine lv_goto (tgt := 15) hx hb dX1_lower_11 (by decide) ?_
    exact W.lret (v := a1) hx hb hr (fun t ht hW => ⟨congrArg (fun z => Outcome.returned (some (Value.long z))) (by unfold f_X1_lower; rw [if_neg c_1]), ht⟩) (fun _ h => nomatch h) dX1_lower_15
def f_X1_signBits (a0 : Int32) : Int64 := (if a0 = (2 : Int32) then (-2147483648 : Int64) else (-9223372036854775808 : Int64))
set_option maxHeartbeats 4000000 in
set_option maxRecDepth 100000 in
theorem c_X1_signBits (l : Launch) (H0 : Heap) (a0 : Int32) : pu l yX1_signBits wsX1_signBits ({ frames := 0, cells := 0, slots := 0, locals := 0 }) [.int a0] (fun _ => True) H0 (some (.long (f_X1_signBits a0))) := by
  refine Met.ofW (cc := cX1_signBits) (maxL := 1) (ret := (some .long)) (by decide) rfl ?_
  intro p e s m args below meth c s₁ B hml hv
  obtain ⟨rfl, hH, -⟩ := hv
  have hx := B.exec
  have hb := B.bytes
  have hr := B.returns
  have hts := atoms_spec (ws := wsX1_signBits) B.pre
  have hown : s.vm.findClass RX1 = some m.cls := findClass_of_methodNamed B.named
  have hlocks := B.notSynchronized
  subst hH
  have hl := lv_entry ([.int a0]) (n := 1) (Nat.le_of_ble_eq_true rfl)
  rw [lg_entry_eq]
  generalize (lg_sl ([.int a0]) ++ List.replicate (1 - (lg_sl ([.int a0])).length) Slot.unset).toArray = ls at hl ⊢
  have hl : lv_has ls 1 [(0, .int a0)] := hl
  refine lv_iload_n hx hb dX1_signBits_0 rfl (lv_at hl 0 rfl) ?_
  refine lv_iconst (v := 2) hx hb dX1_signBits_1 (by decide) ?_
  refine lv_icmp_ne (tgt := 11) hx hb dX1_signBits_2 (by decide) (fun c_1 => ?_) (fun c_1 => ?_)
  · refine lv_ldc2 (v := (-9223372036854775808)) hx hb hown (hts (.constantLong RX1 227 (-9223372036854775808)) (by decide +kernel)) dX1_signBits_11 ?_
    exact W.lret (v := (-9223372036854775808 : Int64)) hx hb hr (fun t ht hW => ⟨congrArg (fun z => Outcome.returned (some (Value.long z))) (by unfold f_X1_signBits; rw [if_neg c_1]), ht⟩) (fun _ h => nomatch h) dX1_signBits_14
  · refine lv_ldc2 (v := (-2147483648)) hx hb hown (hts (.constantLong RX1 171 (-2147483648)) (by decide +kernel)) dX1_signBits_5 ?_
    refine lv_goto (tgt := 14) hx hb dX1_signBits_8 (by decide) ?_
    exact W.lret (v := (-2147483648 : Int64)) hx hb hr (fun t ht hW => ⟨congrArg (fun z => Outcome.returned (some (Value.long z))) (by unfold f_X1_signBits; rw [if_pos c_1]), ht⟩) (fun _ h => nomatch h) dX1_signBits_14
def f_X1_withSign (a0 : Int64) (a1 : Int32) (a2 : Int32) : Int64 := (if a1 = 0 then a0 else a0 ||| (f_X1_signBits a2))
set_option maxHeartbeats 4000000 in
set_option maxRecDepth 100000 in
theorem c_X1_withSign (l : Launch) (H0 : Heap) (a0 : Int64) (a1 : Int32) (a2 : Int32) : pu l yX1_withSign wsX1_withSign ({ frames := 1, cells := 0, slots := 0, locals := 20 }) [.long a0, .int a1, .int a2] (fun _ => True) H0 (some (.long (f_X1_withSign a0 a1 a2))) := by
  refine Met.ofW (cc := cX1_withSign) (maxL := 4) (ret := (some .long)) (by decide) rfl ?_
  intro p e s m args below meth c s₁ B hml hv
  obtain ⟨rfl, hH, -⟩ := hv
  have hx := B.exec
  have hb := B.bytes
  have hr := B.returns
  have hts := atoms_spec (ws := wsX1_withSign) B.pre
  have hown : s.vm.findClass RX1 = some m.cls := findClass_of_methodNamed B.named
  have hlocks := B.notSynchronized
  subst hH
  have hl := lv_entry ([.long a0, .int a1, .int a2]) (n := 4) (Nat.le_of_ble_eq_true rfl)
  rw [lg_entry_eq]
  generalize (lg_sl ([.long a0, .int a1, .int a2]) ++ List.replicate (4 - (lg_sl ([.long a0, .int a1, .int a2])).length) Slot.unset).toArray = ls at hl ⊢
  have hl : lv_has ls 4 [(0, .long a0), (2, .int a1), (3, .int a2)] := hl
  refine lv_iload_n hx hb dX1_withSign_0 rfl (lv_at hl 1 rfl) ?_
  refine lv_if_eq (tgt := 13) hx hb dX1_withSign_1 (by decide) (fun c_1 => ?_) (fun c_1 => ?_)
  · refine lv_lload_n hx hb dX1_withSign_13 rfl (lv_at hl 0 rfl) ?_
    exact W.lret (v := a0) hx hb hr (fun t ht hW => ⟨congrArg (fun z => Outcome.returned (some (Value.long z))) (by unfold f_X1_withSign; rw [if_pos c_1]), ht⟩) (fun _ h => nomatch h) dX1_withSign_14
  · refine lv_lload_n hx hb dX1_withSign_4 rfl (lv_at hl 0 rfl) ?_
    refine lv_iload_n hx hb dX1_withSign_5 rfl (lv_at hl 2 rfl) ?_
    refine pu_S (As := [.int a2]) (rest := [.long a0]) ⟨hx, hb, hml, hown, hts⟩ (c_X1_signBits l s.heap a2) puK_T trivial (va_cwS 1 hts gX1_withSign_X1_signBits rfl rfl rfl (by decide +kernel) ⟨Nat.le_of_ble_eq_true rfl, Nat.le_of_ble_eq_true rfl⟩) rfl hl.1 rfl (Nat.le_of_ble_eq_true rfl) dX1_withSign_6 ⟨Nat.zero_le _, Nat.zero_le _⟩ ?_
    refine W.eq (g2 := F0 m 9 ls [.long (f_X1_signBits a2), .long a0]) rfl ?_
    refine lv_lor hx hb dX1_withSign_9 ?_
    refine lv_goto (tgt := 14) hx hb dX1_withSign_10 (by decide) ?_
    exact W.lret (v := a0 ||| (f_X1_signBits a2)) hx hb hr (fun t ht hW => ⟨congrArg (fun z => Outcome.returned (some (Value.long z))) (by unfold f_X1_withSign; rw [if_neg c_1]), ht⟩) (fun _ h => nomatch h) dX1_withSign_14
def f_X1_sizeOf (a0 : Int64) (a1 : Int32) : Int64 := (if (f_X1_isReal a1) = 0 then (if a1 = 0 then (if 0 ≤ (lg_cmp a0 (0 : Int64)) then a0 else (if (lg_cmp a0 (-2147483648 : Int64)) = 0 then a0 else -a0)) else (if 0 ≤ (lg_cmp a0 (0 : Int64)) then a0 else (if (lg_cmp a0 (-9223372036854775808 : Int64)) = 0 then a0 else -a0))) else a0 &&& ((f_X1_signBits a1) ^^^ (-1 : Int64)))
set_option maxHeartbeats 4000000 in
set_option maxRecDepth 100000 in
theorem c_X1_sizeOf (l : Launch) (H0 : Heap) (a0 : Int64) (a1 : Int32) : pu l yX1_sizeOf wsX1_sizeOf ({ frames := 1, cells := 0, slots := 0, locals := 20 }) [.long a0, .int a1] (fun _ => True) H0 (some (.long (f_X1_sizeOf a0 a1))) := by
  refine Met.ofW (cc := cX1_sizeOf) (maxL := 5) (ret := (some .long)) (by decide) rfl ?_
  intro p e s m args below meth c s₁ B hml hv
  obtain ⟨rfl, hH, -⟩ := hv
  have hx := B.exec
  have hb := B.bytes
  have hr := B.returns
  have hts := atoms_spec (ws := wsX1_sizeOf) B.pre
  have hown : s.vm.findClass RX1 = some m.cls := findClass_of_methodNamed B.named
  have hlocks := B.notSynchronized
  subst hH
  have hl := lv_entry ([.long a0, .int a1]) (n := 5) (Nat.le_of_ble_eq_true rfl)
  rw [lg_entry_eq]
  generalize (lg_sl ([.long a0, .int a1]) ++ List.replicate (5 - (lg_sl ([.long a0, .int a1])).length) Slot.unset).toArray = ls at hl ⊢
  have hl : lv_has ls 5 [(0, .long a0), (2, .int a1)] := hl
  refine lv_iload_n hx hb dX1_sizeOf_0 rfl (lv_at hl 1 rfl) ?_
  refine pu_S (As := [.int a1]) (rest := []) ⟨hx, hb, hml, hown, hts⟩ (c_X1_isReal l s.heap a1) puK_T trivial (va_cwS 1 hts gX1_sizeOf_X1_isReal rfl rfl rfl (by decide +kernel) ⟨Nat.le_of_ble_eq_true rfl, Nat.le_of_ble_eq_true rfl⟩) rfl hl.1 rfl (Nat.le_of_ble_eq_true rfl) dX1_sizeOf_1 ⟨Nat.zero_le _, Nat.zero_le _⟩ ?_
  refine W.eq (g2 := F0 m 4 ls [.int (f_X1_isReal a1)]) rfl ?_
  refine lv_if_eq (tgt := 18) hx hb dX1_sizeOf_4 (by decide) (fun c_1 => ?_) (fun c_1 => ?_)
  · refine lv_iload_n hx hb dX1_sizeOf_18 rfl (lv_at hl 1 rfl) ?_
    refine lv_if_ne (tgt := 28) hx hb dX1_sizeOf_19 (by decide) (fun c_2 => ?_) (fun c_2 => ?_)
    · refine lv_ldc2 (v := (-9223372036854775808)) hx hb hown (hts (.constantLong RX1 227 (-9223372036854775808)) (by decide +kernel)) dX1_sizeOf_28 ?_
      refine lv_lstore_n (lv' := [(3, .long (-9223372036854775808 : Int64)), (0, .long a0), (2, .int a1)]) hx hb dX1_sizeOf_31 rfl hl (by decide) rfl (fun ls hl => ?_)
      refine lv_lload_n hx hb dX1_sizeOf_32 rfl (lv_at hl 1 rfl) ?_
      refine lv_lconst (v := 0) hx hb dX1_sizeOf_33 (by decide) ?_
      refine W.lcmp hx hb dX1_sizeOf_34 ?_
      refine lv_if_ge (tgt := 44) hx hb dX1_sizeOf_35 (by decide) (fun c_3 => ?_) (fun c_3 => ?_)
      · refine lv_lload_n hx hb dX1_sizeOf_44 rfl (lv_at hl 1 rfl) ?_
        refine lv_goto (tgt := 50) hx hb dX1_sizeOf_45 (by decide) ?_
        exact W.lret (v := a0) hx hb hr (fun t ht hW => ⟨congrArg (fun z => Outcome.returned (some (Value.long z))) (by unfold f_X1_sizeOf; rw [if_pos c_1, if_neg c_2, if_pos c_3]), ht⟩) (fun _ h => nomatch h) dX1_sizeOf_50
      · refine lv_lload_n hx hb dX1_sizeOf_38 rfl (lv_at hl 1 rfl) ?_
        refine lv_lload_n hx hb dX1_sizeOf_39 rfl (lv_at hl 0 rfl) ?_
        refine W.lcmp hx hb dX1_sizeOf_40 ?_
        refine lv_if_ne (tgt := 48) hx hb dX1_sizeOf_41 (by decide) (fun c_4 => ?_) (fun c_4 => ?_)
        · refine lv_lload_n hx hb dX1_sizeOf_48 rfl (lv_at hl 1 rfl) ?_
          refine lv_lneg hx hb dX1_sizeOf_49 ?_
          exact W.lret (v := -a0) hx hb hr (fun t ht hW => ⟨congrArg (fun z => Outcome.returned (some (Value.long z))) (by unfold f_X1_sizeOf; rw [if_pos c_1, if_neg c_2, if_neg c_3, if_neg c_4]), ht⟩) (fun _ h => nomatch h) dX1_sizeOf_50
        · refine lv_lload_n hx hb dX1_sizeOf_44 rfl (lv_at hl 1 rfl) ?_
          refine lv_goto (tgt := 50) hx hb dX1_sizeOf_45 (by decide) ?_
          exact W.lret (v := a0) hx hb hr (fun t ht hW => ⟨congrArg (fun z => Outcome.returned (some (Value.long z))) (by unfold f_X1_sizeOf; rw [if_pos c_1, if_neg c_2, if_neg c_3, if_pos c_4]), ht⟩) (fun _ h => nomatch h) dX1_sizeOf_50
    · refine lv_ldc2 (v := (-2147483648)) hx hb hown (hts (.constantLong RX1 171 (-2147483648)) (by decide +kernel)) dX1_sizeOf_22 ?_
      refine lv_goto (tgt := 31) hx hb dX1_sizeOf_25 (by decide) ?_
      refine lv_lstore_n (lv' := [(3, .long (-2147483648 : Int64)), (0, .long a0), (2, .int a1)]) hx hb dX1_sizeOf_31 rfl hl (by decide) rfl (fun ls hl => ?_)
      refine lv_lload_n hx hb dX1_sizeOf_32 rfl (lv_at hl 1 rfl) ?_
      refine lv_lconst (v := 0) hx hb dX1_sizeOf_33 (by decide) ?_
      refine W.lcmp hx hb dX1_sizeOf_34 ?_
      refine lv_if_ge (tgt := 44) hx hb dX1_sizeOf_35 (by decide) (fun c_5 => ?_) (fun c_5 => ?_)
      · refine lv_lload_n hx hb dX1_sizeOf_44 rfl (lv_at hl 1 rfl) ?_
        refine lv_goto (tgt := 50) hx hb dX1_sizeOf_45 (by decide) ?_
        exact W.lret (v := a0) hx hb hr (fun t ht hW => ⟨congrArg (fun z => Outcome.returned (some (Value.long z))) (by unfold f_X1_sizeOf; rw [if_pos c_1, if_pos c_2, if_pos c_5]), ht⟩) (fun _ h => nomatch h) dX1_sizeOf_50
      · refine lv_lload_n hx hb dX1_sizeOf_38 rfl (lv_at hl 1 rfl) ?_
        refine lv_lload_n hx hb dX1_sizeOf_39 rfl (lv_at hl 0 rfl) ?_
        refine W.lcmp hx hb dX1_sizeOf_40 ?_
        refine lv_if_ne (tgt := 48) hx hb dX1_sizeOf_41 (by decide) (fun c_6 => ?_) (fun c_6 => ?_)
        · refine lv_lload_n hx hb dX1_sizeOf_48 rfl (lv_at hl 1 rfl) ?_
          refine lv_lneg hx hb dX1_sizeOf_49 ?_
          exact W.lret (v := -a0) hx hb hr (fun t ht hW => ⟨congrArg (fun z => Outcome.returned (some (Value.long z))) (by unfold f_X1_sizeOf; rw [if_pos c_1, if_pos c_2, if_neg c_5, if_neg c_6]), ht⟩) (fun _ h => nomatch h) dX1_sizeOf_50
        · refine lv_lload_n hx hb dX1_sizeOf_44 rfl (lv_at hl 1 rfl) ?_
          refine lv_goto (tgt := 50) hx hb dX1_sizeOf_45 (by decide) ?_
          exact W.lret (v := a0) hx hb hr (fun t ht hW => ⟨congrArg (fun z => Outcome.returned (some (Value.long z))) (by unfold f_X1_sizeOf; rw [if_pos c_1, if_pos c_2, if_neg c_5, if_pos c_6]), ht⟩) (fun _ h => nomatch h) dX1_sizeOf_50
  · refine lv_lload_n hx hb dX1_sizeOf_7 rfl (lv_at hl 0 rfl) ?_
    refine lv_iload_n hx hb dX1_sizeOf_8 rfl (lv_at hl 1 rfl) ?_
    refine pu_S (As := [.int a1]) (rest := [.long a0]) ⟨hx, hb, hml, hown, hts⟩ (c_X1_signBits l s.heap a1) puK_T trivial (va_cwS 1 hts gX1_sizeOf_X1_signBits rfl rfl rfl (by decide +kernel) ⟨Nat.le_of_ble_eq_true rfl, Nat.le_of_ble_eq_true rfl⟩) rfl hl.1 rfl (Nat.le_of_ble_eq_true rfl) dX1_sizeOf_9 ⟨Nat.zero_le _, Nat.zero_le _⟩ ?_
    refine W.eq (g2 := F0 m 12 ls [.long (f_X1_signBits a1), .long a0]) rfl ?_
    refine lv_ldc2 (v := (-1)) hx hb hown (hts (.constantLong RX1 233 (-1)) (by decide +kernel)) dX1_sizeOf_12 ?_
    refine lv_lxor hx hb dX1_sizeOf_15 ?_
    refine lv_land hx hb dX1_sizeOf_16 ?_
    exact W.lret (v := a0 &&& ((f_X1_signBits a1) ^^^ (-1 : Int64))) hx hb hr (fun t ht hW => ⟨congrArg (fun z => Outcome.returned (some (Value.long z))) (by unfold f_X1_sizeOf; rw [if_neg c_1]), ht⟩) (fun _ h => nomatch h) dX1_sizeOf_17
def f_X1_shown (a0 : Int64) (a1 : Int32) : Int64 := (if (lg_cmp (f_X1_sizeOf a0 a1) (0 : Int64)) = 0 then a0 else (if a1 = (2 : Int32) then (if 0 ≤ (lg_cmp a0 (0 : Int64)) then f_X1_withSign (1065353216 : Int64) (0 : Int32) a1 else f_X1_withSign (1065353216 : Int64) (1 : Int32) a1) else (if 0 ≤ (lg_cmp a0 (0 : Int64)) then f_X1_withSign (4607182418800017408 : Int64) (0 : Int32) a1 else f_X1_withSign (4607182418800017408 : Int64) (1 : Int32) a1)))
set_option maxHeartbeats 4000000 in
set_option maxRecDepth 100000 in
theorem c_X1_shown (l : Launch) (H0 : Heap) (a0 : Int64) (a1 : Int32) : pu l yX1_shown wsX1_shown ({ frames := 2, cells := 0, slots := 0, locals := 44 }) [.long a0, .int a1] (fun _ => True) H0 (some (.long (f_X1_shown a0 a1))) := by
  refine Met.ofW (cc := cX1_shown) (maxL := 3) (ret := (some .long)) (by decide) rfl ?_
  intro p e s m args below meth c s₁ B hml hv
  obtain ⟨rfl, hH, -⟩ := hv
  have hx := B.exec
  have hb := B.bytes
  have hr := B.returns
  have hts := atoms_spec (ws := wsX1_shown) B.pre
  have hown : s.vm.findClass RX1 = some m.cls := findClass_of_methodNamed B.named
  have hlocks := B.notSynchronized
  subst hH
  have hl := lv_entry ([.long a0, .int a1]) (n := 3) (Nat.le_of_ble_eq_true rfl)
  rw [lg_entry_eq]
  generalize (lg_sl ([.long a0, .int a1]) ++ List.replicate (3 - (lg_sl ([.long a0, .int a1])).length) Slot.unset).toArray = ls at hl ⊢
  have hl : lv_has ls 3 [(0, .long a0), (2, .int a1)] := hl
  refine lv_lload_n hx hb dX1_shown_0 rfl (lv_at hl 0 rfl) ?_
  refine lv_iload_n hx hb dX1_shown_1 rfl (lv_at hl 1 rfl) ?_
  refine pu_S (As := [.long a0, .int a1]) (rest := []) ⟨hx, hb, hml, hown, hts⟩ (c_X1_sizeOf l s.heap a0 a1) puK_T trivial (va_cwS 2 hts gX1_shown_X1_sizeOf rfl rfl rfl (by decide +kernel) ⟨Nat.le_of_ble_eq_true rfl, Nat.le_of_ble_eq_true rfl⟩) rfl hl.1 rfl (Nat.le_of_ble_eq_true rfl) dX1_shown_2 ⟨Nat.zero_le _, Nat.zero_le _⟩ ?_
  refine W.eq (g2 := F0 m 5 ls [.long (f_X1_sizeOf a0 a1)]) rfl ?_
  refine lv_lconst (v := 0) hx hb dX1_shown_5 (by decide) ?_
  refine W.lcmp hx hb dX1_shown_6 ?_
  refine lv_if_ne (tgt := 12) hx hb dX1_shown_7 (by decide) (fun c_1 => ?_) (fun c_1 => ?_)
  · refine lv_iload_n hx hb dX1_shown_12 rfl (lv_at hl 1 rfl) ?_
    refine lv_iconst (v := 2) hx hb dX1_shown_13 (by decide) ?_
    refine lv_icmp_ne (tgt := 23) hx hb dX1_shown_14 (by decide) (fun c_2 => ?_) (fun c_2 => ?_)
    · refine lv_ldc2 (v := 4607182418800017408) hx hb hown (hts (.constantLong RX1 237 4607182418800017408) (by decide +kernel)) dX1_shown_23 ?_
      refine lv_lload_n hx hb dX1_shown_26 rfl (lv_at hl 0 rfl) ?_
      refine lv_lconst (v := 0) hx hb dX1_shown_27 (by decide) ?_
      refine W.lcmp hx hb dX1_shown_28 ?_
      refine lv_if_ge (tgt := 36) hx hb dX1_shown_29 (by decide) (fun c_3 => ?_) (fun c_3 => ?_)
      · refine lv_iconst (v := 0) hx hb dX1_shown_36 (by decide) ?_
        refine lv_iload_n hx hb dX1_shown_37 rfl (lv_at hl 1 rfl) ?_
        refine pu_S (As := [.long (4607182418800017408 : Int64), .int (0 : Int32), .int a1]) (rest := []) ⟨hx, hb, hml, hown, hts⟩ (c_X1_withSign l s.heap (4607182418800017408 : Int64) (0 : Int32) a1) puK_T trivial (va_cwS 3 hts gX1_shown_X1_withSign rfl rfl rfl (by decide +kernel) ⟨Nat.le_of_ble_eq_true rfl, Nat.le_of_ble_eq_true rfl⟩) rfl hl.1 rfl (Nat.le_of_ble_eq_true rfl) dX1_shown_38 ⟨Nat.zero_le _, Nat.zero_le _⟩ ?_
        refine W.eq (g2 := F0 m 41 ls [.long (f_X1_withSign (4607182418800017408 : Int64) (0 : Int32) a1)]) rfl ?_
        exact W.lret (v := f_X1_withSign (4607182418800017408 : Int64) (0 : Int32) a1) hx hb hr (fun t ht hW => ⟨congrArg (fun z => Outcome.returned (some (Value.long z))) (by unfold f_X1_shown; rw [if_neg c_1, if_neg c_2, if_pos c_3]), ht⟩) (fun _ h => nomatch h) dX1_shown_41
      · refine lv_iconst (v := 1) hx hb dX1_shown_32 (by decide) ?_
        refine lv_goto (tgt := 37) hx hb dX1_shown_33 (by decide) ?_
        refine lv_iload_n hx hb dX1_shown_37 rfl (lv_at hl 1 rfl) ?_
        refine pu_S (As := [.long (4607182418800017408 : Int64), .int (1 : Int32), .int a1]) (rest := []) ⟨hx, hb, hml, hown, hts⟩ (c_X1_withSign l s.heap (4607182418800017408 : Int64) (1 : Int32) a1) puK_T trivial (va_cwS 3 hts gX1_shown_X1_withSign rfl rfl rfl (by decide +kernel) ⟨Nat.le_of_ble_eq_true rfl, Nat.le_of_ble_eq_true rfl⟩) rfl hl.1 rfl (Nat.le_of_ble_eq_true rfl) dX1_shown_38 ⟨Nat.zero_le _, Nat.zero_le _⟩ ?_
        refine W.eq (g2 := F0 m 41 ls [.long (f_X1_withSign (4607182418800017408 : Int64) (1 : Int32) a1)]) rfl ?_
        exact W.lret (v := f_X1_withSign (4607182418800017408 : Int64) (1 : Int32) a1) hx hb hr (fun t ht hW => ⟨congrArg (fun z => Outcome.returned (some (Value.long z))) (by unfold f_X1_shown; rw [if_neg c_1, if_neg c_2, if_neg c_3]), ht⟩) (fun _ h => nomatch h) dX1_shown_41
    · refine lv_ldc2 (v := 1065353216) hx hb hown (hts (.constantLong RX1 235 1065353216) (by decide +kernel)) dX1_shown_17 ?_
      refine lv_goto (tgt := 26) hx hb dX1_shown_20 (by decide) ?_
      refine lv_lload_n hx hb dX1_shown_26 rfl (lv_at hl 0 rfl) ?_
      refine lv_lconst (v := 0) hx hb dX1_shown_27 (by decide) ?_
      refine W.lcmp hx hb dX1_shown_28 ?_
      refine lv_if_ge (tgt := 36) hx hb dX1_shown_29 (by decide) (fun c_4 => ?_) (fun c_4 => ?_)
      · refine lv_iconst (v := 0) hx hb dX1_shown_36 (by decide) ?_
        refine lv_iload_n hx hb dX1_shown_37 rfl (lv_at hl 1 rfl) ?_
        refine pu_S (As := [.long (1065353216 : Int64), .int (0 : Int32), .int a1]) (rest := []) ⟨hx, hb, hml, hown, hts⟩ (c_X1_withSign l s.heap (1065353216 : Int64) (0 : Int32) a1) puK_T trivial (va_cwS 3 hts gX1_shown_X1_withSign rfl rfl rfl (by decide +kernel) ⟨Nat.le_of_ble_eq_true rfl, Nat.le_of_ble_eq_true rfl⟩) rfl hl.1 rfl (Nat.le_of_ble_eq_true rfl) dX1_shown_38 ⟨Nat.zero_le _, Nat.zero_le _⟩ ?_
        refine W.eq (g2 := F0 m 41 ls [.long (f_X1_withSign (1065353216 : Int64) (0 : Int32) a1)]) rfl ?_
        exact W.lret (v := f_X1_withSign (1065353216 : Int64) (0 : Int32) a1) hx hb hr (fun t ht hW => ⟨congrArg (fun z => Outcome.returned (some (Value.long z))) (by unfold f_X1_shown; rw [if_neg c_1, if_pos c_2, if_pos c_4]), ht⟩) (fun _ h => nomatch h) dX1_shown_41
      · refine lv_iconst (v := 1) hx hb dX1_shown_32 (by decide) ?_
        refine lv_goto (tgt := 37) hx hb dX1_shown_33 (by decide) ?_
        refine lv_iload_n hx hb dX1_shown_37 rfl (lv_at hl 1 rfl) ?_
        refine pu_S (As := [.long (1065353216 : Int64), .int (1 : Int32), .int a1]) (rest := []) ⟨hx, hb, hml, hown, hts⟩ (c_X1_withSign l s.heap (1065353216 : Int64) (1 : Int32) a1) puK_T trivial (va_cwS 3 hts gX1_shown_X1_withSign rfl rfl rfl (by decide +kernel) ⟨Nat.le_of_ble_eq_true rfl, Nat.le_of_ble_eq_true rfl⟩) rfl hl.1 rfl (Nat.le_of_ble_eq_true rfl) dX1_shown_38 ⟨Nat.zero_le _, Nat.zero_le _⟩ ?_
        refine W.eq (g2 := F0 m 41 ls [.long (f_X1_withSign (1065353216 : Int64) (1 : Int32) a1)]) rfl ?_
        exact W.lret (v := f_X1_withSign (1065353216 : Int64) (1 : Int32) a1) hx hb hr (fun t ht hW => ⟨congrArg (fun z => Outcome.returned (some (Value.long z))) (by unfold f_X1_shown; rw [if_neg c_1, if_pos c_2, if_neg c_4]), ht⟩) (fun _ h => nomatch h) dX1_shown_41
  · refine lv_lload_n hx hb dX1_shown_10 rfl (lv_at hl 0 rfl) ?_
    exact W.lret (v := a0) hx hb hr (fun t ht hW => ⟨congrArg (fun z => Outcome.returned (some (Value.long z))) (by unfold f_X1_shown; rw [if_pos c_1]), ht⟩) (fun _ h => nomatch h) dX1_shown_11
def f_X1_partMask (a0 : Int64) : Int64 := (if (((((a0 &&& (9223372036854775807 : Int64)).toUInt64 >>> ((52 : Int32).toInt64.toUInt64 &&& Int64.toUInt64 63)).toInt64).toInt32) - (1023 : Int32)) < (52 : Int32) then ((1 : Int64) <<< (((52 : Int32) - (((((a0 &&& (9223372036854775807 : Int64)).toUInt64 >>> ((52 : Int32).toInt64.toUInt64 &&& Int64.toUInt64 63)).toInt64).toInt32) - (1023 : Int32))).toInt64 &&& 63)) - (1 : Int64) else (0 : Int64))
set_option maxHeartbeats 4000000 in
set_option maxRecDepth 100000 in
theorem c_X1_partMask (l : Launch) (H0 : Heap) (a0 : Int64) : pu l yX1_partMask wsX1_partMask ({ frames := 0, cells := 0, slots := 0, locals := 0 }) [.long a0] (fun _ => True) H0 (some (.long (f_X1_partMask a0))) := by
  refine Met.ofW (cc := cX1_partMask) (maxL := 3) (ret := (some .long)) (by decide) rfl ?_
  intro p e s m args below meth c s₁ B hml hv
  obtain ⟨rfl, hH, -⟩ := hv
  have hx := B.exec
  have hb := B.bytes
  have hr := B.returns
  have hts := atoms_spec (ws := wsX1_partMask) B.pre
  have hown : s.vm.findClass RX1 = some m.cls := findClass_of_methodNamed B.named
  have hlocks := B.notSynchronized
  subst hH
  have hl := lv_entry ([.long a0]) (n := 3) (Nat.le_of_ble_eq_true rfl)
  rw [lg_entry_eq]
  generalize (lg_sl ([.long a0]) ++ List.replicate (3 - (lg_sl ([.long a0])).length) Slot.unset).toArray = ls at hl ⊢
  have hl : lv_has ls 3 [(0, .long a0)] := hl
  refine lv_lload_n hx hb dX1_partMask_0 rfl (lv_at hl 0 rfl) ?_
  refine lv_ldc2 (v := 9223372036854775807) hx hb hown (hts (.constantLong RX1 167 9223372036854775807) (by decide +kernel)) dX1_partMask_1 ?_
  refine lv_land hx hb dX1_partMask_4 ?_
  refine lv_bipush (v := 52) hx hb dX1_partMask_5 (by decide) ?_
  refine lv_lushr hx hb dX1_partMask_7 rfl ?_
  refine lv_l2i hx hb dX1_partMask_8 rfl ?_
  refine lv_sipush (v := 1023) hx hb dX1_partMask_9 (by decide) ?_
  refine lv_isub hx hb dX1_partMask_12 ?_
  refine lv_istore_n (lv' := [(2, .int (((((a0 &&& (9223372036854775807 : Int64)).toUInt64 >>> ((52 : Int32).toInt64.toUInt64 &&& Int64.toUInt64 63)).toInt64).toInt32) - (1023 : Int32))), (0, .long a0)]) hx hb dX1_partMask_13 rfl hl (by decide) rfl (fun ls hl => ?_)
  refine lv_iload_n hx hb dX1_partMask_14 rfl (lv_at hl 0 rfl) ?_
  refine lv_bipush (v := 52) hx hb dX1_partMask_15 (by decide) ?_
  refine lv_icmp_lt (tgt := 24) hx hb dX1_partMask_17 (by decide) (fun c_1 => ?_) (fun c_1 => ?_)
  · refine lv_lconst (v := 1) hx hb dX1_partMask_24 (by decide) ?_
    refine lv_bipush (v := 52) hx hb dX1_partMask_25 (by decide) ?_
    refine lv_iload_n hx hb dX1_partMask_27 rfl (lv_at hl 0 rfl) ?_
    refine lv_isub hx hb dX1_partMask_28 ?_
    refine lv_lshl hx hb dX1_partMask_29 rfl ?_
    refine lv_lconst (v := 1) hx hb dX1_partMask_30 (by decide) ?_
    refine lv_lsub hx hb dX1_partMask_31 ?_
    exact W.lret (v := ((1 : Int64) <<< (((52 : Int32) - (((((a0 &&& (9223372036854775807 : Int64)).toUInt64 >>> ((52 : Int32).toInt64.toUInt64 &&& Int64.toUInt64 63)).toInt64).toInt32) - (1023 : Int32))).toInt64 &&& 63)) - (1 : Int64)) hx hb hr (fun t ht hW => ⟨congrArg (fun z => Outcome.returned (some (Value.long z))) (by unfold f_X1_partMask; rw [if_pos c_1]), ht⟩) (fun _ h => nomatch h) dX1_partMask_32
  · refine lv_lconst (v := 0) hx hb dX1_partMask_20 (by decide) ?_
    refine lv_goto (tgt := 32) hx hb dX1_partMask_21 (by decide) ?_
    exact W.lret (v := (0 : Int64)) hx hb hr (fun t ht hW => ⟨congrArg (fun z => Outcome.returned (some (Value.long z))) (by unfold f_X1_partMask; rw [if_neg c_1]), ht⟩) (fun _ h => nomatch h) dX1_partMask_32
def f_X1_isBelowOne (a0 : Int64) : Int32 := (if 0 ≤ (lg_cmp (a0 &&& (9223372036854775807 : Int64)) (4607182418800017408 : Int64)) then (0 : Int32) else (1 : Int32))
set_option maxHeartbeats 4000000 in
set_option maxRecDepth 100000 in
theorem c_X1_isBelowOne (l : Launch) (H0 : Heap) (a0 : Int64) : pu l yX1_isBelowOne wsX1_isBelowOne ({ frames := 0, cells := 0, slots := 0, locals := 0 }) [.long a0] (fun _ => True) H0 (some (.int (f_X1_isBelowOne a0))) := by
  refine Met.ofW (cc := cX1_isBelowOne) (maxL := 2) (ret := (some .boolean)) (by decide) rfl ?_
  intro p e s m args below meth c s₁ B hml hv
  obtain ⟨rfl, hH, -⟩ := hv
  have hx := B.exec
  have hb := B.bytes
  have hr := B.returns
  have hts := atoms_spec (ws := wsX1_isBelowOne) B.pre
  have hown : s.vm.findClass RX1 = some m.cls := findClass_of_methodNamed B.named
  have hlocks := B.notSynchronized
  subst hH
  have hl := lv_entry ([.long a0]) (n := 2) (Nat.le_of_ble_eq_true rfl)
  rw [lg_entry_eq]
  generalize (lg_sl ([.long a0]) ++ List.replicate (2 - (lg_sl ([.long a0])).length) Slot.unset).toArray = ls at hl ⊢
  have hl : lv_has ls 2 [(0, .long a0)] := hl
  refine lv_lload_n hx hb dX1_isBelowOne_0 rfl (lv_at hl 0 rfl) ?_
  refine lv_ldc2 (v := 9223372036854775807) hx hb hown (hts (.constantLong RX1 167 9223372036854775807) (by decide +kernel)) dX1_isBelowOne_1 ?_
  refine lv_land hx hb dX1_isBelowOne_4 ?_
  refine lv_ldc2 (v := 4607182418800017408) hx hb hown (hts (.constantLong RX1 237 4607182418800017408) (by decide +kernel)) dX1_isBelowOne_5 ?_
  refine W.lcmp hx hb dX1_isBelowOne_8 ?_
  refine lv_if_ge (tgt := 16) hx hb dX1_isBelowOne_9 (by decide) (fun c_1 => ?_) (fun c_1 => ?_)
  · refine lv_iconst (v := 0) hx hb dX1_isBelowOne_16 (by decide) ?_
    exact W.zret (v := (0 : Int32)) hx hb hr (by rfl) (fun t ht hW => ⟨congrArg (fun z => Outcome.returned (some (Value.int z))) (by unfold f_X1_isBelowOne; rw [if_pos c_1]), ht⟩) (fun _ h => nomatch h) dX1_isBelowOne_17
  · refine lv_iconst (v := 1) hx hb dX1_isBelowOne_12 (by decide) ?_
    refine lv_goto (tgt := 17) hx hb dX1_isBelowOne_13 (by decide) ?_
    exact W.zret (v := (1 : Int32)) hx hb hr (by rfl) (fun t ht hW => ⟨congrArg (fun z => Outcome.returned (some (Value.int z))) (by unfold f_X1_isBelowOne; rw [if_neg c_1]), ht⟩) (fun _ h => nomatch h) dX1_isBelowOne_17
def f_X1_isWhole (a0 : Int64) : Int32 := (if (f_X1_isBelowOne a0) = 0 then (if (lg_cmp (a0 &&& (f_X1_partMask a0)) (0 : Int64)) = 0 then (1 : Int32) else (0 : Int32)) else (if (lg_cmp (a0 &&& (9223372036854775807 : Int64)) (0 : Int64)) = 0 then (1 : Int32) else (0 : Int32)))
set_option maxHeartbeats 4000000 in
set_option maxRecDepth 100000 in
theorem c_X1_isWhole (l : Launch) (H0 : Heap) (a0 : Int64) : pu l yX1_isWhole wsX1_isWhole ({ frames := 1, cells := 0, slots := 0, locals := 22 }) [.long a0] (fun _ => True) H0 (some (.int (f_X1_isWhole a0))) := by
  refine Met.ofW (cc := cX1_isWhole) (maxL := 2) (ret := (some .boolean)) (by decide) rfl ?_
  intro p e s m args below meth c s₁ B hml hv
  obtain ⟨rfl, hH, -⟩ := hv
  have hx := B.exec
  have hb := B.bytes
  have hr := B.returns
  have hts := atoms_spec (ws := wsX1_isWhole) B.pre
  have hown : s.vm.findClass RX1 = some m.cls := findClass_of_methodNamed B.named
  have hlocks := B.notSynchronized
  subst hH
  have hl := lv_entry ([.long a0]) (n := 2) (Nat.le_of_ble_eq_true rfl)
  rw [lg_entry_eq]
  generalize (lg_sl ([.long a0]) ++ List.replicate (2 - (lg_sl ([.long a0])).length) Slot.unset).toArray = ls at hl ⊢
  have hl : lv_has ls 2 [(0, .long a0)] := hl
  refine lv_lload_n hx hb dX1_isWhole_0 rfl (lv_at hl 0 rfl) ?_
  refine pu_S (As := [.long a0]) (rest := []) ⟨hx, hb, hml, hown, hts⟩ (c_X1_isBelowOne l s.heap a0) puK_T trivial (va_cwS 1 hts gX1_isWhole_X1_isBelowOne rfl rfl rfl (by decide +kernel) ⟨Nat.le_of_ble_eq_true rfl, Nat.le_of_ble_eq_true rfl⟩) rfl hl.1 rfl (Nat.le_of_ble_eq_true rfl) dX1_isWhole_1 ⟨Nat.zero_le _, Nat.zero_le _⟩ ?_
  refine W.eq (g2 := F0 m 4 ls [.int (f_X1_isBelowOne a0)]) rfl ?_
  refine lv_if_eq (tgt := 23) hx hb dX1_isWhole_4 (by decide) (fun c_1 => ?_) (fun c_1 => ?_)
  · refine lv_lload_n hx hb dX1_isWhole_23 rfl (lv_at hl 0 rfl) ?_
    refine lv_lload_n hx hb dX1_isWhole_24 rfl (lv_at hl 0 rfl) ?_
    refine pu_S (As := [.long a0]) (rest := [.long a0]) ⟨hx, hb, hml, hown, hts⟩ (c_X1_partMask l s.heap a0) puK_T trivial (va_cwS 1 hts gX1_isWhole_X1_partMask rfl rfl rfl (by decide +kernel) ⟨Nat.le_of_ble_eq_true rfl, Nat.le_of_ble_eq_true rfl⟩) rfl hl.1 rfl (Nat.le_of_ble_eq_true rfl) dX1_isWhole_25 ⟨Nat.zero_le _, Nat.zero_le _⟩ ?_
    refine W.eq (g2 := F0 m 28 ls [.long (f_X1_partMask a0), .long a0]) rfl ?_
    refine lv_land hx hb dX1_isWhole_28 ?_
    refine lv_lconst (v := 0) hx hb dX1_isWhole_29 (by decide) ?_
    refine W.lcmp hx hb dX1_isWhole_30 ?_
    refine lv_if_ne (tgt := 38) hx hb dX1_isWhole_31 (by decide) (fun c_2 => ?_) (fun c_2 => ?_)
    · refine lv_iconst (v := 0) hx hb dX1_isWhole_38 (by decide) ?_
      exact W.zret (v := (0 : Int32)) hx hb hr (by rfl) (fun t ht hW => ⟨congrArg (fun z => Outcome.returned (some (Value.int z))) (by unfold f_X1_isWhole; rw [if_pos c_1, if_neg c_2]), ht⟩) (fun _ h => nomatch h) dX1_isWhole_39
    · refine lv_iconst (v := 1) hx hb dX1_isWhole_34 (by decide) ?_
      refine lv_goto (tgt := 39) hx hb dX1_isWhole_35 (by decide) ?_
      exact W.zret (v := (1 : Int32)) hx hb hr (by rfl) (fun t ht hW => ⟨congrArg (fun z => Outcome.returned (some (Value.int z))) (by unfold f_X1_isWhole; rw [if_pos c_1, if_pos c_2]), ht⟩) (fun _ h => nomatch h) dX1_isWhole_39
  · refine lv_lload_n hx hb dX1_isWhole_7 rfl (lv_at hl 0 rfl) ?_
    refine lv_ldc2 (v := 9223372036854775807) hx hb hown (hts (.constantLong RX1 167 9223372036854775807) (by decide +kernel)) dX1_isWhole_8 ?_
    refine lv_land hx hb dX1_isWhole_11 ?_
    refine lv_lconst (v := 0) hx hb dX1_isWhole_12 (by decide) ?_
    refine W.lcmp hx hb dX1_isWhole_13 ?_
    refine lv_if_ne (tgt := 21) hx hb dX1_isWhole_14 (by decide) (fun c_3 => ?_) (fun c_3 => ?_)
    · refine lv_iconst (v := 0) hx hb dX1_isWhole_21 (by decide) ?_
      exact W.zret (v := (0 : Int32)) hx hb hr (by rfl) (fun t ht hW => ⟨congrArg (fun z => Outcome.returned (some (Value.int z))) (by unfold f_X1_isWhole; rw [if_neg c_1, if_neg c_3]), ht⟩) (fun _ h => nomatch h) dX1_isWhole_22
    · refine lv_iconst (v := 1) hx hb dX1_isWhole_17 (by decide) ?_
      refine lv_goto (tgt := 22) hx hb dX1_isWhole_18 (by decide) ?_
      exact W.zret (v := (1 : Int32)) hx hb hr (by rfl) (fun t ht hW => ⟨congrArg (fun z => Outcome.returned (some (Value.int z))) (by unfold f_X1_isWhole; rw [if_neg c_1, if_pos c_3]), ht⟩) (fun _ h => nomatch h) dX1_isWhole_22
def f_X1_wholeToward (a0 : Int64) : Int64 := (if (f_X1_isBelowOne a0) = 0 then a0 &&& ((f_X1_partMask a0) ^^^ (-1 : Int64)) else a0 &&& (-9223372036854775808 : Int64))
set_option maxHeartbeats 4000000 in
set_option maxRecDepth 100000 in
theorem c_X1_wholeToward (l : Launch) (H0 : Heap) (a0 : Int64) : pu l yX1_wholeToward wsX1_wholeToward ({ frames := 1, cells := 0, slots := 0, locals := 22 }) [.long a0] (fun _ => True) H0 (some (.long (f_X1_wholeToward a0))) := by
  refine Met.ofW (cc := cX1_wholeToward) (maxL := 2) (ret := (some .long)) (by decide) rfl ?_
  intro p e s m args below meth c s₁ B hml hv
  obtain ⟨rfl, hH, -⟩ := hv
  have hx := B.exec
  have hb := B.bytes
  have hr := B.returns
  have hts := atoms_spec (ws := wsX1_wholeToward) B.pre
  have hown : s.vm.findClass RX1 = some m.cls := findClass_of_methodNamed B.named
  have hlocks := B.notSynchronized
  subst hH
  have hl := lv_entry ([.long a0]) (n := 2) (Nat.le_of_ble_eq_true rfl)
  rw [lg_entry_eq]
  generalize (lg_sl ([.long a0]) ++ List.replicate (2 - (lg_sl ([.long a0])).length) Slot.unset).toArray = ls at hl ⊢
  have hl : lv_has ls 2 [(0, .long a0)] := hl
  refine lv_lload_n hx hb dX1_wholeToward_0 rfl (lv_at hl 0 rfl) ?_
  refine pu_S (As := [.long a0]) (rest := []) ⟨hx, hb, hml, hown, hts⟩ (c_X1_isBelowOne l s.heap a0) puK_T trivial (va_cwS 1 hts gX1_wholeToward_X1_isBelowOne rfl rfl rfl (by decide +kernel) ⟨Nat.le_of_ble_eq_true rfl, Nat.le_of_ble_eq_true rfl⟩) rfl hl.1 rfl (Nat.le_of_ble_eq_true rfl) dX1_wholeToward_1 ⟨Nat.zero_le _, Nat.zero_le _⟩ ?_
  refine W.eq (g2 := F0 m 4 ls [.int (f_X1_isBelowOne a0)]) rfl ?_
  refine lv_if_eq (tgt := 13) hx hb dX1_wholeToward_4 (by decide) (fun c_1 => ?_) (fun c_1 => ?_)
  · refine lv_lload_n hx hb dX1_wholeToward_13 rfl (lv_at hl 0 rfl) ?_
    refine lv_lload_n hx hb dX1_wholeToward_14 rfl (lv_at hl 0 rfl) ?_
    refine pu_S (As := [.long a0]) (rest := [.long a0]) ⟨hx, hb, hml, hown, hts⟩ (c_X1_partMask l s.heap a0) puK_T trivial (va_cwS 1 hts gX1_wholeToward_X1_partMask rfl rfl rfl (by decide +kernel) ⟨Nat.le_of_ble_eq_true rfl, Nat.le_of_ble_eq_true rfl⟩) rfl hl.1 rfl (Nat.le_of_ble_eq_true rfl) dX1_wholeToward_15 ⟨Nat.zero_le _, Nat.zero_le _⟩ ?_
    refine W.eq (g2 := F0 m 18 ls [.long (f_X1_partMask a0), .long a0]) rfl ?_
    refine lv_ldc2 (v := (-1)) hx hb hown (hts (.constantLong RX1 233 (-1)) (by decide +kernel)) dX1_wholeToward_18 ?_
    refine lv_lxor hx hb dX1_wholeToward_21 ?_
    refine lv_land hx hb dX1_wholeToward_22 ?_
    exact W.lret (v := a0 &&& ((f_X1_partMask a0) ^^^ (-1 : Int64))) hx hb hr (fun t ht hW => ⟨congrArg (fun z => Outcome.returned (some (Value.long z))) (by unfold f_X1_wholeToward; rw [if_pos c_1]), ht⟩) (fun _ h => nomatch h) dX1_wholeToward_23
  · refine lv_lload_n hx hb dX1_wholeToward_7 rfl (lv_at hl 0 rfl) ?_
    refine lv_ldc2 (v := (-9223372036854775808)) hx hb hown (hts (.constantLong RX1 227 (-9223372036854775808)) (by decide +kernel)) dX1_wholeToward_8 ?_
    refine lv_land hx hb dX1_wholeToward_11 ?_
    exact W.lret (v := a0 &&& (-9223372036854775808 : Int64)) hx hb hr (fun t ht hW => ⟨congrArg (fun z => Outcome.returned (some (Value.long z))) (by unfold f_X1_wholeToward; rw [if_neg c_1]), ht⟩) (fun _ h => nomatch h) dX1_wholeToward_12
def f_X1_wholeAway (a0 : Int64) : Int64 := (if (f_X1_isWhole a0) = 0 then (if (f_X1_isBelowOne a0) = 0 then ((f_X1_wholeToward a0) + (f_X1_partMask a0)) + (1 : Int64) else (a0 &&& (-9223372036854775808 : Int64)) ||| (4607182418800017408 : Int64)) else a0)
set_option maxHeartbeats 4000000 in
set_option maxRecDepth 100000 in
theorem c_X1_wholeAway (l : Launch) (H0 : Heap) (a0 : Int64) : pu l yX1_wholeAway wsX1_wholeAway ({ frames := 2, cells := 0, slots := 0, locals := 43 }) [.long a0] (fun _ => True) H0 (some (.long (f_X1_wholeAway a0))) := by
  refine Met.ofW (cc := cX1_wholeAway) (maxL := 2) (ret := (some .long)) (by decide) rfl ?_
  intro p e s m args below meth c s₁ B hml hv
  obtain ⟨rfl, hH, -⟩ := hv
  have hx := B.exec
  have hb := B.bytes
  have hr := B.returns
  have hts := atoms_spec (ws := wsX1_wholeAway) B.pre
  have hown : s.vm.findClass RX1 = some m.cls := findClass_of_methodNamed B.named
  have hlocks := B.notSynchronized
  subst hH
  have hl := lv_entry ([.long a0]) (n := 2) (Nat.le_of_ble_eq_true rfl)
  rw [lg_entry_eq]
  generalize (lg_sl ([.long a0]) ++ List.replicate (2 - (lg_sl ([.long a0])).length) Slot.unset).toArray = ls at hl ⊢
  have hl : lv_has ls 2 [(0, .long a0)] := hl
  refine lv_lload_n hx hb dX1_wholeAway_0 rfl (lv_at hl 0 rfl) ?_
  refine pu_S (As := [.long a0]) (rest := []) ⟨hx, hb, hml, hown, hts⟩ (c_X1_isWhole l s.heap a0) puK_T trivial (va_cwS 1 hts gX1_wholeAway_X1_isWhole rfl rfl rfl (by decide +kernel) ⟨Nat.le_of_ble_eq_true rfl, Nat.le_of_ble_eq_true rfl⟩) rfl hl.1 rfl (Nat.le_of_ble_eq_true rfl) dX1_wholeAway_1 ⟨Nat.zero_le _, Nat.zero_le _⟩ ?_
  refine W.eq (g2 := F0 m 4 ls [.int (f_X1_isWhole a0)]) rfl ?_
  refine lv_if_eq (tgt := 9) hx hb dX1_wholeAway_4 (by decide) (fun c_1 => ?_) (fun c_1 => ?_)
  · refine lv_lload_n hx hb dX1_wholeAway_9 rfl (lv_at hl 0 rfl) ?_
    refine pu_S (As := [.long a0]) (rest := []) ⟨hx, hb, hml, hown, hts⟩ (c_X1_isBelowOne l s.heap a0) puK_T trivial (va_cwS 1 hts gX1_wholeAway_X1_isBelowOne rfl rfl rfl (by decide +kernel) ⟨Nat.le_of_ble_eq_true rfl, Nat.le_of_ble_eq_true rfl⟩) rfl hl.1 rfl (Nat.le_of_ble_eq_true rfl) dX1_wholeAway_10 ⟨Nat.zero_le _, Nat.zero_le _⟩ ?_
    refine W.eq (g2 := F0 m 13 ls [.int (f_X1_isBelowOne a0)]) rfl ?_
    refine lv_if_eq (tgt := 26) hx hb dX1_wholeAway_13 (by decide) (fun c_2 => ?_) (fun c_2 => ?_)
    · refine lv_lload_n hx hb dX1_wholeAway_26 rfl (lv_at hl 0 rfl) ?_
      refine pu_S (As := [.long a0]) (rest := []) ⟨hx, hb, hml, hown, hts⟩ (c_X1_wholeToward l s.heap a0) puK_T trivial (va_cwS 1 hts gX1_wholeAway_X1_wholeToward rfl rfl rfl (by decide +kernel) ⟨Nat.le_of_ble_eq_true rfl, Nat.le_of_ble_eq_true rfl⟩) rfl hl.1 rfl (Nat.le_of_ble_eq_true rfl) dX1_wholeAway_27 ⟨Nat.zero_le _, Nat.zero_le _⟩ ?_
      refine W.eq (g2 := F0 m 30 ls [.long (f_X1_wholeToward a0)]) rfl ?_
      refine lv_lload_n hx hb dX1_wholeAway_30 rfl (lv_at hl 0 rfl) ?_
      refine pu_S (As := [.long a0]) (rest := [.long (f_X1_wholeToward a0)]) ⟨hx, hb, hml, hown, hts⟩ (c_X1_partMask l s.heap a0) puK_T trivial (va_cwS 1 hts gX1_wholeAway_X1_partMask rfl rfl rfl (by decide +kernel) ⟨Nat.le_of_ble_eq_true rfl, Nat.le_of_ble_eq_true rfl⟩) rfl hl.1 rfl (Nat.le_of_ble_eq_true rfl) dX1_wholeAway_31 ⟨Nat.zero_le _, Nat.zero_le _⟩ ?_
      refine W.eq (g2 := F0 m 34 ls [.long (f_X1_partMask a0), .long (f_X1_wholeToward a0)]) rfl ?_
      refine lv_ladd hx hb dX1_wholeAway_34 ?_
      refine lv_lconst (v := 1) hx hb dX1_wholeAway_35 (by decide) ?_
      refine lv_ladd hx hb dX1_wholeAway_36 ?_
      exact W.lret (v := ((f_X1_wholeToward a0) + (f_X1_partMask a0)) + (1 : Int64)) hx hb hr (fun t ht hW => ⟨congrArg (fun z => Outcome.returned (some (Value.long z))) (by unfold f_X1_wholeAway; rw [if_pos c_1, if_pos c_2]), ht⟩) (fun _ h => nomatch h) dX1_wholeAway_37
    · refine lv_lload_n hx hb dX1_wholeAway_16 rfl (lv_at hl 0 rfl) ?_
      refine lv_ldc2 (v := (-9223372036854775808)) hx hb hown (hts (.constantLong RX1 227 (-9223372036854775808)) (by decide +kernel)) dX1_wholeAway_17 ?_
      refine lv_land hx hb dX1_wholeAway_20 ?_
      refine lv_ldc2 (v := 4607182418800017408) hx hb hown (hts (.constantLong RX1 237 4607182418800017408) (by decide +kernel)) dX1_wholeAway_21 ?_
      refine lv_lor hx hb dX1_wholeAway_24 ?_
      exact W.lret (v := (a0 &&& (-9223372036854775808 : Int64)) ||| (4607182418800017408 : Int64)) hx hb hr (fun t ht hW => ⟨congrArg (fun z => Outcome.returned (some (Value.long z))) (by unfold f_X1_wholeAway; rw [if_pos c_1, if_neg c_2]), ht⟩) (fun _ h => nomatch h) dX1_wholeAway_25
  · refine lv_lload_n hx hb dX1_wholeAway_7 rfl (lv_at hl 0 rfl) ?_
    exact W.lret (v := a0) hx hb hr (fun t ht hW => ⟨congrArg (fun z => Outcome.returned (some (Value.long z))) (by unfold f_X1_wholeAway; rw [if_neg c_1]), ht⟩) (fun _ h => nomatch h) dX1_wholeAway_8
def f_X1_roundsAway (a0 : Int64) (a1 : Int64) : Int32 := (if (lg_cmp (a0 &&& (a1 + (1 : Int64))) (0 : Int64)) = 0 then (if 0 < (lg_cmp (a0 &&& a1) (((a1.toUInt64 >>> ((1 : Int32).toInt64.toUInt64 &&& Int64.toUInt64 63)).toInt64) + (1 : Int64))) then (1 : Int32) else (if (lg_cmp (a0 &&& a1) (((a1.toUInt64 >>> ((1 : Int32).toInt64.toUInt64 &&& Int64.toUInt64 63)).toInt64) + (1 : Int64))) = 0 then (0 : Int32) else (0 : Int32))) else (if 0 < (lg_cmp (a0 &&& a1) (((a1.toUInt64 >>> ((1 : Int32).toInt64.toUInt64 &&& Int64.toUInt64 63)).toInt64) + (1 : Int64))) then (1 : Int32) else (if (lg_cmp (a0 &&& a1) (((a1.toUInt64 >>> ((1 : Int32).toInt64.toUInt64 &&& Int64.toUInt64 63)).toInt64) + (1 : Int64))) = 0 then (1 : Int32) else (0 : Int32))))
set_option maxHeartbeats 4000000 in
set_option maxRecDepth 100000 in
theorem c_X1_roundsAway (l : Launch) (H0 : Heap) (a0 : Int64) (a1 : Int64) : pu l yX1_roundsAway wsX1_roundsAway ({ frames := 0, cells := 0, slots := 0, locals := 0 }) [.long a0, .long a1] (fun _ => True) H0 (some (.int (f_X1_roundsAway a0 a1))) := by
  refine Met.ofW (cc := cX1_roundsAway) (maxL := 9) (ret := (some .boolean)) (by decide) rfl ?_
  intro p e s m args below meth c s₁ B hml hv
  obtain ⟨rfl, hH, -⟩ := hv
  have hx := B.exec
  have hb := B.bytes
  have hr := B.returns
  have hts := atoms_spec (ws := wsX1_roundsAway) B.pre
  have hown : s.vm.findClass RX1 = some m.cls := findClass_of_methodNamed B.named
  have hlocks := B.notSynchronized
  subst hH
  have hl := lv_entry ([.long a0, .long a1]) (n := 9) (Nat.le_of_ble_eq_true rfl)
  rw [lg_entry_eq]
  generalize (lg_sl ([.long a0, .long a1]) ++ List.replicate (9 - (lg_sl ([.long a0, .long a1])).length) Slot.unset).toArray = ls at hl ⊢
  have hl : lv_has ls 9 [(0, .long a0), (2, .long a1)] := hl
  refine lv_lload_n hx hb dX1_roundsAway_0 rfl (lv_at hl 0 rfl) ?_
  refine lv_lload_n hx hb dX1_roundsAway_1 rfl (lv_at hl 1 rfl) ?_
  refine lv_land hx hb dX1_roundsAway_2 ?_
  refine lv_lstore (lv' := [(4, .long (a0 &&& a1)), (0, .long a0), (2, .long a1)]) hx hb dX1_roundsAway_3 hl (by decide) rfl (fun ls hl => ?_)
  refine lv_lload_n hx hb dX1_roundsAway_5 rfl (lv_at hl 2 rfl) ?_
  refine lv_iconst (v := 1) hx hb dX1_roundsAway_6 (by decide) ?_
  refine lv_lushr hx hb dX1_roundsAway_7 rfl ?_
  refine lv_lconst (v := 1) hx hb dX1_roundsAway_8 (by decide) ?_
  refine lv_ladd hx hb dX1_roundsAway_9 ?_
  refine lv_lstore (lv' := [(6, .long (((a1.toUInt64 >>> ((1 : Int32).toInt64.toUInt64 &&& Int64.toUInt64 63)).toInt64) + (1 : Int64))), (4, .long (a0 &&& a1)), (0, .long a0), (2, .long a1)]) hx hb dX1_roundsAway_10 hl (by decide) rfl (fun ls hl => ?_)
  refine lv_lload_n hx hb dX1_roundsAway_12 rfl (lv_at hl 2 rfl) ?_
  refine lv_lload_n hx hb dX1_roundsAway_13 rfl (lv_at hl 3 rfl) ?_
  refine lv_lconst (v := 1) hx hb dX1_roundsAway_14 (by decide) ?_
  refine lv_ladd hx hb dX1_roundsAway_15 ?_
  refine lv_land hx hb dX1_roundsAway_16 ?_
  refine lv_lconst (v := 0) hx hb dX1_roundsAway_17 (by decide) ?_
  refine W.lcmp hx hb dX1_roundsAway_18 ?_
  refine lv_if_eq (tgt := 26) hx hb dX1_roundsAway_19 (by decide) (fun c_1 => ?_) (fun c_1 => ?_)
  · refine lv_iconst (v := 0) hx hb dX1_roundsAway_26 (by decide) ?_
    refine lv_istore (lv' := [(8, .int (0 : Int32)), (6, .long (((a1.toUInt64 >>> ((1 : Int32).toInt64.toUInt64 &&& Int64.toUInt64 63)).toInt64) + (1 : Int64))), (4, .long (a0 &&& a1)), (0, .long a0), (2, .long a1)]) hx hb dX1_roundsAway_27 hl (by decide) rfl (fun ls hl => ?_)
    refine lv_lload hx hb dX1_roundsAway_29 (lv_at hl 2 rfl) ?_
    refine lv_lload hx hb dX1_roundsAway_31 (lv_at hl 1 rfl) ?_
    refine W.lcmp hx hb dX1_roundsAway_33 ?_
    refine lv_if_gt (tgt := 50) hx hb dX1_roundsAway_34 (by decide) (fun c_2 => ?_) (fun c_2 => ?_)
    · refine lv_iconst (v := 1) hx hb dX1_roundsAway_50 (by decide) ?_
      refine lv_goto (tgt := 55) hx hb dX1_roundsAway_51 (by decide) ?_
      exact W.zret (v := (1 : Int32)) hx hb hr (by rfl) (fun t ht hW => ⟨congrArg (fun z => Outcome.returned (some (Value.int z))) (by unfold f_X1_roundsAway; rw [if_pos c_1, if_pos c_2]), ht⟩) (fun _ h => nomatch h) dX1_roundsAway_55
    · refine lv_lload hx hb dX1_roundsAway_37 (lv_at hl 2 rfl) ?_
      refine lv_lload hx hb dX1_roundsAway_39 (lv_at hl 1 rfl) ?_
      refine W.lcmp hx hb dX1_roundsAway_41 ?_
      refine lv_if_ne (tgt := 54) hx hb dX1_roundsAway_42 (by decide) (fun c_3 => ?_) (fun c_3 => ?_)
      · refine lv_iconst (v := 0) hx hb dX1_roundsAway_54 (by decide) ?_
        exact W.zret (v := (0 : Int32)) hx hb hr (by rfl) (fun t ht hW => ⟨congrArg (fun z => Outcome.returned (some (Value.int z))) (by unfold f_X1_roundsAway; rw [if_pos c_1, if_neg c_2, if_neg c_3]), ht⟩) (fun _ h => nomatch h) dX1_roundsAway_55
      · refine lv_iload hx hb dX1_roundsAway_45 (lv_at hl 0 rfl) ?_
        refine lv_if_eq (tgt := 54) hx hb dX1_roundsAway_47 (by decide) (fun z_9 => ?_) (fun z_9 => absurd z_9 (by decide))
        refine lv_iconst (v := 0) hx hb dX1_roundsAway_54 (by decide) ?_
        exact W.zret (v := (0 : Int32)) hx hb hr (by rfl) (fun t ht hW => ⟨congrArg (fun z => Outcome.returned (some (Value.int z))) (by unfold f_X1_roundsAway; rw [if_pos c_1, if_neg c_2, if_pos c_3]), ht⟩) (fun _ h => nomatch h) dX1_roundsAway_55
  · refine lv_iconst (v := 1) hx hb dX1_roundsAway_22 (by decide) ?_
    refine lv_goto (tgt := 27) hx hb dX1_roundsAway_23 (by decide) ?_
    refine lv_istore (lv' := [(8, .int (1 : Int32)), (6, .long (((a1.toUInt64 >>> ((1 : Int32).toInt64.toUInt64 &&& Int64.toUInt64 63)).toInt64) + (1 : Int64))), (4, .long (a0 &&& a1)), (0, .long a0), (2, .long a1)]) hx hb dX1_roundsAway_27 hl (by decide) rfl (fun ls hl => ?_)
    refine lv_lload hx hb dX1_roundsAway_29 (lv_at hl 2 rfl) ?_
    refine lv_lload hx hb dX1_roundsAway_31 (lv_at hl 1 rfl) ?_
    refine W.lcmp hx hb dX1_roundsAway_33 ?_
    refine lv_if_gt (tgt := 50) hx hb dX1_roundsAway_34 (by decide) (fun c_4 => ?_) (fun c_4 => ?_)
    · refine lv_iconst (v := 1) hx hb dX1_roundsAway_50 (by decide) ?_
      refine lv_goto (tgt := 55) hx hb dX1_roundsAway_51 (by decide) ?_
      exact W.zret (v := (1 : Int32)) hx hb hr (by rfl) (fun t ht hW => ⟨congrArg (fun z => Outcome.returned (some (Value.int z))) (by unfold f_X1_roundsAway; rw [if_neg c_1, if_pos c_4]), ht⟩) (fun _ h => nomatch h) dX1_roundsAway_55
    · refine lv_lload hx hb dX1_roundsAway_37 (lv_at hl 2 rfl) ?_
      refine lv_lload hx hb dX1_roundsAway_39 (lv_at hl 1 rfl) ?_
      refine W.lcmp hx hb dX1_roundsAway_41 ?_
      refine lv_if_ne (tgt := 54) hx hb dX1_roundsAway_42 (by decide) (fun c_5 => ?_) (fun c_5 => ?_)
      · refine lv_iconst (v := 0) hx hb dX1_roundsAway_54 (by decide) ?_
        exact W.zret (v := (0 : Int32)) hx hb hr (by rfl) (fun t ht hW => ⟨congrArg (fun z => Outcome.returned (some (Value.int z))) (by unfold f_X1_roundsAway; rw [if_neg c_1, if_neg c_4, if_neg c_5]), ht⟩) (fun _ h => nomatch h) dX1_roundsAway_55
      · refine lv_iload hx hb dX1_roundsAway_45 (lv_at hl 0 rfl) ?_
        refine lv_if_eq (tgt := 54) hx hb dX1_roundsAway_47 (by decide) (fun z_9 => absurd z_9 (by decide)) (fun z_9 => ?_)
        refine lv_iconst (v := 1) hx hb dX1_roundsAway_50 (by decide) ?_
        refine lv_goto (tgt := 55) hx hb dX1_roundsAway_51 (by decide) ?_
        exact W.zret (v := (1 : Int32)) hx hb hr (by rfl) (fun t ht hW => ⟨congrArg (fun z => Outcome.returned (some (Value.int z))) (by unfold f_X1_roundsAway; rw [if_neg c_1, if_neg c_4, if_pos c_5]), ht⟩) (fun _ h => nomatch h) dX1_roundsAway_55
def f_X1_wholeNearest (a0 : Int64) : Int64 := (if (f_X1_isBelowOne a0) = 0 then (if (f_X1_roundsAway ((a0 &&& ((4503599627370496 : Int64) - (1 : Int64))) ||| (4503599627370496 : Int64)) (f_X1_partMask a0)) = 0 then f_X1_wholeToward a0 else f_X1_wholeAway a0) else (if (lg_cmp (a0 &&& (9223372036854775807 : Int64)) (4602678819172646912 : Int64)) ≤ 0 then f_X1_wholeToward a0 else f_X1_wholeAway a0))
set_option maxHeartbeats 4000000 in
set_option maxRecDepth 100000 in
theorem c_X1_wholeNearest (l : Launch) (H0 : Heap) (a0 : Int64) : pu l yX1_wholeNearest wsX1_wholeNearest ({ frames := 3, cells := 0, slots := 0, locals := 64 }) [.long a0] (fun _ => True) H0 (some (.long (f_X1_wholeNearest a0))) := by
  refine Met.ofW (cc := cX1_wholeNearest) (maxL := 6) (ret := (some .long)) (by decide) rfl ?_
  intro p e s m args below meth c s₁ B hml hv
  obtain ⟨rfl, hH, -⟩ := hv
  have hx := B.exec
  have hb := B.bytes
  have hr := B.returns
  have hts := atoms_spec (ws := wsX1_wholeNearest) B.pre
  have hown : s.vm.findClass RX1 = some m.cls := findClass_of_methodNamed B.named
  have hlocks := B.notSynchronized
  subst hH
  have hl := lv_entry ([.long a0]) (n := 6) (Nat.le_of_ble_eq_true rfl)
  rw [lg_entry_eq]
  generalize (lg_sl ([.long a0]) ++ List.replicate (6 - (lg_sl ([.long a0])).length) Slot.unset).toArray = ls at hl ⊢
  have hl : lv_has ls 6 [(0, .long a0)] := hl
  refine lv_lload_n hx hb dX1_wholeNearest_0 rfl (lv_at hl 0 rfl) ?_
  refine pu_S (As := [.long a0]) (rest := []) ⟨hx, hb, hml, hown, hts⟩ (c_X1_isBelowOne l s.heap a0) puK_T trivial (va_cwS 1 hts gX1_wholeNearest_X1_isBelowOne rfl rfl rfl (by decide +kernel) ⟨Nat.le_of_ble_eq_true rfl, Nat.le_of_ble_eq_true rfl⟩) rfl hl.1 rfl (Nat.le_of_ble_eq_true rfl) dX1_wholeNearest_1 ⟨Nat.zero_le _, Nat.zero_le _⟩ ?_
  refine W.eq (g2 := F0 m 4 ls [.int (f_X1_isBelowOne a0)]) rfl ?_
  refine lv_if_eq (tgt := 31) hx hb dX1_wholeNearest_4 (by decide) (fun c_1 => ?_) (fun c_1 => ?_)
  · refine lv_ldc2 (v := 4503599627370496) hx hb hown (hts (.constantLong RX1 251 4503599627370496) (by decide +kernel)) dX1_wholeNearest_31 ?_
    refine lv_lstore_n (lv' := [(2, .long (4503599627370496 : Int64)), (0, .long a0)]) hx hb dX1_wholeNearest_34 rfl hl (by decide) rfl (fun ls hl => ?_)
    refine lv_lload_n hx hb dX1_wholeNearest_35 rfl (lv_at hl 1 rfl) ?_
    refine lv_lload_n hx hb dX1_wholeNearest_36 rfl (lv_at hl 0 rfl) ?_
    refine lv_lconst (v := 1) hx hb dX1_wholeNearest_37 (by decide) ?_
    refine lv_lsub hx hb dX1_wholeNearest_38 ?_
    refine lv_land hx hb dX1_wholeNearest_39 ?_
    refine lv_lload_n hx hb dX1_wholeNearest_40 rfl (lv_at hl 0 rfl) ?_
    refine lv_lor hx hb dX1_wholeNearest_41 ?_
    refine lv_lstore (lv' := [(4, .long ((a0 &&& ((4503599627370496 : Int64) - (1 : Int64))) ||| (4503599627370496 : Int64))), (2, .long (4503599627370496 : Int64)), (0, .long a0)]) hx hb dX1_wholeNearest_42 hl (by decide) rfl (fun ls hl => ?_)
    refine lv_lload hx hb dX1_wholeNearest_44 (lv_at hl 0 rfl) ?_
    refine lv_lload_n hx hb dX1_wholeNearest_46 rfl (lv_at hl 2 rfl) ?_
    refine pu_S (As := [.long a0]) (rest := [.long ((a0 &&& ((4503599627370496 : Int64) - (1 : Int64))) ||| (4503599627370496 : Int64))]) ⟨hx, hb, hml, hown, hts⟩ (c_X1_partMask l s.heap a0) puK_T trivial (va_cwS 1 hts gX1_wholeNearest_X1_partMask rfl rfl rfl (by decide +kernel) ⟨Nat.le_of_ble_eq_true rfl, Nat.le_of_ble_eq_true rfl⟩) rfl hl.1 rfl (Nat.le_of_ble_eq_true rfl) dX1_wholeNearest_47 ⟨Nat.zero_le _, Nat.zero_le _⟩ ?_
    refine W.eq (g2 := F0 m 50 ls [.long (f_X1_partMask a0), .long ((a0 &&& ((4503599627370496 : Int64) - (1 : Int64))) ||| (4503599627370496 : Int64))]) rfl ?_
    refine pu_S (As := [.long ((a0 &&& ((4503599627370496 : Int64) - (1 : Int64))) ||| (4503599627370496 : Int64)), .long (f_X1_partMask a0)]) (rest := []) ⟨hx, hb, hml, hown, hts⟩ (c_X1_roundsAway l s.heap ((a0 &&& ((4503599627370496 : Int64) - (1 : Int64))) ||| (4503599627370496 : Int64)) (f_X1_partMask a0)) puK_T trivial (va_cwS 2 hts gX1_wholeNearest_X1_roundsAway rfl rfl rfl (by decide +kernel) ⟨Nat.le_of_ble_eq_true rfl, Nat.le_of_ble_eq_true rfl⟩) rfl hl.1 rfl (Nat.le_of_ble_eq_true rfl) dX1_wholeNearest_50 ⟨Nat.zero_le _, Nat.zero_le _⟩ ?_
    refine W.eq (g2 := F0 m 53 ls [.int (f_X1_roundsAway ((a0 &&& ((4503599627370496 : Int64) - (1 : Int64))) ||| (4503599627370496 : Int64)) (f_X1_partMask a0))]) rfl ?_
    refine lv_if_eq (tgt := 63) hx hb dX1_wholeNearest_53 (by decide) (fun c_2 => ?_) (fun c_2 => ?_)
    · refine lv_lload_n hx hb dX1_wholeNearest_63 rfl (lv_at hl 2 rfl) ?_
      refine pu_S (As := [.long a0]) (rest := []) ⟨hx, hb, hml, hown, hts⟩ (c_X1_wholeToward l s.heap a0) puK_T trivial (va_cwS 1 hts gX1_wholeNearest_X1_wholeToward rfl rfl rfl (by decide +kernel) ⟨Nat.le_of_ble_eq_true rfl, Nat.le_of_ble_eq_true rfl⟩) rfl hl.1 rfl (Nat.le_of_ble_eq_true rfl) dX1_wholeNearest_64 ⟨Nat.zero_le _, Nat.zero_le _⟩ ?_
      refine W.eq (g2 := F0 m 67 ls [.long (f_X1_wholeToward a0)]) rfl ?_
      exact W.lret (v := f_X1_wholeToward a0) hx hb hr (fun t ht hW => ⟨congrArg (fun z => Outcome.returned (some (Value.long z))) (by unfold f_X1_wholeNearest; rw [if_pos c_1, if_pos c_2]), ht⟩) (fun _ h => nomatch h) dX1_wholeNearest_67
    · refine lv_lload_n hx hb dX1_wholeNearest_56 rfl (lv_at hl 2 rfl) ?_
      refine pu_S (As := [.long a0]) (rest := []) ⟨hx, hb, hml, hown, hts⟩ (c_X1_wholeAway l s.heap a0) puK_T trivial (va_cwS 1 hts gX1_wholeNearest_X1_wholeAway rfl rfl rfl (by decide +kernel) ⟨Nat.le_of_ble_eq_true rfl, Nat.le_of_ble_eq_true rfl⟩) rfl hl.1 rfl (Nat.le_of_ble_eq_true rfl) dX1_wholeNearest_57 ⟨Nat.zero_le _, Nat.zero_le _⟩ ?_
      refine W.eq (g2 := F0 m 60 ls [.long (f_X1_wholeAway a0)]) rfl ?_
      refine lv_goto (tgt := 67) hx hb dX1_wholeNearest_60 (by decide) ?_
      exact W.lret (v := f_X1_wholeAway a0) hx hb hr (fun t ht hW => ⟨congrArg (fun z => Outcome.returned (some (Value.long z))) (by unfold f_X1_wholeNearest; rw [if_pos c_1, if_neg c_2]), ht⟩) (fun _ h => nomatch h) dX1_wholeNearest_67
  · refine lv_lload_n hx hb dX1_wholeNearest_7 rfl (lv_at hl 0 rfl) ?_
    refine lv_ldc2 (v := 9223372036854775807) hx hb hown (hts (.constantLong RX1 167 9223372036854775807) (by decide +kernel)) dX1_wholeNearest_8 ?_
    refine lv_land hx hb dX1_wholeNearest_11 ?_
    refine lv_ldc2 (v := 4602678819172646912) hx hb hown (hts (.constantLong RX1 249 4602678819172646912) (by decide +kernel)) dX1_wholeNearest_12 ?_
    refine W.lcmp hx hb dX1_wholeNearest_15 ?_
    refine lv_if_le (tgt := 26) hx hb dX1_wholeNearest_16 (by decide) (fun c_3 => ?_) (fun c_3 => ?_)
    · refine lv_lload_n hx hb dX1_wholeNearest_26 rfl (lv_at hl 0 rfl) ?_
      refine pu_S (As := [.long a0]) (rest := []) ⟨hx, hb, hml, hown, hts⟩ (c_X1_wholeToward l s.heap a0) puK_T trivial (va_cwS 1 hts gX1_wholeNearest_X1_wholeToward rfl rfl rfl (by decide +kernel) ⟨Nat.le_of_ble_eq_true rfl, Nat.le_of_ble_eq_true rfl⟩) rfl hl.1 rfl (Nat.le_of_ble_eq_true rfl) dX1_wholeNearest_27 ⟨Nat.zero_le _, Nat.zero_le _⟩ ?_
      refine W.eq (g2 := F0 m 30 ls [.long (f_X1_wholeToward a0)]) rfl ?_
      exact W.lret (v := f_X1_wholeToward a0) hx hb hr (fun t ht hW => ⟨congrArg (fun z => Outcome.returned (some (Value.long z))) (by unfold f_X1_wholeNearest; rw [if_neg c_1, if_pos c_3]), ht⟩) (fun _ h => nomatch h) dX1_wholeNearest_30
    · refine lv_lload_n hx hb dX1_wholeNearest_19 rfl (lv_at hl 0 rfl) ?_
      refine pu_S (As := [.long a0]) (rest := []) ⟨hx, hb, hml, hown, hts⟩ (c_X1_wholeAway l s.heap a0) puK_T trivial (va_cwS 1 hts gX1_wholeNearest_X1_wholeAway rfl rfl rfl (by decide +kernel) ⟨Nat.le_of_ble_eq_true rfl, Nat.le_of_ble_eq_true rfl⟩) rfl hl.1 rfl (Nat.le_of_ble_eq_true rfl) dX1_wholeNearest_20 ⟨Nat.zero_le _, Nat.zero_le _⟩ ?_
      refine W.eq (g2 := F0 m 23 ls [.long (f_X1_wholeAway a0)]) rfl ?_
      refine lv_goto (tgt := 30) hx hb dX1_wholeNearest_23 (by decide) ?_
      exact W.lret (v := f_X1_wholeAway a0) hx hb hr (fun t ht hW => ⟨congrArg (fun z => Outcome.returned (some (Value.long z))) (by unfold f_X1_wholeNearest; rw [if_neg c_1, if_neg c_3]), ht⟩) (fun _ h => nomatch h) dX1_wholeNearest_30
def f_X1_afterStep (a0 : Int32) (a1 : Int64) (a2 : Int64) (a3 : Int32) : Int64 := (if a0 = 0 then f_X1_sizeOf a1 a3 else (if a0 = 1 then f_X1_higher a1 a2 a3 else (if a0 = 2 then f_X1_lower a1 a2 a3 else (if a0 = 3 then f_X1_shown a1 a3 else (if a0 = 4 then (if 0 ≤ (lg_cmp a2 (0 : Int64)) then f_X1_withSign (f_X1_sizeOf a1 a3) (0 : Int32) a3 else f_X1_withSign (f_X1_sizeOf a1 a3) (1 : Int32) a3) else (if a0 = 5 then (if 0 ≤ (lg_cmp a1 (0 : Int64)) then f_X1_wholeToward a1 else f_X1_wholeAway a1) else (if a0 = 6 then (if 0 ≤ (lg_cmp a1 (0 : Int64)) then f_X1_wholeAway a1 else f_X1_wholeToward a1) else (if a0 = 7 then f_X1_wholeNearest a1 else a1))))))))
set_option maxHeartbeats 4000000 in
set_option maxRecDepth 100000 in
theorem c_X1_afterStep (l : Launch) (H0 : Heap) (a0 : Int32) (a1 : Int64) (a2 : Int64) (a3 : Int32) : pu l yX1_afterStep wsX1_afterStep ({ frames := 4, cells := 0, slots := 0, locals := 90 }) [.int a0, .long a1, .long a2, .int a3] (fun _ => True) H0 (some (.long (f_X1_afterStep a0 a1 a2 a3))) := by
  refine Met.ofW (cc := cX1_afterStep) (maxL := 6) (ret := (some .long)) (by decide) rfl ?_
  intro p e s m args below meth c s₁ B hml hv
  obtain ⟨rfl, hH, -⟩ := hv
  have hx := B.exec
  have hb := B.bytes
  have hr := B.returns
  have hts := atoms_spec (ws := wsX1_afterStep) B.pre
  have hown : s.vm.findClass RX1 = some m.cls := findClass_of_methodNamed B.named
  have hlocks := B.notSynchronized
  subst hH
  have hl := lv_entry ([.int a0, .long a1, .long a2, .int a3]) (n := 6) (Nat.le_of_ble_eq_true rfl)
  rw [lg_entry_eq]
  generalize (lg_sl ([.int a0, .long a1, .long a2, .int a3]) ++ List.replicate (6 - (lg_sl ([.int a0, .long a1, .long a2, .int a3])).length) Slot.unset).toArray = ls at hl ⊢
  have hl : lv_has ls 6 [(0, .int a0), (1, .long a1), (3, .long a2), (5, .int a3)] := hl
  refine lv_iload_n hx hb dX1_afterStep_0 rfl (lv_at hl 0 rfl) ?_
  by_cases c_1 : a0 = 0
  · refine lv_tableIn (off := 47) (tgt := 48) hx hb dX1_afterStep_1 (by rw [c_1]; decide) (by rw [c_1]; decide) (by rw [c_1]; decide) (by decide) ?_
    refine lv_lload_n hx hb dX1_afterStep_48 rfl (lv_at hl 1 rfl) ?_
    refine lv_iload hx hb dX1_afterStep_49 (lv_at hl 3 rfl) ?_
    refine pu_S (As := [.long a1, .int a3]) (rest := []) ⟨hx, hb, hml, hown, hts⟩ (c_X1_sizeOf l s.heap a1 a3) puK_T trivial (va_cwS 2 hts gX1_afterStep_X1_sizeOf rfl rfl rfl (by decide +kernel) ⟨Nat.le_of_ble_eq_true rfl, Nat.le_of_ble_eq_true rfl⟩) rfl hl.1 rfl (Nat.le_of_ble_eq_true rfl) dX1_afterStep_51 ⟨Nat.zero_le _, Nat.zero_le _⟩ ?_
    refine W.eq (g2 := F0 m 54 ls [.long (f_X1_sizeOf a1 a3)]) rfl ?_
    exact W.lret (v := f_X1_sizeOf a1 a3) hx hb hr (fun t ht hW => ⟨congrArg (fun z => Outcome.returned (some (Value.long z))) (by unfold f_X1_afterStep; rw [if_pos c_1]), ht⟩) (fun _ h => nomatch h) dX1_afterStep_54
  by_cases c_2 : a0 = 1
  · refine lv_tableIn (off := 54) (tgt := 55) hx hb dX1_afterStep_1 (by rw [c_2]; decide) (by rw [c_2]; decide) (by rw [c_2]; decide) (by decide) ?_
    refine lv_lload_n hx hb dX1_afterStep_55 rfl (lv_at hl 1 rfl) ?_
    refine lv_lload_n hx hb dX1_afterStep_56 rfl (lv_at hl 2 rfl) ?_
    refine lv_iload hx hb dX1_afterStep_57 (lv_at hl 3 rfl) ?_
    refine pu_S (As := [.long a1, .long a2, .int a3]) (rest := []) ⟨hx, hb, hml, hown, hts⟩ (c_X1_higher l s.heap a1 a2 a3) puK_T trivial (va_cwS 3 hts gX1_afterStep_X1_higher rfl rfl rfl (by decide +kernel) ⟨Nat.le_of_ble_eq_true rfl, Nat.le_of_ble_eq_true rfl⟩) rfl hl.1 rfl (Nat.le_of_ble_eq_true rfl) dX1_afterStep_59 ⟨Nat.zero_le _, Nat.zero_le _⟩ ?_
    refine W.eq (g2 := F0 m 62 ls [.long (f_X1_higher a1 a2 a3)]) rfl ?_
    exact W.lret (v := f_X1_higher a1 a2 a3) hx hb hr (fun t ht hW => ⟨congrArg (fun z => Outcome.returned (some (Value.long z))) (by unfold f_X1_afterStep; rw [if_neg c_1, if_pos c_2]), ht⟩) (fun _ h => nomatch h) dX1_afterStep_62
  by_cases c_3 : a0 = 2
  · refine lv_tableIn (off := 62) (tgt := 63) hx hb dX1_afterStep_1 (by rw [c_3]; decide) (by rw [c_3]; decide) (by rw [c_3]; decide) (by decide) ?_
    refine lv_lload_n hx hb dX1_afterStep_63 rfl (lv_at hl 1 rfl) ?_
    refine lv_lload_n hx hb dX1_afterStep_64 rfl (lv_at hl 2 rfl) ?_
    refine lv_iload hx hb dX1_afterStep_65 (lv_at hl 3 rfl) ?_
    refine pu_S (As := [.long a1, .long a2, .int a3]) (rest := []) ⟨hx, hb, hml, hown, hts⟩ (c_X1_lower l s.heap a1 a2 a3) puK_T trivial (va_cwS 3 hts gX1_afterStep_X1_lower rfl rfl rfl (by decide +kernel) ⟨Nat.le_of_ble_eq_true rfl, Nat.le_of_ble_eq_true rfl⟩) rfl hl.1 rfl (Nat.le_of_ble_eq_true rfl) dX1_afterStep_67 ⟨Nat.zero_le _, Nat.zero_le _⟩ ?_
    refine W.eq (g2 := F0 m 70 ls [.long (f_X1_lower a1 a2 a3)]) rfl ?_
    exact W.lret (v := f_X1_lower a1 a2 a3) hx hb hr (fun t ht hW => ⟨congrArg (fun z => Outcome.returned (some (Value.long z))) (by unfold f_X1_afterStep; rw [if_neg c_1, if_neg c_2, if_pos c_3]), ht⟩) (fun _ h => nomatch h) dX1_afterStep_70
  by_cases c_4 : a0 = 3
  · refine lv_tableIn (off := 70) (tgt := 71) hx hb dX1_afterStep_1 (by rw [c_4]; decide) (by rw [c_4]; decide) (by rw [c_4]; decide) (by decide) ?_
    refine lv_lload_n hx hb dX1_afterStep_71 rfl (lv_at hl 1 rfl) ?_
    refine lv_iload hx hb dX1_afterStep_72 (lv_at hl 3 rfl) ?_
    refine pu_S (As := [.long a1, .int a3]) (rest := []) ⟨hx, hb, hml, hown, hts⟩ (c_X1_shown l s.heap a1 a3) puK_T trivial (va_cwS 2 hts gX1_afterStep_X1_shown rfl rfl rfl (by decide +kernel) ⟨Nat.le_of_ble_eq_true rfl, Nat.le_of_ble_eq_true rfl⟩) rfl hl.1 rfl (Nat.le_of_ble_eq_true rfl) dX1_afterStep_74 ⟨Nat.zero_le _, Nat.zero_le _⟩ ?_
    refine W.eq (g2 := F0 m 77 ls [.long (f_X1_shown a1 a3)]) rfl ?_
    exact W.lret (v := f_X1_shown a1 a3) hx hb hr (fun t ht hW => ⟨congrArg (fun z => Outcome.returned (some (Value.long z))) (by unfold f_X1_afterStep; rw [if_neg c_1, if_neg c_2, if_neg c_3, if_pos c_4]), ht⟩) (fun _ h => nomatch h) dX1_afterStep_77
  by_cases c_5 : a0 = 4
  · refine lv_tableIn (off := 77) (tgt := 78) hx hb dX1_afterStep_1 (by rw [c_5]; decide) (by rw [c_5]; decide) (by rw [c_5]; decide) (by decide) ?_
    refine lv_lload_n hx hb dX1_afterStep_78 rfl (lv_at hl 1 rfl) ?_
    refine lv_iload hx hb dX1_afterStep_79 (lv_at hl 3 rfl) ?_
    refine pu_S (As := [.long a1, .int a3]) (rest := []) ⟨hx, hb, hml, hown, hts⟩ (c_X1_sizeOf l s.heap a1 a3) puK_T trivial (va_cwS 2 hts gX1_afterStep_X1_sizeOf rfl rfl rfl (by decide +kernel) ⟨Nat.le_of_ble_eq_true rfl, Nat.le_of_ble_eq_true rfl⟩) rfl hl.1 rfl (Nat.le_of_ble_eq_true rfl) dX1_afterStep_81 ⟨Nat.zero_le _, Nat.zero_le _⟩ ?_
    refine W.eq (g2 := F0 m 84 ls [.long (f_X1_sizeOf a1 a3)]) rfl ?_
    refine lv_lload_n hx hb dX1_afterStep_84 rfl (lv_at hl 2 rfl) ?_
    refine lv_lconst (v := 0) hx hb dX1_afterStep_85 (by decide) ?_
    refine W.lcmp hx hb dX1_afterStep_86 ?_
    refine lv_if_ge (tgt := 94) hx hb dX1_afterStep_87 (by decide) (fun c_6 => ?_) (fun c_6 => ?_)
    · refine lv_iconst (v := 0) hx hb dX1_afterStep_94 (by decide) ?_
      refine lv_iload hx hb dX1_afterStep_95 (lv_at hl 3 rfl) ?_
      refine pu_S (As := [.long (f_X1_sizeOf a1 a3), .int (0 : Int32), .int a3]) (rest := []) ⟨hx, hb, hml, hown, hts⟩ (c_X1_withSign l s.heap (f_X1_sizeOf a1 a3) (0 : Int32) a3) puK_T trivial (va_cwS 3 hts gX1_afterStep_X1_withSign rfl rfl rfl (by decide +kernel) ⟨Nat.le_of_ble_eq_true rfl, Nat.le_of_ble_eq_true rfl⟩) rfl hl.1 rfl (Nat.le_of_ble_eq_true rfl) dX1_afterStep_97 ⟨Nat.zero_le _, Nat.zero_le _⟩ ?_
      refine W.eq (g2 := F0 m 100 ls [.long (f_X1_withSign (f_X1_sizeOf a1 a3) (0 : Int32) a3)]) rfl ?_
      exact W.lret (v := f_X1_withSign (f_X1_sizeOf a1 a3) (0 : Int32) a3) hx hb hr (fun t ht hW => ⟨congrArg (fun z => Outcome.returned (some (Value.long z))) (by unfold f_X1_afterStep; rw [if_neg c_1, if_neg c_2, if_neg c_3, if_neg c_4, if_pos c_5, if_pos c_6]), ht⟩) (fun _ h => nomatch h) dX1_afterStep_100
    · refine lv_iconst (v := 1) hx hb dX1_afterStep_90 (by decide) ?_
      refine lv_goto (tgt := 95) hx hb dX1_afterStep_91 (by decide) ?_
      refine lv_iload hx hb dX1_afterStep_95 (lv_at hl 3 rfl) ?_
      refine pu_S (As := [.long (f_X1_sizeOf a1 a3), .int (1 : Int32), .int a3]) (rest := []) ⟨hx, hb, hml, hown, hts⟩ (c_X1_withSign l s.heap (f_X1_sizeOf a1 a3) (1 : Int32) a3) puK_T trivial (va_cwS 3 hts gX1_afterStep_X1_withSign rfl rfl rfl (by decide +kernel) ⟨Nat.le_of_ble_eq_true rfl, Nat.le_of_ble_eq_true rfl⟩) rfl hl.1 rfl (Nat.le_of_ble_eq_true rfl) dX1_afterStep_97 ⟨Nat.zero_le _, Nat.zero_le _⟩ ?_
      refine W.eq (g2 := F0 m 100 ls [.long (f_X1_withSign (f_X1_sizeOf a1 a3) (1 : Int32) a3)]) rfl ?_
      exact W.lret (v := f_X1_withSign (f_X1_sizeOf a1 a3) (1 : Int32) a3) hx hb hr (fun t ht hW => ⟨congrArg (fun z => Outcome.returned (some (Value.long z))) (by unfold f_X1_afterStep; rw [if_neg c_1, if_neg c_2, if_neg c_3, if_neg c_4, if_pos c_5, if_neg c_6]), ht⟩) (fun _ h => nomatch h) dX1_afterStep_100
  by_cases c_7 : a0 = 5
  · refine lv_tableIn (off := 100) (tgt := 101) hx hb dX1_afterStep_1 (by rw [c_7]; decide) (by rw [c_7]; decide) (by rw [c_7]; decide) (by decide) ?_
    refine lv_lload_n hx hb dX1_afterStep_101 rfl (lv_at hl 1 rfl) ?_
    refine lv_lconst (v := 0) hx hb dX1_afterStep_102 (by decide) ?_
    refine W.lcmp hx hb dX1_afterStep_103 ?_
    refine lv_if_ge (tgt := 114) hx hb dX1_afterStep_104 (by decide) (fun c_8 => ?_) (fun c_8 => ?_)
    · refine lv_lload_n hx hb dX1_afterStep_114 rfl (lv_at hl 1 rfl) ?_
      refine pu_S (As := [.long a1]) (rest := []) ⟨hx, hb, hml, hown, hts⟩ (c_X1_wholeToward l s.heap a1) puK_T trivial (va_cwS 1 hts gX1_afterStep_X1_wholeToward rfl rfl rfl (by decide +kernel) ⟨Nat.le_of_ble_eq_true rfl, Nat.le_of_ble_eq_true rfl⟩) rfl hl.1 rfl (Nat.le_of_ble_eq_true rfl) dX1_afterStep_115 ⟨Nat.zero_le _, Nat.zero_le _⟩ ?_
      refine W.eq (g2 := F0 m 118 ls [.long (f_X1_wholeToward a1)]) rfl ?_
      exact W.lret (v := f_X1_wholeToward a1) hx hb hr (fun t ht hW => ⟨congrArg (fun z => Outcome.returned (some (Value.long z))) (by unfold f_X1_afterStep; rw [if_neg c_1, if_neg c_2, if_neg c_3, if_neg c_4, if_neg c_5, if_pos c_7, if_pos c_8]), ht⟩) (fun _ h => nomatch h) dX1_afterStep_118
    · refine lv_lload_n hx hb dX1_afterStep_107 rfl (lv_at hl 1 rfl) ?_
      refine pu_S (As := [.long a1]) (rest := []) ⟨hx, hb, hml, hown, hts⟩ (c_X1_wholeAway l s.heap a1) puK_T trivial (va_cwS 1 hts gX1_afterStep_X1_wholeAway rfl rfl rfl (by decide +kernel) ⟨Nat.le_of_ble_eq_true rfl, Nat.le_of_ble_eq_true rfl⟩) rfl hl.1 rfl (Nat.le_of_ble_eq_true rfl) dX1_afterStep_108 ⟨Nat.zero_le _, Nat.zero_le _⟩ ?_
      refine W.eq (g2 := F0 m 111 ls [.long (f_X1_wholeAway a1)]) rfl ?_
      refine lv_goto (tgt := 118) hx hb dX1_afterStep_111 (by decide) ?_
      exact W.lret (v := f_X1_wholeAway a1) hx hb hr (fun t ht hW => ⟨congrArg (fun z => Outcome.returned (some (Value.long z))) (by unfold f_X1_afterStep; rw [if_neg c_1, if_neg c_2, if_neg c_3, if_neg c_4, if_neg c_5, if_pos c_7, if_neg c_8]), ht⟩) (fun _ h => nomatch h) dX1_afterStep_118
  by_cases c_9 : a0 = 6
  · refine lv_tableIn (off := 118) (tgt := 119) hx hb dX1_afterStep_1 (by rw [c_9]; decide) (by rw [c_9]; decide) (by rw [c_9]; decide) (by decide) ?_
    refine lv_lload_n hx hb dX1_afterStep_119 rfl (lv_at hl 1 rfl) ?_
    refine lv_lconst (v := 0) hx hb dX1_afterStep_120 (by decide) ?_
    refine W.lcmp hx hb dX1_afterStep_121 ?_
    refine lv_if_ge (tgt := 132) hx hb dX1_afterStep_122 (by decide) (fun c_10 => ?_) (fun c_10 => ?_)
    · refine lv_lload_n hx hb dX1_afterStep_132 rfl (lv_at hl 1 rfl) ?_
      refine pu_S (As := [.long a1]) (rest := []) ⟨hx, hb, hml, hown, hts⟩ (c_X1_wholeAway l s.heap a1) puK_T trivial (va_cwS 1 hts gX1_afterStep_X1_wholeAway rfl rfl rfl (by decide +kernel) ⟨Nat.le_of_ble_eq_true rfl, Nat.le_of_ble_eq_true rfl⟩) rfl hl.1 rfl (Nat.le_of_ble_eq_true rfl) dX1_afterStep_133 ⟨Nat.zero_le _, Nat.zero_le _⟩ ?_
      refine W.eq (g2 := F0 m 136 ls [.long (f_X1_wholeAway a1)]) rfl ?_
      exact W.lret (v := f_X1_wholeAway a1) hx hb hr (fun t ht hW => ⟨congrArg (fun z => Outcome.returned (some (Value.long z))) (by unfold f_X1_afterStep; rw [if_neg c_1, if_neg c_2, if_neg c_3, if_neg c_4, if_neg c_5, if_neg c_7, if_pos c_9, if_pos c_10]), ht⟩) (fun _ h => nomatch h) dX1_afterStep_136
    · refine lv_lload_n hx hb dX1_afterStep_125 rfl (lv_at hl 1 rfl) ?_
      refine pu_S (As := [.long a1]) (rest := []) ⟨hx, hb, hml, hown, hts⟩ (c_X1_wholeToward l s.heap a1) puK_T trivial (va_cwS 1 hts gX1_afterStep_X1_wholeToward rfl rfl rfl (by decide +kernel) ⟨Nat.le_of_ble_eq_true rfl, Nat.le_of_ble_eq_true rfl⟩) rfl hl.1 rfl (Nat.le_of_ble_eq_true rfl) dX1_afterStep_126 ⟨Nat.zero_le _, Nat.zero_le _⟩ ?_
      refine W.eq (g2 := F0 m 129 ls [.long (f_X1_wholeToward a1)]) rfl ?_
      refine lv_goto (tgt := 136) hx hb dX1_afterStep_129 (by decide) ?_
      exact W.lret (v := f_X1_wholeToward a1) hx hb hr (fun t ht hW => ⟨congrArg (fun z => Outcome.returned (some (Value.long z))) (by unfold f_X1_afterStep; rw [if_neg c_1, if_neg c_2, if_neg c_3, if_neg c_4, if_neg c_5, if_neg c_7, if_pos c_9, if_neg c_10]), ht⟩) (fun _ h => nomatch h) dX1_afterStep_136
  by_cases c_11 : a0 = 7
  · refine lv_tableIn (off := 136) (tgt := 137) hx hb dX1_afterStep_1 (by rw [c_11]; decide) (by rw [c_11]; decide) (by rw [c_11]; decide) (by decide) ?_
    refine lv_lload_n hx hb dX1_afterStep_137 rfl (lv_at hl 1 rfl) ?_
    refine pu_S (As := [.long a1]) (rest := []) ⟨hx, hb, hml, hown, hts⟩ (c_X1_wholeNearest l s.heap a1) puK_T trivial (va_cwS 1 hts gX1_afterStep_X1_wholeNearest rfl rfl rfl (by decide +kernel) ⟨Nat.le_of_ble_eq_true rfl, Nat.le_of_ble_eq_true rfl⟩) rfl hl.1 rfl (Nat.le_of_ble_eq_true rfl) dX1_afterStep_138 ⟨Nat.zero_le _, Nat.zero_le _⟩ ?_
    refine W.eq (g2 := F0 m 141 ls [.long (f_X1_wholeNearest a1)]) rfl ?_
    exact W.lret (v := f_X1_wholeNearest a1) hx hb hr (fun t ht hW => ⟨congrArg (fun z => Outcome.returned (some (Value.long z))) (by unfold f_X1_afterStep; rw [if_neg c_1, if_neg c_2, if_neg c_3, if_neg c_4, if_neg c_5, if_neg c_7, if_neg c_9, if_pos c_11]), ht⟩) (fun _ h => nomatch h) dX1_afterStep_141
  have h_sw : a0.toInt < 0 ∨ 7 < a0.toInt := by
    have n0 := lv_neT (k := 0) (a := 0) c_1 (by decide)
    have n1 := lv_neT (k := 1) (a := 1) c_2 (by decide)
    have n2 := lv_neT (k := 2) (a := 2) c_3 (by decide)
    have n3 := lv_neT (k := 3) (a := 3) c_4 (by decide)
    have n4 := lv_neT (k := 4) (a := 4) c_5 (by decide)
    have n5 := lv_neT (k := 5) (a := 5) c_7 (by decide)
    have n6 := lv_neT (k := 6) (a := 6) c_9 (by decide)
    have n7 := lv_neT (k := 7) (a := 7) c_11 (by decide)
    omega
  refine lv_tableOut (tgt := 142) hx hb dX1_afterStep_1 h_sw (by decide) ?_
  refine lv_lload_n hx hb dX1_afterStep_142 rfl (lv_at hl 1 rfl) ?_
  exact W.lret (v := a1) hx hb hr (fun t ht hW => ⟨congrArg (fun z => Outcome.returned (some (Value.long z))) (by unfold f_X1_afterStep; rw [if_neg c_1, if_neg c_2, if_neg c_3, if_neg c_4, if_neg c_5, if_neg c_7, if_neg c_9, if_neg c_11]), ht⟩) (fun _ h => nomatch h) dX1_afterStep_143
def f_X1_canHandOn (a0 : Int32) (a1 : Int32) : Int32 := (if a1 < a0 then (0 : Int32) else (1 : Int32))
set_option maxHeartbeats 4000000 in
set_option maxRecDepth 100000 in
theorem c_X1_canHandOn (l : Launch) (H0 : Heap) (a0 : Int32) (a1 : Int32) : pu l yX1_canHandOn wsX1_canHandOn ({ frames := 0, cells := 0, slots := 0, locals := 0 }) [.int a0, .int a1] (fun _ => True) H0 (some (.int (f_X1_canHandOn a0 a1))) := by
  refine Met.ofW (cc := cX1_canHandOn) (maxL := 2) (ret := (some .boolean)) (by decide) rfl ?_
  intro p e s m args below meth c s₁ B hml hv
  obtain ⟨rfl, hH, -⟩ := hv
  have hx := B.exec
  have hb := B.bytes
  have hr := B.returns
  have hts := atoms_spec (ws := wsX1_canHandOn) B.pre
  have hown : s.vm.findClass RX1 = some m.cls := findClass_of_methodNamed B.named
  have hlocks := B.notSynchronized
  subst hH
  have hl := lv_entry ([.int a0, .int a1]) (n := 2) (Nat.le_of_ble_eq_true rfl)
  rw [lg_entry_eq]
  generalize (lg_sl ([.int a0, .int a1]) ++ List.replicate (2 - (lg_sl ([.int a0, .int a1])).length) Slot.unset).toArray = ls at hl ⊢
  have hl : lv_has ls 2 [(0, .int a0), (1, .int a1)] := hl
  refine lv_iload_n hx hb dX1_canHandOn_0 rfl (lv_at hl 0 rfl) ?_
  refine lv_iload_n hx hb dX1_canHandOn_1 rfl (lv_at hl 1 rfl) ?_
  refine lv_icmp_gt (tgt := 9) hx hb dX1_canHandOn_2 (by decide) (fun c_1 => ?_) (fun c_1 => ?_)
  · refine lv_iconst (v := 0) hx hb dX1_canHandOn_9 (by decide) ?_
    exact W.zret (v := (0 : Int32)) hx hb hr (by rfl) (fun t ht hW => ⟨congrArg (fun z => Outcome.returned (some (Value.int z))) (by unfold f_X1_canHandOn; rw [if_pos c_1]), ht⟩) (fun _ h => nomatch h) dX1_canHandOn_10
  · refine lv_iconst (v := 1) hx hb dX1_canHandOn_5 (by decide) ?_
    refine lv_goto (tgt := 10) hx hb dX1_canHandOn_6 (by decide) ?_
    exact W.zret (v := (1 : Int32)) hx hb hr (by rfl) (fun t ht hW => ⟨congrArg (fun z => Outcome.returned (some (Value.int z))) (by unfold f_X1_canHandOn; rw [if_neg c_1]), ht⟩) (fun _ h => nomatch h) dX1_canHandOn_10
def f_X1_cutTo (a0 : Int64) (a1 : Int32) : Int64 := (if 0 < a1 then (if (f_X1_roundsAway a0 (((1 : Int64) <<< (a1.toInt64 &&& 63)) - (1 : Int64))) = 0 then (a0.toUInt64 >>> (a1.toInt64.toUInt64 &&& Int64.toUInt64 63)).toInt64 else ((a0.toUInt64 >>> (a1.toInt64.toUInt64 &&& Int64.toUInt64 63)).toInt64) + (1 : Int64)) else a0 <<< ((-a1).toInt64 &&& 63))
set_option maxHeartbeats 4000000 in
set_option maxRecDepth 100000 in
theorem c_X1_cutTo (l : Launch) (H0 : Heap) (a0 : Int64) (a1 : Int32) : pu l yX1_cutTo wsX1_cutTo ({ frames := 1, cells := 0, slots := 0, locals := 28 }) [.long a0, .int a1] (fun _ => True) H0 (some (.long (f_X1_cutTo a0 a1))) := by
  refine Met.ofW (cc := cX1_cutTo) (maxL := 5) (ret := (some .long)) (by decide) rfl ?_
  intro p e s m args below meth c s₁ B hml hv
  obtain ⟨rfl, hH, -⟩ := hv
  have hx := B.exec
  have hb := B.bytes
  have hr := B.returns
  have hts := atoms_spec (ws := wsX1_cutTo) B.pre
  have hown : s.vm.findClass RX1 = some m.cls := findClass_of_methodNamed B.named
  have hlocks := B.notSynchronized
  subst hH
  have hl := lv_entry ([.long a0, .int a1]) (n := 5) (Nat.le_of_ble_eq_true rfl)
  rw [lg_entry_eq]
  generalize (lg_sl ([.long a0, .int a1]) ++ List.replicate (5 - (lg_sl ([.long a0, .int a1])).length) Slot.unset).toArray = ls at hl ⊢
  have hl : lv_has ls 5 [(0, .long a0), (2, .int a1)] := hl
  refine lv_iload_n hx hb dX1_cutTo_0 rfl (lv_at hl 1 rfl) ?_
  refine lv_if_gt (tgt := 9) hx hb dX1_cutTo_1 (by decide) (fun c_1 => ?_) (fun c_1 => ?_)
  · refine lv_lload_n hx hb dX1_cutTo_9 rfl (lv_at hl 0 rfl) ?_
    refine lv_iload_n hx hb dX1_cutTo_10 rfl (lv_at hl 1 rfl) ?_
    refine lv_lushr hx hb dX1_cutTo_11 rfl ?_
    refine lv_lstore_n (lv' := [(3, .long ((a0.toUInt64 >>> (a1.toInt64.toUInt64 &&& Int64.toUInt64 63)).toInt64)), (0, .long a0), (2, .int a1)]) hx hb dX1_cutTo_12 rfl hl (by decide) rfl (fun ls hl => ?_)
    refine lv_lload_n hx hb dX1_cutTo_13 rfl (lv_at hl 1 rfl) ?_
    refine lv_lconst (v := 1) hx hb dX1_cutTo_14 (by decide) ?_
    refine lv_iload_n hx hb dX1_cutTo_15 rfl (lv_at hl 2 rfl) ?_
    refine lv_lshl hx hb dX1_cutTo_16 rfl ?_
    refine lv_lconst (v := 1) hx hb dX1_cutTo_17 (by decide) ?_
    refine lv_lsub hx hb dX1_cutTo_18 ?_
    refine pu_S (As := [.long a0, .long (((1 : Int64) <<< (a1.toInt64 &&& 63)) - (1 : Int64))]) (rest := []) ⟨hx, hb, hml, hown, hts⟩ (c_X1_roundsAway l s.heap a0 (((1 : Int64) <<< (a1.toInt64 &&& 63)) - (1 : Int64))) puK_T trivial (va_cwS 2 hts gX1_cutTo_X1_roundsAway rfl rfl rfl (by decide +kernel) ⟨Nat.le_of_ble_eq_true rfl, Nat.le_of_ble_eq_true rfl⟩) rfl hl.1 rfl (Nat.le_of_ble_eq_true rfl) dX1_cutTo_19 ⟨Nat.zero_le _, Nat.zero_le _⟩ ?_
    refine W.eq (g2 := F0 m 22 ls [.int (f_X1_roundsAway a0 (((1 : Int64) <<< (a1.toInt64 &&& 63)) - (1 : Int64)))]) rfl ?_
    refine lv_if_eq (tgt := 31) hx hb dX1_cutTo_22 (by decide) (fun c_2 => ?_) (fun c_2 => ?_)
    · refine lv_lload_n hx hb dX1_cutTo_31 rfl (lv_at hl 0 rfl) ?_
      exact W.lret (v := (a0.toUInt64 >>> (a1.toInt64.toUInt64 &&& Int64.toUInt64 63)).toInt64) hx hb hr (fun t ht hW => ⟨congrArg (fun z => Outcome.returned (some (Value.long z))) (by unfold f_X1_cutTo; rw [if_pos c_1, if_pos c_2]), ht⟩) (fun _ h => nomatch h) dX1_cutTo_32
    · refine lv_lload_n hx hb dX1_cutTo_25 rfl (lv_at hl 0 rfl) ?_
      refine lv_lconst (v := 1) hx hb dX1_cutTo_26 (by decide) ?_
      refine lv_ladd hx hb dX1_cutTo_27 ?_
      refine lv_goto (tgt := 32) hx hb dX1_cutTo_28 (by decide) ?_
      exact W.lret (v := ((a0.toUInt64 >>> (a1.toInt64.toUInt64 &&& Int64.toUInt64 63)).toInt64) + (1 : Int64)) hx hb hr (fun t ht hW => ⟨congrArg (fun z => Outcome.returned (some (Value.long z))) (by unfold f_X1_cutTo; rw [if_pos c_1, if_neg c_2]), ht⟩) (fun _ h => nomatch h) dX1_cutTo_32
  · refine lv_lload_n hx hb dX1_cutTo_4 rfl (lv_at hl 0 rfl) ?_
    refine lv_iload_n hx hb dX1_cutTo_5 rfl (lv_at hl 1 rfl) ?_
    refine lv_ineg hx hb dX1_cutTo_6 ?_
    refine lv_lshl hx hb dX1_cutTo_7 rfl ?_
    exact W.lret (v := a0 <<< ((-a1).toInt64 &&& 63)) hx hb hr (fun t ht hW => ⟨congrArg (fun z => Outcome.returned (some (Value.long z))) (by unfold f_X1_cutTo; rw [if_neg c_1]), ht⟩) (fun _ h => nomatch h) dX1_cutTo_8
