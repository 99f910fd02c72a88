def f_X2_isNone (a0 : Int64) (a1 : Int32) : Int32 := (if a1 = (2 : Int32) then (if (lg_cmp (a0 &&& (2147483647 : Int64)) (2139095040 : Int64)) ≤ 0 then (0 : Int32) else (1 : Int32)) else (if a1 = (3 : Int32) then (if (lg_cmp (a0 &&& (9223372036854775807 : Int64)) (9218868437227405312 : Int64)) ≤ 0 then (0 : Int32) else (1 : Int32)) else (0 : Int32)))
set_option maxHeartbeats 4000000 in
set_option maxRecDepth 100000 in
theorem c_X2_isNone (l : Launch) (H0 : Heap) (a0 : Int64) (a1 : Int32) : pu l yX2_isNone wsX2_isNone ({ frames := 0, cells := 0, slots := 0, locals := 0 }) [.long a0, .int a1] (fun _ => True) H0 (some (.int (f_X2_isNone a0 a1))) := by
  refine Met.ofW (cc := cX2_isNone) (maxL := 3) (ret := (some .boolean)) (by decide) rfl ?_
  intro p e s m args below meth c s₁ B hml hv
  obtain ⟨rfl, hH, -⟩ := hv
  have hx := B.exec
  have hb := B.bytes
  have hr := B.returns
  have hts := atoms_spec (ws := wsX2_isNone) B.pre
  have hown : s.vm.findClass RX2 = some m.cls := findClass_of_methodNamed B.named
  have hlocks := B.notSynchronized
  subst hH
  have hl := lv_entry ([.long a0, .int a1]) (n := 3) (Nat.le_of_ble_eq_true rfl)
  rw [lg_entry_eq]
  generalize (lg_sl ([.long a0, .int a1]) ++ List.replicate (3 - (lg_sl ([.long a0, .int a1])).length) Slot.unset).toArray = ls at hl ⊢
  have hl : lv_has ls 3 [(0, .long a0), (2, .int a1)] := hl
  refine lv_iload_n hx hb dX2_isNone_0 rfl (lv_at hl 1 rfl) ?_
  refine lv_iconst (v := 2) hx hb dX2_isNone_1 (by decide) ?_
  refine lv_icmp_ne (tgt := 23) hx hb dX2_isNone_2 (by decide) (fun c_1 => ?_) (fun c_1 => ?_)
  · refine lv_iload_n hx hb dX2_isNone_23 rfl (lv_at hl 1 rfl) ?_
    refine lv_iconst (v := 3) hx hb dX2_isNone_24 (by decide) ?_
    refine lv_icmp_ne (tgt := 44) hx hb dX2_isNone_25 (by decide) (fun c_2 => ?_) (fun c_2 => ?_)
    · refine lv_iconst (v := 0) hx hb dX2_isNone_44 (by decide) ?_
      exact W.zret (v := (0 : Int32)) hx hb hr (by rfl) (fun t ht hW => ⟨congrArg (fun z => Outcome.returned (some (Value.int z))) (by unfold f_X2_isNone; rw [if_neg c_1, if_neg c_2]), ht⟩) (fun _ h => nomatch h) dX2_isNone_45
    · refine lv_lload_n hx hb dX2_isNone_28 rfl (lv_at hl 0 rfl) ?_
      refine lv_ldc2 (v := 9223372036854775807) hx hb hown (hts (.constantLong RX2 59 9223372036854775807) (by decide +kernel)) dX2_isNone_29 ?_
      refine lv_land hx hb dX2_isNone_32 ?_
      refine lv_ldc2 (v := 9218868437227405312) hx hb hown (hts (.constantLong RX2 61 9218868437227405312) (by decide +kernel)) dX2_isNone_33 ?_
      refine W.lcmp hx hb dX2_isNone_36 ?_
      refine lv_if_le (tgt := 44) hx hb dX2_isNone_37 (by decide) (fun c_3 => ?_) (fun c_3 => ?_)
      · refine lv_iconst (v := 0) hx hb dX2_isNone_44 (by decide) ?_
        exact W.zret (v := (0 : Int32)) hx hb hr (by rfl) (fun t ht hW => ⟨congrArg (fun z => Outcome.returned (some (Value.int z))) (by unfold f_X2_isNone; rw [if_neg c_1, if_pos c_2, if_pos c_3]), ht⟩) (fun _ h => nomatch h) dX2_isNone_45
      · refine lv_iconst (v := 1) hx hb dX2_isNone_40 (by decide) ?_
        refine lv_goto (tgt := 45) hx hb dX2_isNone_41 (by decide) ?_
        exact W.zret (v := (1 : Int32)) hx hb hr (by rfl) (fun t ht hW => ⟨congrArg (fun z => Outcome.returned (some (Value.int z))) (by unfold f_X2_isNone; rw [if_neg c_1, if_pos c_2, if_neg c_3]), ht⟩) (fun _ h => nomatch h) dX2_isNone_45
  · refine lv_lload_n hx hb dX2_isNone_5 rfl (lv_at hl 0 rfl) ?_
    refine lv_ldc2 (v := 2147483647) hx hb hown (hts (.constantLong RX2 55 2147483647) (by decide +kernel)) dX2_isNone_6 ?_
    refine lv_land hx hb dX2_isNone_9 ?_
    refine lv_ldc2 (v := 2139095040) hx hb hown (hts (.constantLong RX2 57 2139095040) (by decide +kernel)) dX2_isNone_10 ?_
    refine W.lcmp hx hb dX2_isNone_13 ?_
    refine lv_if_le (tgt := 21) hx hb dX2_isNone_14 (by decide) (fun c_4 => ?_) (fun c_4 => ?_)
    · refine lv_iconst (v := 0) hx hb dX2_isNone_21 (by decide) ?_
      exact W.zret (v := (0 : Int32)) hx hb hr (by rfl) (fun t ht hW => ⟨congrArg (fun z => Outcome.returned (some (Value.int z))) (by unfold f_X2_isNone; rw [if_pos c_1, if_pos c_4]), ht⟩) (fun _ h => nomatch h) dX2_isNone_22
    · refine lv_iconst (v := 1) hx hb dX2_isNone_17 (by decide) ?_
      refine lv_goto (tgt := 22) hx hb dX2_isNone_18 (by decide) ?_
      exact W.zret (v := (1 : Int32)) hx hb hr (by rfl) (fun t ht hW => ⟨congrArg (fun z => Outcome.returned (some (Value.int z))) (by unfold f_X2_isNone; rw [if_pos c_1, if_neg c_4]), ht⟩) (fun _ h => nomatch h) dX2_isNone_22
def f_X2_isGood (a0 : Int64) (a1 : Int32) : Int32 := (if a1 = 0 then (if (lg_cmp a0 (-2147483648 : Int64)) < 0 then (0 : Int32) else (if (lg_cmp a0 (2147483647 : Int64)) ≤ 0 then (if (f_X2_isNone a0 a1) = 0 then (1 : Int32) else (0 : Int32)) else (0 : Int32))) else (if a1 = (2 : Int32) then (if (lg_cmp a0 (-2147483648 : Int64)) < 0 then (0 : Int32) else (if (lg_cmp a0 (2147483647 : Int64)) ≤ 0 then (if (f_X2_isNone a0 a1) = 0 then (1 : Int32) else (0 : Int32)) else (0 : Int32))) else (if (f_X2_isNone a0 a1) = 0 then (1 : Int32) else (0 : Int32))))
set_option maxHeartbeats 4000000 in
set_option maxRecDepth 100000 in
theorem c_X2_isGood (l : Launch) (H0 : Heap) (a0 : Int64) (a1 : Int32) : pu l yX2_isGood wsX2_isGood ({ frames := 1, cells := 0, slots := 0, locals := 22 }) [.long a0, .int a1] (fun _ => True) H0 (some (.int (f_X2_isGood a0 a1))) := by
  refine Met.ofW (cc := cX2_isGood) (maxL := 3) (ret := (some .boolean)) (by decide) rfl ?_
  intro p e s m args below meth c s₁ B hml hv
  obtain ⟨rfl, hH, -⟩ := hv
  have hx := B.exec
  have hb := B.bytes
  have hr := B.returns
  have hts := atoms_spec (ws := wsX2_isGood) B.pre
  have hown : s.vm.findClass RX2 = some m.cls := findClass_of_methodNamed B.named
  have hlocks := B.notSynchronized
  subst hH
  have hl := lv_entry ([.long a0, .int a1]) (n := 3) (Nat.le_of_ble_eq_true rfl)
  rw [lg_entry_eq]
  generalize (lg_sl ([.long a0, .int a1]) ++ List.replicate (3 - (lg_sl ([.long a0, .int a1])).length) Slot.unset).toArray = ls at hl ⊢
  have hl : lv_has ls 3 [(0, .long a0), (2, .int a1)] := hl
  refine lv_iload_n hx hb dX2_isGood_0 rfl (lv_at hl 1 rfl) ?_
  refine lv_if_eq (tgt := 9) hx hb dX2_isGood_1 (by decide) (fun c_1 => ?_) (fun c_1 => ?_)
  · refine lv_lload_n hx hb dX2_isGood_9 rfl (lv_at hl 0 rfl) ?_
    refine lv_ldc2 (v := (-2147483648)) hx hb hown (hts (.constantLong RX2 63 (-2147483648)) (by decide +kernel)) dX2_isGood_10 ?_
    refine W.lcmp hx hb dX2_isGood_13 ?_
    refine lv_if_lt (tgt := 25) hx hb dX2_isGood_14 (by decide) (fun c_2 => ?_) (fun c_2 => ?_)
    · refine lv_iconst (v := 0) hx hb dX2_isGood_25 (by decide) ?_
      exact W.zret (v := (0 : Int32)) hx hb hr (by rfl) (fun t ht hW => ⟨congrArg (fun z => Outcome.returned (some (Value.int z))) (by unfold f_X2_isGood; rw [if_pos c_1, if_pos c_2]), ht⟩) (fun _ h => nomatch h) dX2_isGood_26
    · refine lv_lload_n hx hb dX2_isGood_17 rfl (lv_at hl 0 rfl) ?_
      refine lv_ldc2 (v := 2147483647) hx hb hown (hts (.constantLong RX2 55 2147483647) (by decide +kernel)) dX2_isGood_18 ?_
      refine W.lcmp hx hb dX2_isGood_21 ?_
      refine lv_if_le (tgt := 27) hx hb dX2_isGood_22 (by decide) (fun c_3 => ?_) (fun c_3 => ?_)
      · refine lv_lload_n hx hb dX2_isGood_27 rfl (lv_at hl 0 rfl) ?_
        refine lv_iload_n hx hb dX2_isGood_28 rfl (lv_at hl 1 rfl) ?_
        refine pu_S (As := [.long a0, .int a1]) (rest := []) ⟨hx, hb, hml, hown, hts⟩ (c_X2_isNone l s.heap a0 a1) puK_T trivial (va_cwS 2 hts gX2_isGood_X2_isNone rfl rfl rfl (by decide +kernel) ⟨Nat.le_of_ble_eq_true rfl, Nat.le_of_ble_eq_true rfl⟩) rfl hl.1 rfl (Nat.le_of_ble_eq_true rfl) dX2_isGood_29 ⟨Nat.zero_le _, Nat.zero_le _⟩ ?_
        refine W.eq (g2 := F0 m 32 ls [.int (f_X2_isNone a0 a1)]) rfl ?_
        refine lv_if_ne (tgt := 39) hx hb dX2_isGood_32 (by decide) (fun c_4 => ?_) (fun c_4 => ?_)
        · refine lv_iconst (v := 0) hx hb dX2_isGood_39 (by decide) ?_
          exact W.zret (v := (0 : Int32)) hx hb hr (by rfl) (fun t ht hW => ⟨congrArg (fun z => Outcome.returned (some (Value.int z))) (by unfold f_X2_isGood; rw [if_pos c_1, if_neg c_2, if_pos c_3, if_neg c_4]), ht⟩) (fun _ h => nomatch h) dX2_isGood_40
        · refine lv_iconst (v := 1) hx hb dX2_isGood_35 (by decide) ?_
          refine lv_goto (tgt := 40) hx hb dX2_isGood_36 (by decide) ?_
          exact W.zret (v := (1 : Int32)) hx hb hr (by rfl) (fun t ht hW => ⟨congrArg (fun z => Outcome.returned (some (Value.int z))) (by unfold f_X2_isGood; rw [if_pos c_1, if_neg c_2, if_pos c_3, if_pos c_4]), ht⟩) (fun _ h => nomatch h) dX2_isGood_40
      · refine lv_iconst (v := 0) hx hb dX2_isGood_25 (by decide) ?_
        exact W.zret (v := (0 : Int32)) hx hb hr (by rfl) (fun t ht hW => ⟨congrArg (fun z => Outcome.returned (some (Value.int z))) (by unfold f_X2_isGood; rw [if_pos c_1, if_neg c_2, if_neg c_3]), ht⟩) (fun _ h => nomatch h) dX2_isGood_26
  · refine lv_iload_n hx hb dX2_isGood_4 rfl (lv_at hl 1 rfl) ?_
    refine lv_iconst (v := 2) hx hb dX2_isGood_5 (by decide) ?_
    refine lv_icmp_ne (tgt := 27) hx hb dX2_isGood_6 (by decide) (fun c_5 => ?_) (fun c_5 => ?_)
    · refine lv_lload_n hx hb dX2_isGood_27 rfl (lv_at hl 0 rfl) ?_
      refine lv_iload_n hx hb dX2_isGood_28 rfl (lv_at hl 1 rfl) ?_
      refine pu_S (As := [.long a0, .int a1]) (rest := []) ⟨hx, hb, hml, hown, hts⟩ (c_X2_isNone l s.heap a0 a1) puK_T trivial (va_cwS 2 hts gX2_isGood_X2_isNone rfl rfl rfl (by decide +kernel) ⟨Nat.le_of_ble_eq_true rfl, Nat.le_of_ble_eq_true rfl⟩) rfl hl.1 rfl (Nat.le_of_ble_eq_true rfl) dX2_isGood_29 ⟨Nat.zero_le _, Nat.zero_le _⟩ ?_
      refine W.eq (g2 := F0 m 32 ls [.int (f_X2_isNone a0 a1)]) rfl ?_
      refine lv_if_ne (tgt := 39) hx hb dX2_isGood_32 (by decide) (fun c_6 => ?_) (fun c_6 => ?_)
      · refine lv_iconst (v := 0) hx hb dX2_isGood_39 (by decide) ?_
        exact W.zret (v := (0 : Int32)) hx hb hr (by rfl) (fun t ht hW => ⟨congrArg (fun z => Outcome.returned (some (Value.int z))) (by unfold f_X2_isGood; rw [if_neg c_1, if_neg c_5, if_neg c_6]), ht⟩) (fun _ h => nomatch h) dX2_isGood_40
      · refine lv_iconst (v := 1) hx hb dX2_isGood_35 (by decide) ?_
        refine lv_goto (tgt := 40) hx hb dX2_isGood_36 (by decide) ?_
        exact W.zret (v := (1 : Int32)) hx hb hr (by rfl) (fun t ht hW => ⟨congrArg (fun z => Outcome.returned (some (Value.int z))) (by unfold f_X2_isGood; rw [if_neg c_1, if_neg c_5, if_pos c_6]), ht⟩) (fun _ h => nomatch h) dX2_isGood_40
    · refine lv_lload_n hx hb dX2_isGood_9 rfl (lv_at hl 0 rfl) ?_
      refine lv_ldc2 (v := (-2147483648)) hx hb hown (hts (.constantLong RX2 63 (-2147483648)) (by decide +kernel)) dX2_isGood_10 ?_
      refine W.lcmp hx hb dX2_isGood_13 ?_
      refine lv_if_lt (tgt := 25) hx hb dX2_isGood_14 (by decide) (fun c_7 => ?_) (fun c_7 => ?_)
      · refine lv_iconst (v := 0) hx hb dX2_isGood_25 (by decide) ?_
        exact W.zret (v := (0 : Int32)) hx hb hr (by rfl) (fun t ht hW => ⟨congrArg (fun z => Outcome.returned (some (Value.int z))) (by unfold f_X2_isGood; rw [if_neg c_1, if_pos c_5, if_pos c_7]), ht⟩) (fun _ h => nomatch h) dX2_isGood_26
      · refine lv_lload_n hx hb dX2_isGood_17 rfl (lv_at hl 0 rfl) ?_
        refine lv_ldc2 (v := 2147483647) hx hb hown (hts (.constantLong RX2 55 2147483647) (by decide +kernel)) dX2_isGood_18 ?_
        refine W.lcmp hx hb dX2_isGood_21 ?_
        refine lv_if_le (tgt := 27) hx hb dX2_isGood_22 (by decide) (fun c_8 => ?_) (fun c_8 => ?_)
        · refine lv_lload_n hx hb dX2_isGood_27 rfl (lv_at hl 0 rfl) ?_
          refine lv_iload_n hx hb dX2_isGood_28 rfl (lv_at hl 1 rfl) ?_
          refine pu_S (As := [.long a0, .int a1]) (rest := []) ⟨hx, hb, hml, hown, hts⟩ (c_X2_isNone l s.heap a0 a1) puK_T trivial (va_cwS 2 hts gX2_isGood_X2_isNone rfl rfl rfl (by decide +kernel) ⟨Nat.le_of_ble_eq_true rfl, Nat.le_of_ble_eq_true rfl⟩) rfl hl.1 rfl (Nat.le_of_ble_eq_true rfl) dX2_isGood_29 ⟨Nat.zero_le _, Nat.zero_le _⟩ ?_
          refine W.eq (g2 := F0 m 32 ls [.int (f_X2_isNone a0 a1)]) rfl ?_
          refine lv_if_ne (tgt := 39) hx hb dX2_isGood_32 (by decide) (fun c_9 => ?_) (fun c_9 => ?_)
          · refine lv_iconst (v := 0) hx hb dX2_isGood_39 (by decide) ?_
            exact W.zret (v := (0 : Int32)) hx hb hr (by rfl) (fun t ht hW => ⟨congrArg (fun z => Outcome.returned (some (Value.int z))) (by unfold f_X2_isGood; rw [if_neg c_1, if_pos c_5, if_neg c_7, if_pos c_8, if_neg c_9]), ht⟩) (fun _ h => nomatch h) dX2_isGood_40
          · refine lv_iconst (v := 1) hx hb dX2_isGood_35 (by decide) ?_
            refine lv_goto (tgt := 40) hx hb dX2_isGood_36 (by decide) ?_
            exact W.zret (v := (1 : Int32)) hx hb hr (by rfl) (fun t ht hW => ⟨congrArg (fun z => Outcome.returned (some (Value.int z))) (by unfold f_X2_isGood; rw [if_neg c_1, if_pos c_5, if_neg c_7, if_pos c_8, if_pos c_9]), ht⟩) (fun _ h => nomatch h) dX2_isGood_40
        · refine lv_iconst (v := 0) hx hb dX2_isGood_25 (by decide) ?_
          exact W.zret (v := (0 : Int32)) hx hb hr (by rfl) (fun t ht hW => ⟨congrArg (fun z => Outcome.returned (some (Value.int z))) (by unfold f_X2_isGood; rw [if_neg c_1, if_pos c_5, if_neg c_7, if_neg c_8]), ht⟩) (fun _ h => nomatch h) dX2_isGood_26
def f_X2_keyOf (a0 : Int64) (a1 : Int32) : Int64 := (if a1 < (2 : Int32) then a0 else (if (lg_cmp a0 (0 : Int64)) < 0 then (if a1 = (2 : Int32) then a0 ^^^ (2147483647 : Int64) else a0 ^^^ (9223372036854775807 : Int64)) else a0))
set_option maxHeartbeats 4000000 in
set_option maxRecDepth 100000 in
theorem c_X2_keyOf (l : Launch) (H0 : Heap) (a0 : Int64) (a1 : Int32) : pu l yX2_keyOf wsX2_keyOf ({ frames := 0, cells := 0, slots := 0, locals := 0 }) [.long a0, .int a1] (fun _ => True) H0 (some (.long (f_X2_keyOf a0 a1))) := by
  refine Met.ofW (cc := cX2_keyOf) (maxL := 3) (ret := (some .long)) (by decide) rfl ?_
  intro p e s m args below meth c s₁ B hml hv
  obtain ⟨rfl, hH, -⟩ := hv
  have hx := B.exec
  have hb := B.bytes
  have hr := B.returns
  have hts := atoms_spec (ws := wsX2_keyOf) B.pre
  have hown : s.vm.findClass RX2 = some m.cls := findClass_of_methodNamed B.named
  have hlocks := B.notSynchronized
  subst hH
  have hl := lv_entry ([.long a0, .int a1]) (n := 3) (Nat.le_of_ble_eq_true rfl)
  rw [lg_entry_eq]
  generalize (lg_sl ([.long a0, .int a1]) ++ List.replicate (3 - (lg_sl ([.long a0, .int a1])).length) Slot.unset).toArray = ls at hl ⊢
  have hl : lv_has ls 3 [(0, .long a0), (2, .int a1)] := hl
  refine lv_iload_n hx hb dX2_keyOf_0 rfl (lv_at hl 1 rfl) ?_
  refine lv_iconst (v := 2) hx hb dX2_keyOf_1 (by decide) ?_
  refine lv_icmp_lt (tgt := 11) hx hb dX2_keyOf_2 (by decide) (fun c_1 => ?_) (fun c_1 => ?_)
  · refine lv_lload_n hx hb dX2_keyOf_11 rfl (lv_at hl 0 rfl) ?_
    exact W.lret (v := a0) hx hb hr (fun t ht hW => ⟨congrArg (fun z => Outcome.returned (some (Value.long z))) (by unfold f_X2_keyOf; rw [if_pos c_1]), ht⟩) (fun _ h => nomatch h) dX2_keyOf_12
  · refine lv_lload_n hx hb dX2_keyOf_5 rfl (lv_at hl 0 rfl) ?_
    refine lv_lconst (v := 0) hx hb dX2_keyOf_6 (by decide) ?_
    refine W.lcmp hx hb dX2_keyOf_7 ?_
    refine lv_if_lt (tgt := 13) hx hb dX2_keyOf_8 (by decide) (fun c_2 => ?_) (fun c_2 => ?_)
    · refine lv_iload_n hx hb dX2_keyOf_13 rfl (lv_at hl 1 rfl) ?_
      refine lv_iconst (v := 2) hx hb dX2_keyOf_14 (by decide) ?_
      refine lv_icmp_ne (tgt := 26) hx hb dX2_keyOf_15 (by decide) (fun c_3 => ?_) (fun c_3 => ?_)
      · refine lv_lload_n hx hb dX2_keyOf_26 rfl (lv_at hl 0 rfl) ?_
        refine lv_ldc2 (v := 9223372036854775807) hx hb hown (hts (.constantLong RX2 59 9223372036854775807) (by decide +kernel)) dX2_keyOf_27 ?_
        refine lv_lxor hx hb dX2_keyOf_30 ?_
        exact W.lret (v := a0 ^^^ (9223372036854775807 : Int64)) hx hb hr (fun t ht hW => ⟨congrArg (fun z => Outcome.returned (some (Value.long z))) (by unfold f_X2_keyOf; rw [if_neg c_1, if_pos c_2, if_neg c_3]), ht⟩) (fun _ h => nomatch h) dX2_keyOf_31
      · refine lv_lload_n hx hb dX2_keyOf_18 rfl (lv_at hl 0 rfl) ?_
        refine lv_ldc2 (v := 2147483647) hx hb hown (hts (.constantLong RX2 55 2147483647) (by decide +kernel)) dX2_keyOf_19 ?_
        refine lv_lxor hx hb dX2_keyOf_22 ?_
        refine lv_goto (tgt := 31) hx hb dX2_keyOf_23 (by decide) ?_
        exact W.lret (v := a0 ^^^ (2147483647 : Int64)) hx hb hr (fun t ht hW => ⟨congrArg (fun z => Outcome.returned (some (Value.long z))) (by unfold f_X2_keyOf; rw [if_neg c_1, if_pos c_2, if_pos c_3]), ht⟩) (fun _ h => nomatch h) dX2_keyOf_31
    · refine lv_lload_n hx hb dX2_keyOf_11 rfl (lv_at hl 0 rfl) ?_
      exact W.lret (v := a0) hx hb hr (fun t ht hW => ⟨congrArg (fun z => Outcome.returned (some (Value.long z))) (by unfold f_X2_keyOf; rw [if_neg c_1, if_neg c_2]), ht⟩) (fun _ h => nomatch h) dX2_keyOf_12
def f_X2_isAbove (a0 : Int64) (a1 : Int64) (a2 : Int32) : Int32 := (if (lg_cmp (f_X2_keyOf a0 a2) (f_X2_keyOf a1 a2)) ≤ 0 then (0 : Int32) else (1 : Int32))
set_option maxHeartbeats 4000000 in
set_option maxRecDepth 100000 in
theorem c_X2_isAbove (l : Launch) (H0 : Heap) (a0 : Int64) (a1 : Int64) (a2 : Int32) : pu l yX2_isAbove wsX2_isAbove ({ frames := 1, cells := 0, slots := 0, locals := 22 }) [.long a0, .long a1, .int a2] (fun _ => True) H0 (some (.int (f_X2_isAbove a0 a1 a2))) := by
  refine Met.ofW (cc := cX2_isAbove) (maxL := 5) (ret := (some .boolean)) (by decide) rfl ?_
  intro p e s m args below meth c s₁ B hml hv
  obtain ⟨rfl, hH, -⟩ := hv
  have hx := B.exec
  have hb := B.bytes
  have hr := B.returns
  have hts := atoms_spec (ws := wsX2_isAbove) B.pre
  have hown : s.vm.findClass RX2 = some m.cls := findClass_of_methodNamed B.named
  have hlocks := B.notSynchronized
  subst hH
  have hl := lv_entry ([.long a0, .long a1, .int a2]) (n := 5) (Nat.le_of_ble_eq_true rfl)
  rw [lg_entry_eq]
  generalize (lg_sl ([.long a0, .long a1, .int a2]) ++ List.replicate (5 - (lg_sl ([.long a0, .long a1, .int a2])).length) Slot.unset).toArray = ls at hl ⊢
  have hl : lv_has ls 5 [(0, .long a0), (2, .long a1), (4, .int a2)] := hl
  refine lv_lload_n hx hb dX2_isAbove_0 rfl (lv_at hl 0 rfl) ?_
  refine lv_iload hx hb dX2_isAbove_1 (lv_at hl 2 rfl) ?_
  refine pu_S (As := [.long a0, .int a2]) (rest := []) ⟨hx, hb, hml, hown, hts⟩ (c_X2_keyOf l s.heap a0 a2) puK_T trivial (va_cwS 2 hts gX2_isAbove_X2_keyOf rfl rfl rfl (by decide +kernel) ⟨Nat.le_of_ble_eq_true rfl, Nat.le_of_ble_eq_true rfl⟩) rfl hl.1 rfl (Nat.le_of_ble_eq_true rfl) dX2_isAbove_3 ⟨Nat.zero_le _, Nat.zero_le _⟩ ?_
  refine W.eq (g2 := F0 m 6 ls [.long (f_X2_keyOf a0 a2)]) rfl ?_
  refine lv_lload_n hx hb dX2_isAbove_6 rfl (lv_at hl 1 rfl) ?_
  refine lv_iload hx hb dX2_isAbove_7 (lv_at hl 2 rfl) ?_
  refine pu_S (As := [.long a1, .int a2]) (rest := [.long (f_X2_keyOf a0 a2)]) ⟨hx, hb, hml, hown, hts⟩ (c_X2_keyOf l s.heap a1 a2) puK_T trivial (va_cwS 2 hts gX2_isAbove_X2_keyOf rfl rfl rfl (by decide +kernel) ⟨Nat.le_of_ble_eq_true rfl, Nat.le_of_ble_eq_true rfl⟩) rfl hl.1 rfl (Nat.le_of_ble_eq_true rfl) dX2_isAbove_9 ⟨Nat.zero_le _, Nat.zero_le _⟩ ?_
  refine W.eq (g2 := F0 m 12 ls [.long (f_X2_keyOf a1 a2), .long (f_X2_keyOf a0 a2)]) rfl ?_
  refine W.lcmp hx hb dX2_isAbove_12 ?_
  refine lv_if_le (tgt := 20) hx hb dX2_isAbove_13 (by decide) (fun c_1 => ?_) (fun c_1 => ?_)
  · refine lv_iconst (v := 0) hx hb dX2_isAbove_20 (by decide) ?_
    exact W.zret (v := (0 : Int32)) hx hb hr (by rfl) (fun t ht hW => ⟨congrArg (fun z => Outcome.returned (some (Value.int z))) (by unfold f_X2_isAbove; rw [if_pos c_1]), ht⟩) (fun _ h => nomatch h) dX2_isAbove_21
  · refine lv_iconst (v := 1) hx hb dX2_isAbove_16 (by decide) ?_
    refine lv_goto (tgt := 21) hx hb dX2_isAbove_17 (by decide) ?_
    exact W.zret (v := (1 : Int32)) hx hb hr (by rfl) (fun t ht hW => ⟨congrArg (fun z => Outcome.returned (some (Value.int z))) (by unfold f_X2_isAbove; rw [if_neg c_1]), ht⟩) (fun _ h => nomatch h) dX2_isAbove_21
def f_X2_isZero (a0 : Int64) (a1 : Int32) : Int32 := (if a1 = (2 : Int32) then (if (lg_cmp (a0 &&& (2147483647 : Int64)) (0 : Int64)) = 0 then (1 : Int32) else (0 : Int32)) else (if (lg_cmp (a0 &&& (9223372036854775807 : Int64)) (0 : Int64)) = 0 then (1 : Int32) else (0 : Int32)))
set_option maxHeartbeats 4000000 in
set_option maxRecDepth 100000 in
theorem c_X2_isZero (l : Launch) (H0 : Heap) (a0 : Int64) (a1 : Int32) : pu l yX2_isZero wsX2_isZero ({ frames := 0, cells := 0, slots := 0, locals := 0 }) [.long a0, .int a1] (fun _ => True) H0 (some (.int (f_X2_isZero a0 a1))) := by
  refine Met.ofW (cc := cX2_isZero) (maxL := 3) (ret := (some .boolean)) (by decide) rfl ?_
  intro p e s m args below meth c s₁ B hml hv
  obtain ⟨rfl, hH, -⟩ := hv
  have hx := B.exec
  have hb := B.bytes
  have hr := B.returns
  have hts := atoms_spec (ws := wsX2_isZero) B.pre
  have hown : s.vm.findClass RX2 = some m.cls := findClass_of_methodNamed B.named
  have hlocks := B.notSynchronized
  subst hH
  have hl := lv_entry ([.long a0, .int a1]) (n := 3) (Nat.le_of_ble_eq_true rfl)
  rw [lg_entry_eq]
  generalize (lg_sl ([.long a0, .int a1]) ++ List.replicate (3 - (lg_sl ([.long a0, .int a1])).length) Slot.unset).toArray = ls at hl ⊢
  have hl : lv_has ls 3 [(0, .long a0), (2, .int a1)] := hl
  refine lv_lload_n hx hb dX2_isZero_0 rfl (lv_at hl 0 rfl) ?_
  refine lv_iload_n hx hb dX2_isZero_1 rfl (lv_at hl 1 rfl) ?_
  refine lv_iconst (v := 2) hx hb dX2_isZero_2 (by decide) ?_
  refine lv_icmp_ne (tgt := 12) hx hb dX2_isZero_3 (by decide) (fun c_1 => ?_) (fun c_1 => ?_)
  · refine lv_ldc2 (v := 9223372036854775807) hx hb hown (hts (.constantLong RX2 59 9223372036854775807) (by decide +kernel)) dX2_isZero_12 ?_
    refine lv_land hx hb dX2_isZero_15 ?_
    refine lv_lconst (v := 0) hx hb dX2_isZero_16 (by decide) ?_
    refine W.lcmp hx hb dX2_isZero_17 ?_
    refine lv_if_ne (tgt := 25) hx hb dX2_isZero_18 (by decide) (fun c_2 => ?_) (fun c_2 => ?_)
    · refine lv_iconst (v := 0) hx hb dX2_isZero_25 (by decide) ?_
      exact W.zret (v := (0 : Int32)) hx hb hr (by rfl) (fun t ht hW => ⟨congrArg (fun z => Outcome.returned (some (Value.int z))) (by unfold f_X2_isZero; rw [if_neg c_1, if_neg c_2]), ht⟩) (fun _ h => nomatch h) dX2_isZero_26
    · refine lv_iconst (v := 1) hx hb dX2_isZero_21 (by decide) ?_
      refine lv_goto (tgt := 26) hx hb dX2_isZero_22 (by decide) ?_
      exact W.zret (v := (1 : Int32)) hx hb hr (by rfl) (fun t ht hW => ⟨congrArg (fun z => Outcome.returned (some (Value.int z))) (by unfold f_X2_isZero; rw [if_neg c_1, if_pos c_2]), ht⟩) (fun _ h => nomatch h) dX2_isZero_26
  · refine lv_ldc2 (v := 2147483647) hx hb hown (hts (.constantLong RX2 55 2147483647) (by decide +kernel)) dX2_isZero_6 ?_
    refine lv_goto (tgt := 15) hx hb dX2_isZero_9 (by decide) ?_
    refine lv_land hx hb dX2_isZero_15 ?_
    refine lv_lconst (v := 0) hx hb dX2_isZero_16 (by decide) ?_
    refine W.lcmp hx hb dX2_isZero_17 ?_
    refine lv_if_ne (tgt := 25) hx hb dX2_isZero_18 (by decide) (fun c_3 => ?_) (fun c_3 => ?_)
    · refine lv_iconst (v := 0) hx hb dX2_isZero_25 (by decide) ?_
      exact W.zret (v := (0 : Int32)) hx hb hr (by rfl) (fun t ht hW => ⟨congrArg (fun z => Outcome.returned (some (Value.int z))) (by unfold f_X2_isZero; rw [if_pos c_1, if_neg c_3]), ht⟩) (fun _ h => nomatch h) dX2_isZero_26
    · refine lv_iconst (v := 1) hx hb dX2_isZero_21 (by decide) ?_
      refine lv_goto (tgt := 26) hx hb dX2_isZero_22 (by decide) ?_
      exact W.zret (v := (1 : Int32)) hx hb hr (by rfl) (fun t ht hW => ⟨congrArg (fun z => Outcome.returned (some (Value.int z))) (by unfold f_X2_isZero; rw [if_pos c_1, if_pos c_3]), ht⟩) (fun _ h => nomatch h) dX2_isZero_26
def f_X2_has (a0 : Int32) (a1 : Int32) : Int32 := (if a1 < 0 then (0 : Int32) else (if (2 : Int32) ≤ a0 then (if a0 = (2 : Int32) then (if (4 : Int32) < a1 then (0 : Int32) else (1 : Int32)) else (if (7 : Int32) < a1 then (0 : Int32) else (1 : Int32))) else (if (2 : Int32) < a1 then (0 : Int32) else (1 : Int32))))
set_option maxHeartbeats 4000000 in
set_option maxRecDepth 100000 in
theorem c_X2_has (l : Launch) (H0 : Heap) (a0 : Int32) (a1 : Int32) : pu l yX2_has wsX2_has ({ frames := 0, cells := 0, slots := 0, locals := 0 }) [.int a0, .int a1] (fun _ => True) H0 (some (.int (f_X2_has a0 a1))) := by
  refine Met.ofW (cc := cX2_has) (maxL := 2) (ret := (some .boolean)) (by decide) rfl ?_
  intro p e s m args below meth c s₁ B hml hv
  obtain ⟨rfl, hH, -⟩ := hv
  have hx := B.exec
  have hb := B.bytes
  have hr := B.returns
  have hts := atoms_spec (ws := wsX2_has) B.pre
  have hown : s.vm.findClass RX2 = some m.cls := findClass_of_methodNamed B.named
  have hlocks := B.notSynchronized
  subst hH
  have hl := lv_entry ([.int a0, .int a1]) (n := 2) (Nat.le_of_ble_eq_true rfl)
  rw [lg_entry_eq]
  generalize (lg_sl ([.int a0, .int a1]) ++ List.replicate (2 - (lg_sl ([.int a0, .int a1])).length) Slot.unset).toArray = ls at hl ⊢
  have hl : lv_has ls 2 [(0, .int a0), (1, .int a1)] := hl
  refine lv_iload_n hx hb dX2_has_0 rfl (lv_at hl 1 rfl) ?_
  refine lv_if_lt (tgt := 32) hx hb dX2_has_1 (by decide) (fun c_1 => ?_) (fun c_1 => ?_)
  · refine lv_iconst (v := 0) hx hb dX2_has_32 (by decide) ?_
    exact W.zret (v := (0 : Int32)) hx hb hr (by rfl) (fun t ht hW => ⟨congrArg (fun z => Outcome.returned (some (Value.int z))) (by unfold f_X2_has; rw [if_pos c_1]), ht⟩) (fun _ h => nomatch h) dX2_has_33
  · refine lv_iload_n hx hb dX2_has_4 rfl (lv_at hl 1 rfl) ?_
    refine lv_iload_n hx hb dX2_has_5 rfl (lv_at hl 0 rfl) ?_
    refine lv_iconst (v := 2) hx hb dX2_has_6 (by decide) ?_
    refine lv_icmp_ge (tgt := 14) hx hb dX2_has_7 (by decide) (fun c_2 => ?_) (fun c_2 => ?_)
    · refine lv_iload_n hx hb dX2_has_14 rfl (lv_at hl 0 rfl) ?_
      refine lv_iconst (v := 2) hx hb dX2_has_15 (by decide) ?_
      refine lv_icmp_ne (tgt := 23) hx hb dX2_has_16 (by decide) (fun c_3 => ?_) (fun c_3 => ?_)
      · refine lv_bipush (v := 7) hx hb dX2_has_23 (by decide) ?_
        refine lv_icmp_gt (tgt := 32) hx hb dX2_has_25 (by decide) (fun c_4 => ?_) (fun c_4 => ?_)
        · refine lv_iconst (v := 0) hx hb dX2_has_32 (by decide) ?_
          exact W.zret (v := (0 : Int32)) hx hb hr (by rfl) (fun t ht hW => ⟨congrArg (fun z => Outcome.returned (some (Value.int z))) (by unfold f_X2_has; rw [if_neg c_1, if_pos c_2, if_neg c_3, if_pos c_4]), ht⟩) (fun _ h => nomatch h) dX2_has_33
        · refine lv_iconst (v := 1) hx hb dX2_has_28 (by decide) ?_
          refine lv_goto (tgt := 33) hx hb dX2_has_29 (by decide) ?_
          exact W.zret (v := (1 : Int32)) hx hb hr (by rfl) (fun t ht hW => ⟨congrArg (fun z => Outcome.returned (some (Value.int z))) (by unfold f_X2_has; rw [if_neg c_1, if_pos c_2, if_neg c_3, if_neg c_4]), ht⟩) (fun _ h => nomatch h) dX2_has_33
      · refine lv_iconst (v := 4) hx hb dX2_has_19 (by decide) ?_
        refine lv_goto (tgt := 25) hx hb dX2_has_20 (by decide) ?_
        refine lv_icmp_gt (tgt := 32) hx hb dX2_has_25 (by decide) (fun c_5 => ?_) (fun c_5 => ?_)
        · refine lv_iconst (v := 0) hx hb dX2_has_32 (by decide) ?_
          exact W.zret (v := (0 : Int32)) hx hb hr (by rfl) (fun t ht hW => ⟨congrArg (fun z => Outcome.returned (some (Value.int z))) (by unfold f_X2_has; rw [if_neg c_1, if_pos c_2, if_pos c_3, if_pos c_5]), ht⟩) (fun _ h => nomatch h) dX2_has_33
        · refine lv_iconst (v := 1) hx hb dX2_has_28 (by decide) ?_
          refine lv_goto (tgt := 33) hx hb dX2_has_29 (by decide) ?_
          exact W.zret (v := (1 : Int32)) hx hb hr (by rfl) (fun t ht hW => ⟨congrArg (fun z => Outcome.returned (some (Value.int z))) (by unfold f_X2_has; rw [if_neg c_1, if_pos c_2, if_pos c_3, if_neg c_5]), ht⟩) (fun _ h => nomatch h) dX2_has_33
    · refine lv_iconst (v := 2) hx hb dX2_has_10 (by decide) ?_
      refine lv_goto (tgt := 25) hx hb dX2_has_11 (by decide) ?_
      refine lv_icmp_gt (tgt := 32) hx hb dX2_has_25 (by decide) (fun c_6 => ?_) (fun c_6 => ?_)
      · refine lv_iconst (v := 0) hx hb dX2_has_32 (by decide) ?_
        exact W.zret (v := (0 : Int32)) hx hb hr (by rfl) (fun t ht hW => ⟨congrArg (fun z => Outcome.returned (some (Value.int z))) (by unfold f_X2_has; rw [if_neg c_1, if_neg c_2, if_pos c_6]), ht⟩) (fun _ h => nomatch h) dX2_has_33
      · refine lv_iconst (v := 1) hx hb dX2_has_28 (by decide) ?_
        refine lv_goto (tgt := 33) hx hb dX2_has_29 (by decide) ?_
        exact W.zret (v := (1 : Int32)) hx hb hr (by rfl) (fun t ht hW => ⟨congrArg (fun z => Outcome.returned (some (Value.int z))) (by unfold f_X2_has; rw [if_neg c_1, if_neg c_2, if_neg c_6]), ht⟩) (fun _ h => nomatch h) dX2_has_33
def f_X2_wants (a0 : Int32) : Int32 := (if a0 = (1 : Int32) then (1 : Int32) else (if a0 = (2 : Int32) then (1 : Int32) else (if a0 = (4 : Int32) then (1 : Int32) else (0 : Int32))))
set_option maxHeartbeats 4000000 in
set_option maxRecDepth 100000 in
theorem c_X2_wants (l : Launch) (H0 : Heap) (a0 : Int32) : pu l yX2_wants wsX2_wants ({ frames := 0, cells := 0, slots := 0, locals := 0 }) [.int a0] (fun _ => True) H0 (some (.int (f_X2_wants a0))) := by
  refine Met.ofW (cc := cX2_wants) (maxL := 1) (ret := (some .boolean)) (by decide) rfl ?_
  intro p e s m args below meth c s₁ B hml hv
  obtain ⟨rfl, hH, -⟩ := hv
  have hx := B.exec
  have hb := B.bytes
  have hr := B.returns
  have hts := atoms_spec (ws := wsX2_wants) B.pre
  have hown : s.vm.findClass RX2 = some m.cls := findClass_of_methodNamed B.named
  have hlocks := B.notSynchronized
  subst hH
  have hl := lv_entry ([.int a0]) (n := 1) (Nat.le_of_ble_eq_true rfl)
  rw [lg_entry_eq]
  generalize (lg_sl ([.int a0]) ++ List.replicate (1 - (lg_sl ([.int a0])).length) Slot.unset).toArray = ls at hl ⊢
  have hl : lv_has ls 1 [(0, .int a0)] := hl
  refine lv_iload_n hx hb dX2_wants_0 rfl (lv_at hl 0 rfl) ?_
  refine lv_iconst (v := 1) hx hb dX2_wants_1 (by decide) ?_
  refine lv_icmp_eq (tgt := 15) hx hb dX2_wants_2 (by decide) (fun c_1 => ?_) (fun c_1 => ?_)
  · refine lv_iconst (v := 1) hx hb dX2_wants_15 (by decide) ?_
    refine lv_goto (tgt := 20) hx hb dX2_wants_16 (by decide) ?_
    exact W.zret (v := (1 : Int32)) hx hb hr (by rfl) (fun t ht hW => ⟨congrArg (fun z => Outcome.returned (some (Value.int z))) (by unfold f_X2_wants; rw [if_pos c_1]), ht⟩) (fun _ h => nomatch h) dX2_wants_20
  · refine lv_iload_n hx hb dX2_wants_5 rfl (lv_at hl 0 rfl) ?_
    refine lv_iconst (v := 2) hx hb dX2_wants_6 (by decide) ?_
    refine lv_icmp_eq (tgt := 15) hx hb dX2_wants_7 (by decide) (fun c_2 => ?_) (fun c_2 => ?_)
    · refine lv_iconst (v := 1) hx hb dX2_wants_15 (by decide) ?_
      refine lv_goto (tgt := 20) hx hb dX2_wants_16 (by decide) ?_
      exact W.zret (v := (1 : Int32)) hx hb hr (by rfl) (fun t ht hW => ⟨congrArg (fun z => Outcome.returned (some (Value.int z))) (by unfold f_X2_wants; rw [if_neg c_1, if_pos c_2]), ht⟩) (fun _ h => nomatch h) dX2_wants_20
    · refine lv_iload_n hx hb dX2_wants_10 rfl (lv_at hl 0 rfl) ?_
      refine lv_iconst (v := 4) hx hb dX2_wants_11 (by decide) ?_
      refine lv_icmp_ne (tgt := 19) hx hb dX2_wants_12 (by decide) (fun c_3 => ?_) (fun c_3 => ?_)
      · refine lv_iconst (v := 0) hx hb dX2_wants_19 (by decide) ?_
        exact W.zret (v := (0 : Int32)) hx hb hr (by rfl) (fun t ht hW => ⟨congrArg (fun z => Outcome.returned (some (Value.int z))) (by unfold f_X2_wants; rw [if_neg c_1, if_neg c_2, if_neg c_3]), ht⟩) (fun _ h => nomatch h) dX2_wants_20
      · refine lv_iconst (v := 1) hx hb dX2_wants_15 (by decide) ?_
        refine lv_goto (tgt := 20) hx hb dX2_wants_16 (by decide) ?_
        exact W.zret (v := (1 : Int32)) hx hb hr (by rfl) (fun t ht hW => ⟨congrArg (fun z => Outcome.returned (some (Value.int z))) (by unfold f_X2_wants; rw [if_neg c_1, if_neg c_2, if_pos c_3]), ht⟩) (fun _ h => nomatch h) dX2_wants_20
def f_X2_sizeOf (a0 : Int64) (a1 : Int32) : Int64 := (if a1 = 0 then (if 0 ≤ (lg_cmp a0 (0 : Int64)) then a0 else (if (lg_cmp a0 (-2147483648 : Int64)) = 0 then a0 else -a0)) else (if a1 = 1 then (if 0 ≤ (lg_cmp a0 (0 : Int64)) then a0 else -a0) else (if a1 = 2 then a0 &&& (2147483647 : Int64) else a0 &&& (9223372036854775807 : Int64))))
set_option maxHeartbeats 4000000 in
set_option maxRecDepth 100000 in
theorem c_X2_sizeOf (l : Launch) (H0 : Heap) (a0 : Int64) (a1 : Int32) : pu l yX2_sizeOf wsX2_sizeOf ({ frames := 0, cells := 0, slots := 0, locals := 0 }) [.long a0, .int a1] (fun _ => True) H0 (some (.long (f_X2_sizeOf a0 a1))) := by
  refine Met.ofW (cc := cX2_sizeOf) (maxL := 3) (ret := (some .long)) (by decide) rfl ?_
  intro p e s m args below meth c s₁ B hml hv
  obtain ⟨rfl, hH, -⟩ := hv
  have hx := B.exec
  have hb := B.bytes
  have hr := B.returns
  have hts := atoms_spec (ws := wsX2_sizeOf) B.pre
  have hown : s.vm.findClass RX2 = some m.cls := findClass_of_methodNamed B.named
  have hlocks := B.notSynchronized
  subst hH
  have hl := lv_entry ([.long a0, .int a1]) (n := 3) (Nat.le_of_ble_eq_true rfl)
  rw [lg_entry_eq]
  generalize (lg_sl ([.long a0, .int a1]) ++ List.replicate (3 - (lg_sl ([.long a0, .int a1])).length) Slot.unset).toArray = ls at hl ⊢
  have hl : lv_has ls 3 [(0, .long a0), (2, .int a1)] := hl
  refine lv_iload_n hx hb dX2_sizeOf_0 rfl (lv_at hl 1 rfl) ?_
  by_cases c_1 : a1 = 0
  · refine lv_tableIn (off := 27) (tgt := 28) hx hb dX2_sizeOf_1 (by rw [c_1]; decide) (by rw [c_1]; decide) (by rw [c_1]; decide) (by decide) ?_
    refine lv_lload_n hx hb dX2_sizeOf_28 rfl (lv_at hl 0 rfl) ?_
    refine lv_lconst (v := 0) hx hb dX2_sizeOf_29 (by decide) ?_
    refine W.lcmp hx hb dX2_sizeOf_30 ?_
    refine lv_if_ge (tgt := 47) hx hb dX2_sizeOf_31 (by decide) (fun c_2 => ?_) (fun c_2 => ?_)
    · refine lv_lload_n hx hb dX2_sizeOf_47 rfl (lv_at hl 0 rfl) ?_
      exact W.lret (v := a0) hx hb hr (fun t ht hW => ⟨congrArg (fun z => Outcome.returned (some (Value.long z))) (by unfold f_X2_sizeOf; rw [if_pos c_1, if_pos c_2]), ht⟩) (fun _ h => nomatch h) dX2_sizeOf_48
    · refine lv_lload_n hx hb dX2_sizeOf_34 rfl (lv_at hl 0 rfl) ?_
      refine lv_ldc2 (v := (-2147483648)) hx hb hown (hts (.constantLong RX2 63 (-2147483648)) (by decide +kernel)) dX2_sizeOf_35 ?_
      refine W.lcmp hx hb dX2_sizeOf_38 ?_
      refine lv_if_eq (tgt := 47) hx hb dX2_sizeOf_39 (by decide) (fun c_3 => ?_) (fun c_3 => ?_)
      · refine lv_lload_n hx hb dX2_sizeOf_47 rfl (lv_at hl 0 rfl) ?_
        exact W.lret (v := a0) hx hb hr (fun t ht hW => ⟨congrArg (fun z => Outcome.returned (some (Value.long z))) (by unfold f_X2_sizeOf; rw [if_pos c_1, if_neg c_2, if_pos c_3]), ht⟩) (fun _ h => nomatch h) dX2_sizeOf_48
      · refine lv_lload_n hx hb dX2_sizeOf_42 rfl (lv_at hl 0 rfl) ?_
        refine lv_lneg hx hb dX2_sizeOf_43 ?_
        refine lv_goto (tgt := 48) hx hb dX2_sizeOf_44 (by decide) ?_
        exact W.lret (v := -a0) hx hb hr (fun t ht hW => ⟨congrArg (fun z => Outcome.returned (some (Value.long z))) (by unfold f_X2_sizeOf; rw [if_pos c_1, if_neg c_2, if_neg c_3]), ht⟩) (fun _ h => nomatch h) dX2_sizeOf_48
  by_cases c_4 : a1 = 1
  · refine lv_tableIn (off := 48) (tgt := 49) hx hb dX2_sizeOf_1 (by rw [c_4]; decide) (by rw [c_4]; decide) (by rw [c_4]; decide) (by decide) ?_
    refine lv_lload_n hx hb dX2_sizeOf_49 rfl (lv_at hl 0 rfl) ?_
    refine lv_lconst (v := 0) hx hb dX2_sizeOf_50 (by decide) ?_
    refine W.lcmp hx hb dX2_sizeOf_51 ?_
    refine lv_if_ge (tgt := 60) hx hb dX2_sizeOf_52 (by decide) (fun c_5 => ?_) (fun c_5 => ?_)
    · refine lv_lload_n hx hb dX2_sizeOf_60 rfl (lv_at hl 0 rfl) ?_
      exact W.lret (v := a0) hx hb hr (fun t ht hW => ⟨congrArg (fun z => Outcome.returned (some (Value.long z))) (by unfold f_X2_sizeOf; rw [if_neg c_1, if_pos c_4, if_pos c_5]), ht⟩) (fun _ h => nomatch h) dX2_sizeOf_61
    · refine lv_lload_n hx hb dX2_sizeOf_55 rfl (lv_at hl 0 rfl) ?_
      refine lv_lneg hx hb dX2_sizeOf_56 ?_
      refine lv_goto (tgt := 61) hx hb dX2_sizeOf_57 (by decide) ?_
      exact W.lret (v := -a0) hx hb hr (fun t ht hW => ⟨congrArg (fun z => Outcome.returned (some (Value.long z))) (by unfold f_X2_sizeOf; rw [if_neg c_1, if_pos c_4, if_neg c_5]), ht⟩) (fun _ h => nomatch h) dX2_sizeOf_61
  by_cases c_6 : a1 = 2
  · refine lv_tableIn (off := 61) (tgt := 62) hx hb dX2_sizeOf_1 (by rw [c_6]; decide) (by rw [c_6]; decide) (by rw [c_6]; decide) (by decide) ?_
    refine lv_lload_n hx hb dX2_sizeOf_62 rfl (lv_at hl 0 rfl) ?_
    refine lv_ldc2 (v := 2147483647) hx hb hown (hts (.constantLong RX2 55 2147483647) (by decide +kernel)) dX2_sizeOf_63 ?_
    refine lv_land hx hb dX2_sizeOf_66 ?_
    exact W.lret (v := a0 &&& (2147483647 : Int64)) hx hb hr (fun t ht hW => ⟨congrArg (fun z => Outcome.returned (some (Value.long z))) (by unfold f_X2_sizeOf; rw [if_neg c_1, if_neg c_4, if_pos c_6]), ht⟩) (fun _ h => nomatch h) dX2_sizeOf_67
  have h_sw : a1.toInt < 0 ∨ 2 < a1.toInt := by
    have n0 := lv_neT (k := 0) (a := 0) c_1 (by decide)
    have n1 := lv_neT (k := 1) (a := 1) c_4 (by decide)
    have n2 := lv_neT (k := 2) (a := 2) c_6 (by decide)
    omega
  refine lv_tableOut (tgt := 68) hx hb dX2_sizeOf_1 h_sw (by decide) ?_
  refine lv_lload_n hx hb dX2_sizeOf_68 rfl (lv_at hl 0 rfl) ?_
  refine lv_ldc2 (v := 9223372036854775807) hx hb hown (hts (.constantLong RX2 59 9223372036854775807) (by decide +kernel)) dX2_sizeOf_69 ?_
  refine lv_land hx hb dX2_sizeOf_72 ?_
  exact W.lret (v := a0 &&& (9223372036854775807 : Int64)) hx hb hr (fun t ht hW => ⟨congrArg (fun z => Outcome.returned (some (Value.long z))) (by unfold f_X2_sizeOf; rw [if_neg c_1, if_neg c_4, if_neg c_6]), ht⟩) (fun _ h => nomatch h) dX2_sizeOf_73
def f_X2_shown (a0 : Int64) (a1 : Int32) : Int64 := (if (f_X2_isZero a0 a1) = 0 then (if a1 = (2 : Int32) then (if 0 ≤ (lg_cmp a0 (0 : Int64)) then (1065353216 : Int64) else (-1082130432 : Int64)) else (if 0 ≤ (lg_cmp a0 (0 : Int64)) then (4607182418800017408 : Int64) else (-4616189618054758400 : Int64))) else a0)
set_option maxHeartbeats 4000000 in
set_option maxRecDepth 100000 in
theorem c_X2_shown (l : Launch) (H0 : Heap) (a0 : Int64) (a1 : Int32) : pu l yX2_shown wsX2_shown ({ frames := 1, cells := 0, slots := 0, locals := 22 }) [.long a0, .int a1] (fun _ => True) H0 (some (.long (f_X2_shown a0 a1))) := by
  refine Met.ofW (cc := cX2_shown) (maxL := 3) (ret := (some .long)) (by decide) rfl ?_
  intro p e s m args below meth c s₁ B hml hv
  obtain ⟨rfl, hH, -⟩ := hv
  have hx := B.exec
  have hb := B.bytes
  have hr := B.returns
  have hts := atoms_spec (ws := wsX2_shown) B.pre
  have hown : s.vm.findClass RX2 = some m.cls := findClass_of_methodNamed B.named
  have hlocks := B.notSynchronized
  subst hH
  have hl := lv_entry ([.long a0, .int a1]) (n := 3) (Nat.le_of_ble_eq_true rfl)
  rw [lg_entry_eq]
  generalize (lg_sl ([.long a0, .int a1]) ++ List.replicate (3 - (lg_sl ([.long a0, .int a1])).length) Slot.unset).toArray = ls at hl ⊢
  have hl : lv_has ls 3 [(0, .long a0), (2, .int a1)] := hl
  refine lv_lload_n hx hb dX2_shown_0 rfl (lv_at hl 0 rfl) ?_
  refine lv_iload_n hx hb dX2_shown_1 rfl (lv_at hl 1 rfl) ?_
  refine pu_S (As := [.long a0, .int a1]) (rest := []) ⟨hx, hb, hml, hown, hts⟩ (c_X2_isZero l s.heap a0 a1) puK_T trivial (va_cwS 2 hts gX2_shown_X2_isZero rfl rfl rfl (by decide +kernel) ⟨Nat.le_of_ble_eq_true rfl, Nat.le_of_ble_eq_true rfl⟩) rfl hl.1 rfl (Nat.le_of_ble_eq_true rfl) dX2_shown_2 ⟨Nat.zero_le _, Nat.zero_le _⟩ ?_
  refine W.eq (g2 := F0 m 5 ls [.int (f_X2_isZero a0 a1)]) rfl ?_
  refine lv_if_eq (tgt := 10) hx hb dX2_shown_5 (by decide) (fun c_1 => ?_) (fun c_1 => ?_)
  · refine lv_iload_n hx hb dX2_shown_10 rfl (lv_at hl 1 rfl) ?_
    refine lv_iconst (v := 2) hx hb dX2_shown_11 (by decide) ?_
    refine lv_icmp_ne (tgt := 31) hx hb dX2_shown_12 (by decide) (fun c_2 => ?_) (fun c_2 => ?_)
    · refine lv_lload_n hx hb dX2_shown_31 rfl (lv_at hl 0 rfl) ?_
      refine lv_lconst (v := 0) hx hb dX2_shown_32 (by decide) ?_
      refine W.lcmp hx hb dX2_shown_33 ?_
      refine lv_if_ge (tgt := 43) hx hb dX2_shown_34 (by decide) (fun c_3 => ?_) (fun c_3 => ?_)
      · refine lv_ldc2 (v := 4607182418800017408) hx hb hown (hts (.constantLong RX2 82 4607182418800017408) (by decide +kernel)) dX2_shown_43 ?_
        exact W.lret (v := (4607182418800017408 : Int64)) hx hb hr (fun t ht hW => ⟨congrArg (fun z => Outcome.returned (some (Value.long z))) (by unfold f_X2_shown; rw [if_pos c_1, if_neg c_2, if_pos c_3]), ht⟩) (fun _ h => nomatch h) dX2_shown_46
      · refine lv_ldc2 (v := (-4616189618054758400)) hx hb hown (hts (.constantLong RX2 80 (-4616189618054758400)) (by decide +kernel)) dX2_shown_37 ?_
        refine lv_goto (tgt := 46) hx hb dX2_shown_40 (by decide) ?_
        exact W.lret (v := (-4616189618054758400 : Int64)) hx hb hr (fun t ht hW => ⟨congrArg (fun z => Outcome.returned (some (Value.long z))) (by unfold f_X2_shown; rw [if_pos c_1, if_neg c_2, if_neg c_3]), ht⟩) (fun _ h => nomatch h) dX2_shown_46
    · refine lv_lload_n hx hb dX2_shown_15 rfl (lv_at hl 0 rfl) ?_
      refine lv_lconst (v := 0) hx hb dX2_shown_16 (by decide) ?_
      refine W.lcmp hx hb dX2_shown_17 ?_
      refine lv_if_ge (tgt := 27) hx hb dX2_shown_18 (by decide) (fun c_4 => ?_) (fun c_4 => ?_)
      · refine lv_ldc2 (v := 1065353216) hx hb hown (hts (.constantLong RX2 78 1065353216) (by decide +kernel)) dX2_shown_27 ?_
        exact W.lret (v := (1065353216 : Int64)) hx hb hr (fun t ht hW => ⟨congrArg (fun z => Outcome.returned (some (Value.long z))) (by unfold f_X2_shown; rw [if_pos c_1, if_pos c_2, if_pos c_4]), ht⟩) (fun _ h => nomatch h) dX2_shown_30
      · refine lv_ldc2 (v := (-1082130432)) hx hb hown (hts (.constantLong RX2 76 (-1082130432)) (by decide +kernel)) dX2_shown_21 ?_
        refine lv_goto (tgt := 30) hx hb dX2_shown_24 (by decide) ?_
        exact W.lret (v := (-1082130432 : Int64)) hx hb hr (fun t ht hW => ⟨congrArg (fun z => Outcome.returned (some (Value.long z))) (by unfold f_X2_shown; rw [if_pos c_1, if_pos c_2, if_neg c_4]), ht⟩) (fun _ h => nomatch h) dX2_shown_30
  · refine lv_lload_n hx hb dX2_shown_8 rfl (lv_at hl 0 rfl) ?_
    exact W.lret (v := a0) hx hb hr (fun t ht hW => ⟨congrArg (fun z => Outcome.returned (some (Value.long z))) (by unfold f_X2_shown; rw [if_neg c_1]), ht⟩) (fun _ h => nomatch h) dX2_shown_9
def f_X2_like (a0 : Int64) (a1 : Int64) (a2 : Int32) : Int64 := (if (lg_cmp a1 (0 : Int64)) < 0 then (if a2 = (2 : Int32) then (f_X2_sizeOf a0 a2) - (2147483648 : Int64) else (f_X2_sizeOf a0 a2) ||| (-9223372036854775808 : Int64)) else f_X2_sizeOf a0 a2)
set_option maxHeartbeats 4000000 in
set_option maxRecDepth 100000 in
theorem c_X2_like (l : Launch) (H0 : Heap) (a0 : Int64) (a1 : Int64) (a2 : Int32) : pu l yX2_like wsX2_like ({ frames := 1, cells := 0, slots := 0, locals := 22 }) [.long a0, .long a1, .int a2] (fun _ => True) H0 (some (.long (f_X2_like a0 a1 a2))) := by
  refine Met.ofW (cc := cX2_like) (maxL := 7) (ret := (some .long)) (by decide) rfl ?_
  intro p e s m args below meth c s₁ B hml hv
  obtain ⟨rfl, hH, -⟩ := hv
  have hx := B.exec
  have hb := B.bytes
  have hr := B.returns
  have hts := atoms_spec (ws := wsX2_like) B.pre
  have hown : s.vm.findClass RX2 = some m.cls := findClass_of_methodNamed B.named
  have hlocks := B.notSynchronized
  subst hH
  have hl := lv_entry ([.long a0, .long a1, .int a2]) (n := 7) (Nat.le_of_ble_eq_true rfl)
  rw [lg_entry_eq]
  generalize (lg_sl ([.long a0, .long a1, .int a2]) ++ List.replicate (7 - (lg_sl ([.long a0, .long a1, .int a2])).length) Slot.unset).toArray = ls at hl ⊢
  have hl : lv_has ls 7 [(0, .long a0), (2, .long a1), (4, .int a2)] := hl
  refine lv_lload_n hx hb dX2_like_0 rfl (lv_at hl 0 rfl) ?_
  refine lv_iload hx hb dX2_like_1 (lv_at hl 2 rfl) ?_
  refine pu_S (As := [.long a0, .int a2]) (rest := []) ⟨hx, hb, hml, hown, hts⟩ (c_X2_sizeOf l s.heap a0 a2) puK_T trivial (va_cwS 2 hts gX2_like_X2_sizeOf rfl rfl rfl (by decide +kernel) ⟨Nat.le_of_ble_eq_true rfl, Nat.le_of_ble_eq_true rfl⟩) rfl hl.1 rfl (Nat.le_of_ble_eq_true rfl) dX2_like_3 ⟨Nat.zero_le _, Nat.zero_le _⟩ ?_
  refine W.eq (g2 := F0 m 6 ls [.long (f_X2_sizeOf a0 a2)]) rfl ?_
  refine lv_lstore (lv' := [(5, .long (f_X2_sizeOf a0 a2)), (0, .long a0), (2, .long a1), (4, .int a2)]) hx hb dX2_like_6 hl (by decide) rfl (fun ls hl => ?_)
  refine lv_lload_n hx hb dX2_like_8 rfl (lv_at hl 2 rfl) ?_
  refine lv_lconst (v := 0) hx hb dX2_like_9 (by decide) ?_
  refine W.lcmp hx hb dX2_like_10 ?_
  refine lv_if_lt (tgt := 17) hx hb dX2_like_11 (by decide) (fun c_1 => ?_) (fun c_1 => ?_)
  · refine lv_iload hx hb dX2_like_17 (lv_at hl 3 rfl) ?_
    refine lv_iconst (v := 2) hx hb dX2_like_19 (by decide) ?_
    refine lv_icmp_ne (tgt := 32) hx hb dX2_like_20 (by decide) (fun c_2 => ?_) (fun c_2 => ?_)
    · refine lv_lload hx hb dX2_like_32 (lv_at hl 0 rfl) ?_
      refine lv_ldc2 (v := (-9223372036854775808)) hx hb hown (hts (.constantLong RX2 89 (-9223372036854775808)) (by decide +kernel)) dX2_like_34 ?_
      refine lv_lor hx hb dX2_like_37 ?_
      exact W.lret (v := (f_X2_sizeOf a0 a2) ||| (-9223372036854775808 : Int64)) hx hb hr (fun t ht hW => ⟨congrArg (fun z => Outcome.returned (some (Value.long z))) (by unfold f_X2_like; rw [if_pos c_1, if_neg c_2]), ht⟩) (fun _ h => nomatch h) dX2_like_38
    · refine lv_lload hx hb dX2_like_23 (lv_at hl 0 rfl) ?_
      refine lv_ldc2 (v := 2147483648) hx hb hown (hts (.constantLong RX2 87 2147483648) (by decide +kernel)) dX2_like_25 ?_
      refine lv_lsub hx hb dX2_like_28 ?_
      refine lv_goto (tgt := 38) hx hb dX2_like_29 (by decide) ?_
      exact W.lret (v := (f_X2_sizeOf a0 a2) - (2147483648 : Int64)) hx hb hr (fun t ht hW => ⟨congrArg (fun z => Outcome.returned (some (Value.long z))) (by unfold f_X2_like; rw [if_pos c_1, if_pos c_2]), ht⟩) (fun _ h => nomatch h) dX2_like_38
  · refine lv_lload hx hb dX2_like_14 (lv_at hl 0 rfl) ?_
    exact W.lret (v := f_X2_sizeOf a0 a2) hx hb hr (fun t ht hW => ⟨congrArg (fun z => Outcome.returned (some (Value.long z))) (by unfold f_X2_like; rw [if_neg c_1]), ht⟩) (fun _ h => nomatch h) dX2_like_16
def f_X2_wholeOf (a0 : Int64) (a1 : Int32) : Int64 := (if 0 ≤ (lg_cmp a0 (0 : Int64)) then (if (lg_cmp (a0 &&& (9223372036854775807 : Int64)) (0 : Int64)) = 0 then a0 else (if ((((a0 &&& (9223372036854775807 : Int64)) >>> ((52 : Int32).toInt64 &&& 63)).toInt32) - (1023 : Int32)) < (52 : Int32) then (if 0 ≤ ((((a0 &&& (9223372036854775807 : Int64)) >>> ((52 : Int32).toInt64 &&& 63)).toInt32) - (1023 : Int32)) then (if (lg_cmp ((a0 &&& (9223372036854775807 : Int64)) &&& (((1 : Int64) <<< (((52 : Int32) - ((((a0 &&& (9223372036854775807 : Int64)) >>> ((52 : Int32).toInt64 &&& 63)).toInt32) - (1023 : Int32))).toInt64 &&& 63)) - (1 : Int64))) (0 : Int64)) = 0 then a0 else (if (lg_cmp (((a0 &&& (9223372036854775807 : Int64)) - ((a0 &&& (9223372036854775807 : Int64)) &&& (((1 : Int64) <<< (((52 : Int32) - ((((a0 &&& (9223372036854775807 : Int64)) >>> ((52 : Int32).toInt64 &&& 63)).toInt32) - (1023 : Int32))).toInt64 &&& 63)) - (1 : Int64)))) &&& ((1 : Int64) <<< (((52 : Int32) - ((((a0 &&& (9223372036854775807 : Int64)) >>> ((52 : Int32).toInt64 &&& 63)).toInt32) - (1023 : Int32))).toInt64 &&& 63))) (0 : Int64)) = 0 then (if a1 = (5 : Int32) then (0 : Int64) ||| ((a0 &&& (9223372036854775807 : Int64)) - ((a0 &&& (9223372036854775807 : Int64)) &&& (((1 : Int64) <<< (((52 : Int32) - ((((a0 &&& (9223372036854775807 : Int64)) >>> ((52 : Int32).toInt64 &&& 63)).toInt32) - (1023 : Int32))).toInt64 &&& 63)) - (1 : Int64)))) else (if a1 = (6 : Int32) then (0 : Int64) ||| (((a0 &&& (9223372036854775807 : Int64)) - ((a0 &&& (9223372036854775807 : Int64)) &&& (((1 : Int64) <<< (((52 : Int32) - ((((a0 &&& (9223372036854775807 : Int64)) >>> ((52 : Int32).toInt64 &&& 63)).toInt32) - (1023 : Int32))).toInt64 &&& 63)) - (1 : Int64)))) + ((1 : Int64) <<< (((52 : Int32) - ((((a0 &&& (9223372036854775807 : Int64)) >>> ((52 : Int32).toInt64 &&& 63)).toInt32) - (1023 : Int32))).toInt64 &&& 63))) else (if 0 < (lg_cmp ((a0 &&& (9223372036854775807 : Int64)) &&& (((1 : Int64) <<< (((52 : Int32) - ((((a0 &&& (9223372036854775807 : Int64)) >>> ((52 : Int32).toInt64 &&& 63)).toInt32) - (1023 : Int32))).toInt64 &&& 63)) - (1 : Int64))) (((1 : Int64) <<< (((52 : Int32) - ((((a0 &&& (9223372036854775807 : Int64)) >>> ((52 : Int32).toInt64 &&& 63)).toInt32) - (1023 : Int32))).toInt64 &&& 63)) / (2 : Int64))) then (0 : Int64) ||| (((a0 &&& (9223372036854775807 : Int64)) - ((a0 &&& (9223372036854775807 : Int64)) &&& (((1 : Int64) <<< (((52 : Int32) - ((((a0 &&& (9223372036854775807 : Int64)) >>> ((52 : Int32).toInt64 &&& 63)).toInt32) - (1023 : Int32))).toInt64 &&& 63)) - (1 : Int64)))) + ((1 : Int64) <<< (((52 : Int32) - ((((a0 &&& (9223372036854775807 : Int64)) >>> ((52 : Int32).toInt64 &&& 63)).toInt32) - (1023 : Int32))).toInt64 &&& 63))) else (if (lg_cmp ((a0 &&& (9223372036854775807 : Int64)) &&& (((1 : Int64) <<< (((52 : Int32) - ((((a0 &&& (9223372036854775807 : Int64)) >>> ((52 : Int32).toInt64 &&& 63)).toInt32) - (1023 : Int32))).toInt64 &&& 63)) - (1 : Int64))) (((1 : Int64) <<< (((52 : Int32) - ((((a0 &&& (9223372036854775807 : Int64)) >>> ((52 : Int32).toInt64 &&& 63)).toInt32) - (1023 : Int32))).toInt64 &&& 63)) / (2 : Int64))) = 0 then (0 : Int64) ||| ((a0 &&& (9223372036854775807 : Int64)) - ((a0 &&& (9223372036854775807 : Int64)) &&& (((1 : Int64) <<< (((52 : Int32) - ((((a0 &&& (9223372036854775807 : Int64)) >>> ((52 : Int32).toInt64 &&& 63)).toInt32) - (1023 : Int32))).toInt64 &&& 63)) - (1 : Int64)))) else (0 : Int64) ||| ((a0 &&& (9223372036854775807 : Int64)) - ((a0 &&& (9223372036854775807 : Int64)) &&& (((1 : Int64) <<< (((52 : Int32) - ((((a0 &&& (9223372036854775807 : Int64)) >>> ((52 : Int32).toInt64 &&& 63)).toInt32) - (1023 : Int32))).toInt64 &&& 63)) - (1 : Int64)))))))) else (if a1 = (5 : Int32) then (0 : Int64) ||| ((a0 &&& (9223372036854775807 : Int64)) - ((a0 &&& (9223372036854775807 : Int64)) &&& (((1 : Int64) <<< (((52 : Int32) - ((((a0 &&& (9223372036854775807 : Int64)) >>> ((52 : Int32).toInt64 &&& 63)).toInt32) - (1023 : Int32))).toInt64 &&& 63)) - (1 : Int64)))) else (if a1 = (6 : Int32) then (0 : Int64) ||| (((a0 &&& (9223372036854775807 : Int64)) - ((a0 &&& (9223372036854775807 : Int64)) &&& (((1 : Int64) <<< (((52 : Int32) - ((((a0 &&& (9223372036854775807 : Int64)) >>> ((52 : Int32).toInt64 &&& 63)).toInt32) - (1023 : Int32))).toInt64 &&& 63)) - (1 : Int64)))) + ((1 : Int64) <<< (((52 : Int32) - ((((a0 &&& (9223372036854775807 : Int64)) >>> ((52 : Int32).toInt64 &&& 63)).toInt32) - (1023 : Int32))).toInt64 &&& 63))) else (if 0 < (lg_cmp ((a0 &&& (9223372036854775807 : Int64)) &&& (((1 : Int64) <<< (((52 : Int32) - ((((a0 &&& (9223372036854775807 : Int64)) >>> ((52 : Int32).toInt64 &&& 63)).toInt32) - (1023 : Int32))).toInt64 &&& 63)) - (1 : Int64))) (((1 : Int64) <<< (((52 : Int32) - ((((a0 &&& (9223372036854775807 : Int64)) >>> ((52 : Int32).toInt64 &&& 63)).toInt32) - (1023 : Int32))).toInt64 &&& 63)) / (2 : Int64))) then (0 : Int64) ||| (((a0 &&& (9223372036854775807 : Int64)) - ((a0 &&& (9223372036854775807 : Int64)) &&& (((1 : Int64) <<< (((52 : Int32) - ((((a0 &&& (9223372036854775807 : Int64)) >>> ((52 : Int32).toInt64 &&& 63)).toInt32) - (1023 : Int32))).toInt64 &&& 63)) - (1 : Int64)))) + ((1 : Int64) <<< (((52 : Int32) - ((((a0 &&& (9223372036854775807 : Int64)) >>> ((52 : Int32).toInt64 &&& 63)).toInt32) - (1023 : Int32))).toInt64 &&& 63))) else (if (lg_cmp ((a0 &&& (9223372036854775807 : Int64)) &&& (((1 : Int64) <<< (((52 : Int32) - ((((a0 &&& (9223372036854775807 : Int64)) >>> ((52 : Int32).toInt64 &&& 63)).toInt32) - (1023 : Int32))).toInt64 &&& 63)) - (1 : Int64))) (((1 : Int64) <<< (((52 : Int32) - ((((a0 &&& (9223372036854775807 : Int64)) >>> ((52 : Int32).toInt64 &&& 63)).toInt32) - (1023 : Int32))).toInt64 &&& 63)) / (2 : Int64))) = 0 then (0 : Int64) ||| (((a0 &&& (9223372036854775807 : Int64)) - ((a0 &&& (9223372036854775807 : Int64)) &&& (((1 : Int64) <<< (((52 : Int32) - ((((a0 &&& (9223372036854775807 : Int64)) >>> ((52 : Int32).toInt64 &&& 63)).toInt32) - (1023 : Int32))).toInt64 &&& 63)) - (1 : Int64)))) + ((1 : Int64) <<< (((52 : Int32) - ((((a0 &&& (9223372036854775807 : Int64)) >>> ((52 : Int32).toInt64 &&& 63)).toInt32) - (1023 : Int32))).toInt64 &&& 63))) else (0 : Int64) ||| ((a0 &&& (9223372036854775807 : Int64)) - ((a0 &&& (9223372036854775807 : Int64)) &&& (((1 : Int64) <<< (((52 : Int32) - ((((a0 &&& (9223372036854775807 : Int64)) >>> ((52 : Int32).toInt64 &&& 63)).toInt32) - (1023 : Int32))).toInt64 &&& 63)) - (1 : Int64)))))))))) else (if a1 = (5 : Int32) then (0 : Int64) else (if a1 = (6 : Int32) then (0 : Int64) ||| (4607182418800017408 : Int64) else (if (lg_cmp (a0 &&& (9223372036854775807 : Int64)) (4602678819172646912 : Int64)) ≤ 0 then (0 : Int64) else (0 : Int64) ||| (4607182418800017408 : Int64))))) else a0)) else (if (lg_cmp (a0 &&& (9223372036854775807 : Int64)) (0 : Int64)) = 0 then a0 else (if ((((a0 &&& (9223372036854775807 : Int64)) >>> ((52 : Int32).toInt64 &&& 63)).toInt32) - (1023 : Int32)) < (52 : Int32) then (if 0 ≤ ((((a0 &&& (9223372036854775807 : Int64)) >>> ((52 : Int32).toInt64 &&& 63)).toInt32) - (1023 : Int32)) then (if (lg_cmp ((a0 &&& (9223372036854775807 : Int64)) &&& (((1 : Int64) <<< (((52 : Int32) - ((((a0 &&& (9223372036854775807 : Int64)) >>> ((52 : Int32).toInt64 &&& 63)).toInt32) - (1023 : Int32))).toInt64 &&& 63)) - (1 : Int64))) (0 : Int64)) = 0 then a0 else (if (lg_cmp (((a0 &&& (9223372036854775807 : Int64)) - ((a0 &&& (9223372036854775807 : Int64)) &&& (((1 : Int64) <<< (((52 : Int32) - ((((a0 &&& (9223372036854775807 : Int64)) >>> ((52 : Int32).toInt64 &&& 63)).toInt32) - (1023 : Int32))).toInt64 &&& 63)) - (1 : Int64)))) &&& ((1 : Int64) <<< (((52 : Int32) - ((((a0 &&& (9223372036854775807 : Int64)) >>> ((52 : Int32).toInt64 &&& 63)).toInt32) - (1023 : Int32))).toInt64 &&& 63))) (0 : Int64)) = 0 then (if a1 = (5 : Int32) then (-9223372036854775808 : Int64) ||| (((a0 &&& (9223372036854775807 : Int64)) - ((a0 &&& (9223372036854775807 : Int64)) &&& (((1 : Int64) <<< (((52 : Int32) - ((((a0 &&& (9223372036854775807 : Int64)) >>> ((52 : Int32).toInt64 &&& 63)).toInt32) - (1023 : Int32))).toInt64 &&& 63)) - (1 : Int64)))) + ((1 : Int64) <<< (((52 : Int32) - ((((a0 &&& (9223372036854775807 : Int64)) >>> ((52 : Int32).toInt64 &&& 63)).toInt32) - (1023 : Int32))).toInt64 &&& 63))) else (if a1 = (6 : Int32) then (-9223372036854775808 : Int64) ||| ((a0 &&& (9223372036854775807 : Int64)) - ((a0 &&& (9223372036854775807 : Int64)) &&& (((1 : Int64) <<< (((52 : Int32) - ((((a0 &&& (9223372036854775807 : Int64)) >>> ((52 : Int32).toInt64 &&& 63)).toInt32) - (1023 : Int32))).toInt64 &&& 63)) - (1 : Int64)))) else (if 0 < (lg_cmp ((a0 &&& (9223372036854775807 : Int64)) &&& (((1 : Int64) <<< (((52 : Int32) - ((((a0 &&& (9223372036854775807 : Int64)) >>> ((52 : Int32).toInt64 &&& 63)).toInt32) - (1023 : Int32))).toInt64 &&& 63)) - (1 : Int64))) (((1 : Int64) <<< (((52 : Int32) - ((((a0 &&& (9223372036854775807 : Int64)) >>> ((52 : Int32).toInt64 &&& 63)).toInt32) - (1023 : Int32))).toInt64 &&& 63)) / (2 : Int64))) then (-9223372036854775808 : Int64) ||| (((a0 &&& (9223372036854775807 : Int64)) - ((a0 &&& (9223372036854775807 : Int64)) &&& (((1 : Int64) <<< (((52 : Int32) - ((((a0 &&& (9223372036854775807 : Int64)) >>> ((52 : Int32).toInt64 &&& 63)).toInt32) - (1023 : Int32))).toInt64 &&& 63)) - (1 : Int64)))) + ((1 : Int64) <<< (((52 : Int32) - ((((a0 &&& (9223372036854775807 : Int64)) >>> ((52 : Int32).toInt64 &&& 63)).toInt32) - (1023 : Int32))).toInt64 &&& 63))) else (if (lg_cmp ((a0 &&& (9223372036854775807 : Int64)) &&& (((1 : Int64) <<< (((52 : Int32) - ((((a0 &&& (9223372036854775807 : Int64)) >>> ((52 : Int32).toInt64 &&& 63)).toInt32) - (1023 : Int32))).toInt64 &&& 63)) - (1 : Int64))) (((1 : Int64) <<< (((52 : Int32) - ((((a0 &&& (9223372036854775807 : Int64)) >>> ((52 : Int32).toInt64 &&& 63)).toInt32) - (1023 : Int32))).toInt64 &&& 63)) / (2 : Int64))) = 0 then (-9223372036854775808 : Int64) ||| ((a0 &&& (9223372036854775807 : Int64)) - ((a0 &&& (9223372036854775807 : Int64)) &&& (((1 : Int64) <<< (((52 : Int32) - ((((a0 &&& (9223372036854775807 : Int64)) >>> ((52 : Int32).toInt64 &&& 63)).toInt32) - (1023 : Int32))).toInt64 &&& 63)) - (1 : Int64)))) else (-9223372036854775808 : Int64) ||| ((a0 &&& (9223372036854775807 : Int64)) - ((a0 &&& (9223372036854775807 : Int64)) &&& (((1 : Int64) <<< (((52 : Int32) - ((((a0 &&& (9223372036854775807 : Int64)) >>> ((52 : Int32).toInt64 &&& 63)).toInt32) - (1023 : Int32))).toInt64 &&& 63)) - (1 : Int64)))))))) else (if a1 = (5 : Int32) then (-9223372036854775808 : Int64) ||| (((a0 &&& (9223372036854775807 : Int64)) - ((a0 &&& (9223372036854775807 : Int64)) &&& (((1 : Int64) <<< (((52 : Int32) - ((((a0 &&& (9223372036854775807 : Int64)) >>> ((52 : Int32).toInt64 &&& 63)).toInt32) - (1023 : Int32))).toInt64 &&& 63)) - (1 : Int64)))) + ((1 : Int64) <<< (((52 : Int32) - ((((a0 &&& (9223372036854775807 : Int64)) >>> ((52 : Int32).toInt64 &&& 63)).toInt32) - (1023 : Int32))).toInt64 &&& 63))) else (if a1 = (6 : Int32) then (-9223372036854775808 : Int64) ||| ((a0 &&& (9223372036854775807 : Int64)) - ((a0 &&& (9223372036854775807 : Int64)) &&& (((1 : Int64) <<< (((52 : Int32) - ((((a0 &&& (9223372036854775807 : Int64)) >>> ((52 : Int32).toInt64 &&& 63)).toInt32) - (1023 : Int32))).toInt64 &&& 63)) - (1 : Int64)))) else (if 0 < (lg_cmp ((a0 &&& (9223372036854775807 : Int64)) &&& (((1 : Int64) <<< (((52 : Int32) - ((((a0 &&& (9223372036854775807 : Int64)) >>> ((52 : Int32).toInt64 &&& 63)).toInt32) - (1023 : Int32))).toInt64 &&& 63)) - (1 : Int64))) (((1 : Int64) <<< (((52 : Int32) - ((((a0 &&& (9223372036854775807 : Int64)) >>> ((52 : Int32).toInt64 &&& 63)).toInt32) - (1023 : Int32))).toInt64 &&& 63)) / (2 : Int64))) then (-9223372036854775808 : Int64) ||| (((a0 &&& (9223372036854775807 : Int64)) - ((a0 &&& (9223372036854775807 : Int64)) &&& (((1 : Int64) <<< (((52 : Int32) - ((((a0 &&& (9223372036854775807 : Int64)) >>> ((52 : Int32).toInt64 &&& 63)).toInt32) - (1023 : Int32))).toInt64 &&& 63)) - (1 : Int64)))) + ((1 : Int64) <<< (((52 : Int32) - ((((a0 &&& (9223372036854775807 : Int64)) >>> ((52 : Int32).toInt64 &&& 63)).toInt32) - (1023 : Int32))).toInt64 &&& 63))) else (if (lg_cmp ((a0 &&& (9223372036854775807 : Int64)) &&& (((1 : Int64) <<< (((52 : Int32) - ((((a0 &&& (9223372036854775807 : Int64)) >>> ((52 : Int32).toInt64 &&& 63)).toInt32) - (1023 : Int32))).toInt64 &&& 63)) - (1 : Int64))) (((1 : Int64) <<< (((52 : Int32) - ((((a0 &&& (9223372036854775807 : Int64)) >>> ((52 : Int32).toInt64 &&& 63)).toInt32) - (1023 : Int32))).toInt64 &&& 63)) / (2 : Int64))) = 0 then (-9223372036854775808 : Int64) ||| (((a0 &&& (9223372036854775807 : Int64)) - ((a0 &&& (9223372036854775807 : Int64)) &&& (((1 : Int64) <<< (((52 : Int32) - ((((a0 &&& (9223372036854775807 : Int64)) >>> ((52 : Int32).toInt64 &&& 63)).toInt32) - (1023 : Int32))).toInt64 &&& 63)) - (1 : Int64)))) + ((1 : Int64) <<< (((52 : Int32) - ((((a0 &&& (9223372036854775807 : Int64)) >>> ((52 : Int32).toInt64 &&& 63)).toInt32) - (1023 : Int32))).toInt64 &&& 63))) else (-9223372036854775808 : Int64) ||| ((a0 &&& (9223372036854775807 : Int64)) - ((a0 &&& (9223372036854775807 : Int64)) &&& (((1 : Int64) <<< (((52 : Int32) - ((((a0 &&& (9223372036854775807 : Int64)) >>> ((52 : Int32).toInt64 &&& 63)).toInt32) - (1023 : Int32))).toInt64 &&& 63)) - (1 : Int64)))))))))) else (if a1 = (5 : Int32) then (-9223372036854775808 : Int64) ||| (4607182418800017408 : Int64) else (if a1 = (6 : Int32) then (-9223372036854775808 : Int64) else (if (lg_cmp (a0 &&& (9223372036854775807 : Int64)) (4602678819172646912 : Int64)) ≤ 0 then (-9223372036854775808 : Int64) else (-9223372036854775808 : Int64) ||| (4607182418800017408 : Int64))))) else a0)))
set_option maxHeartbeats 4000000 in
set_option maxRecDepth 100000 in
theorem c_X2_wholeOf (l : Launch) (H0 : Heap) (a0 : Int64) (a1 : Int32) : pu l yX2_wholeOf wsX2_wholeOf ({ frames := 0, cells := 0, slots := 0, locals := 0 }) [.long a0, .int a1] (fun _ => True) H0 (some (.long (f_X2_wholeOf a0 a1))) := by
  refine Met.ofW (cc := cX2_wholeOf) (maxL := 17) (ret := (some .long)) (by decide) rfl ?_
  intro p e s m args below meth c s₁ B hml hv
  obtain ⟨rfl, hH, -⟩ := hv
  have hx := B.exec
  have hb := B.bytes
  have hr := B.returns
  have hts := atoms_spec (ws := wsX2_wholeOf) B.pre
  have hown : s.vm.findClass RX2 = some m.cls := findClass_of_methodNamed B.named
  have hlocks := B.notSynchronized
  subst hH
  have hl := lv_entry ([.long a0, .int a1]) (n := 17) (Nat.le_of_ble_eq_true rfl)
  rw [lg_entry_eq]
  generalize (lg_sl ([.long a0, .int a1]) ++ List.replicate (17 - (lg_sl ([.long a0, .int a1])).length) Slot.unset).toArray = ls at hl ⊢
  have hl : lv_has ls 17 [(0, .long a0), (2, .int a1)] := hl
  refine lv_lload_n hx hb dX2_wholeOf_0 rfl (lv_at hl 0 rfl) ?_
  refine lv_lconst (v := 0) hx hb dX2_wholeOf_1 (by decide) ?_
  refine W.lcmp hx hb dX2_wholeOf_2 ?_
  refine lv_if_ge (tgt := 10) hx hb dX2_wholeOf_3 (by decide) (fun c_1 => ?_) (fun c_1 => ?_)
  · refine lv_iconst (v := 0) hx hb dX2_wholeOf_10 (by decide) ?_
    refine lv_istore_n (lv' := [(3, .int (0 : Int32)), (0, .long a0), (2, .int a1)]) hx hb dX2_wholeOf_11 rfl hl (by decide) rfl (fun ls hl => ?_)
    refine lv_lload_n hx hb dX2_wholeOf_12 rfl (lv_at hl 1 rfl) ?_
    refine lv_ldc2 (v := 9223372036854775807) hx hb hown (hts (.constantLong RX2 59 9223372036854775807) (by decide +kernel)) dX2_wholeOf_13 ?_
    refine lv_land hx hb dX2_wholeOf_16 ?_
    refine lv_lstore (lv' := [(4, .long (a0 &&& (9223372036854775807 : Int64))), (3, .int (0 : Int32)), (0, .long a0), (2, .int a1)]) hx hb dX2_wholeOf_17 hl (by decide) rfl (fun ls hl => ?_)
    refine lv_lload hx hb dX2_wholeOf_19 (lv_at hl 0 rfl) ?_
    refine lv_bipush (v := 52) hx hb dX2_wholeOf_21 (by decide) ?_
    refine lv_lshr hx hb dX2_wholeOf_23 rfl ?_
    refine lv_l2i hx hb dX2_wholeOf_24 rfl ?_
    refine lv_sipush (v := 1023) hx hb dX2_wholeOf_25 (by decide) ?_
    refine lv_isub hx hb dX2_wholeOf_28 ?_
    refine lv_istore (lv' := [(6, .int ((((a0 &&& (9223372036854775807 : Int64)) >>> ((52 : Int32).toInt64 &&& 63)).toInt32) - (1023 : Int32))), (4, .long (a0 &&& (9223372036854775807 : Int64))), (3, .int (0 : Int32)), (0, .long a0), (2, .int a1)]) hx hb dX2_wholeOf_29 hl (by decide) rfl (fun ls hl => ?_)
    refine lv_lload hx hb dX2_wholeOf_31 (lv_at hl 1 rfl) ?_
    refine lv_lconst (v := 0) hx hb dX2_wholeOf_33 (by decide) ?_
    refine W.lcmp hx hb dX2_wholeOf_34 ?_
    refine lv_if_eq (tgt := 45) hx hb dX2_wholeOf_35 (by decide) (fun c_2 => ?_) (fun c_2 => ?_)
    · refine lv_lload_n hx hb dX2_wholeOf_45 rfl (lv_at hl 3 rfl) ?_
      exact W.lret (v := a0) hx hb hr (fun t ht hW => ⟨congrArg (fun z => Outcome.returned (some (Value.long z))) (by unfold f_X2_wholeOf; rw [if_pos c_1, if_pos c_2]), ht⟩) (fun _ h => nomatch h) dX2_wholeOf_46
    · refine lv_iload hx hb dX2_wholeOf_38 (lv_at hl 0 rfl) ?_
      refine lv_bipush (v := 52) hx hb dX2_wholeOf_40 (by decide) ?_
      refine lv_icmp_lt (tgt := 47) hx hb dX2_wholeOf_42 (by decide) (fun c_3 => ?_) (fun c_3 => ?_)
      · refine lv_iload_n hx hb dX2_wholeOf_47 rfl (lv_at hl 2 rfl) ?_
        refine lv_if_eq (tgt := 57) hx hb dX2_wholeOf_48 (by decide) (fun z_9 => ?_) (fun z_9 => absurd z_9 (by decide))
        refine lv_lconst (v := 0) hx hb dX2_wholeOf_57 (by decide) ?_
        refine lv_lstore (lv' := [(7, .long (0 : Int64)), (6, .int ((((a0 &&& (9223372036854775807 : Int64)) >>> ((52 : Int32).toInt64 &&& 63)).toInt32) - (1023 : Int32))), (4, .long (a0 &&& (9223372036854775807 : Int64))), (3, .int (0 : Int32)), (0, .long a0), (2, .int a1)]) hx hb dX2_wholeOf_58 hl (by decide) rfl (fun ls hl => ?_)
        refine lv_iload hx hb dX2_wholeOf_60 (lv_at hl 1 rfl) ?_
        refine lv_if_ge (tgt := 125) hx hb dX2_wholeOf_62 (by decide) (fun c_4 => ?_) (fun c_4 => ?_)
        · refine lv_lconst (v := 1) hx hb dX2_wholeOf_125 (by decide) ?_
          refine lv_bipush (v := 52) hx hb dX2_wholeOf_126 (by decide) ?_
          refine lv_iload hx hb dX2_wholeOf_128 (lv_at hl 1 rfl) ?_
          refine lv_isub hx hb dX2_wholeOf_130 ?_
          refine lv_lshl hx hb dX2_wholeOf_131 rfl ?_
          refine lv_lstore (lv' := [(9, .long ((1 : Int64) <<< (((52 : Int32) - ((((a0 &&& (9223372036854775807 : Int64)) >>> ((52 : Int32).toInt64 &&& 63)).toInt32) - (1023 : Int32))).toInt64 &&& 63))), (7, .long (0 : Int64)), (6, .int ((((a0 &&& (9223372036854775807 : Int64)) >>> ((52 : Int32).toInt64 &&& 63)).toInt32) - (1023 : Int32))), (4, .long (a0 &&& (9223372036854775807 : Int64))), (3, .int (0 : Int32)), (0, .long a0), (2, .int a1)]) hx hb dX2_wholeOf_132 hl (by decide) rfl (fun ls hl => ?_)
          refine lv_lload hx hb dX2_wholeOf_134 (lv_at hl 3 rfl) ?_
          refine lv_lload hx hb dX2_wholeOf_136 (lv_at hl 0 rfl) ?_
          refine lv_lconst (v := 1) hx hb dX2_wholeOf_138 (by decide) ?_
          refine lv_lsub hx hb dX2_wholeOf_139 ?_
          refine lv_land hx hb dX2_wholeOf_140 ?_
          refine lv_lstore (lv' := [(11, .long ((a0 &&& (9223372036854775807 : Int64)) &&& (((1 : Int64) <<< (((52 : Int32) - ((((a0 &&& (9223372036854775807 : Int64)) >>> ((52 : Int32).toInt64 &&& 63)).toInt32) - (1023 : Int32))).toInt64 &&& 63)) - (1 : Int64)))), (9, .long ((1 : Int64) <<< (((52 : Int32) - ((((a0 &&& (9223372036854775807 : Int64)) >>> ((52 : Int32).toInt64 &&& 63)).toInt32) - (1023 : Int32))).toInt64 &&& 63))), (7, .long (0 : Int64)), (6, .int ((((a0 &&& (9223372036854775807 : Int64)) >>> ((52 : Int32).toInt64 &&& 63)).toInt32) - (1023 : Int32))), (4, .long (a0 &&& (9223372036854775807 : Int64))), (3, .int (0 : Int32)), (0, .long a0), (2, .int a1)]) hx hb dX2_wholeOf_141 hl (by decide) rfl (fun ls hl => ?_)
          refine lv_lload hx hb dX2_wholeOf_143 (lv_at hl 0 rfl) ?_
          refine lv_lconst (v := 0) hx hb dX2_wholeOf_145 (by decide) ?_
          refine W.lcmp hx hb dX2_wholeOf_146 ?_
          refine lv_if_ne (tgt := 152) hx hb dX2_wholeOf_147 (by decide) (fun c_5 => ?_) (fun c_5 => ?_)
          · refine lv_lload hx hb dX2_wholeOf_152 (lv_at hl 4 rfl) ?_
            refine lv_lload hx hb dX2_wholeOf_154 (lv_at hl 0 rfl) ?_
            refine lv_lsub hx hb dX2_wholeOf_156 ?_
            refine lv_lstore (lv' := [(13, .long ((a0 &&& (9223372036854775807 : Int64)) - ((a0 &&& (9223372036854775807 : Int64)) &&& (((1 : Int64) <<< (((52 : Int32) - ((((a0 &&& (9223372036854775807 : Int64)) >>> ((52 : Int32).toInt64 &&& 63)).toInt32) - (1023 : Int32))).toInt64 &&& 63)) - (1 : Int64))))), (11, .long ((a0 &&& (9223372036854775807 : Int64)) &&& (((1 : Int64) <<< (((52 : Int32) - ((((a0 &&& (9223372036854775807 : Int64)) >>> ((52 : Int32).toInt64 &&& 63)).toInt32) - (1023 : Int32))).toInt64 &&& 63)) - (1 : Int64)))), (9, .long ((1 : Int64) <<< (((52 : Int32) - ((((a0 &&& (9223372036854775807 : Int64)) >>> ((52 : Int32).toInt64 &&& 63)).toInt32) - (1023 : Int32))).toInt64 &&& 63))), (7, .long (0 : Int64)), (6, .int ((((a0 &&& (9223372036854775807 : Int64)) >>> ((52 : Int32).toInt64 &&& 63)).toInt32) - (1023 : Int32))), (4, .long (a0 &&& (9223372036854775807 : Int64))), (3, .int (0 : Int32)), (0, .long a0), (2, .int a1)]) hx hb dX2_wholeOf_157 hl (by decide) rfl (fun ls hl => ?_)
            refine lv_lload hx hb dX2_wholeOf_159 (lv_at hl 0 rfl) ?_
            refine lv_lload hx hb dX2_wholeOf_161 (lv_at hl 2 rfl) ?_
            refine lv_land hx hb dX2_wholeOf_163 ?_
            refine lv_lconst (v := 0) hx hb dX2_wholeOf_164 (by decide) ?_
            refine W.lcmp hx hb dX2_wholeOf_165 ?_
            refine lv_if_eq (tgt := 173) hx hb dX2_wholeOf_166 (by decide) (fun c_6 => ?_) (fun c_6 => ?_)
            · refine lv_iconst (v := 0) hx hb dX2_wholeOf_173 (by decide) ?_
              refine lv_istore (lv' := [(15, .int (0 : Int32)), (13, .long ((a0 &&& (9223372036854775807 : Int64)) - ((a0 &&& (9223372036854775807 : Int64)) &&& (((1 : Int64) <<< (((52 : Int32) - ((((a0 &&& (9223372036854775807 : Int64)) >>> ((52 : Int32).toInt64 &&& 63)).toInt32) - (1023 : Int32))).toInt64 &&& 63)) - (1 : Int64))))), (11, .long ((a0 &&& (9223372036854775807 : Int64)) &&& (((1 : Int64) <<< (((52 : Int32) - ((((a0 &&& (9223372036854775807 : Int64)) >>> ((52 : Int32).toInt64 &&& 63)).toInt32) - (1023 : Int32))).toInt64 &&& 63)) - (1 : Int64)))), (9, .long ((1 : Int64) <<< (((52 : Int32) - ((((a0 &&& (9223372036854775807 : Int64)) >>> ((52 : Int32).toInt64 &&& 63)).toInt32) - (1023 : Int32))).toInt64 &&& 63))), (7, .long (0 : Int64)), (6, .int ((((a0 &&& (9223372036854775807 : Int64)) >>> ((52 : Int32).toInt64 &&& 63)).toInt32) - (1023 : Int32))), (4, .long (a0 &&& (9223372036854775807 : Int64))), (3, .int (0 : Int32)), (0, .long a0), (2, .int a1)]) hx hb dX2_wholeOf_174 hl (by decide) rfl (fun ls hl => ?_)
              refine lv_iload_n hx hb dX2_wholeOf_176 rfl (lv_at hl 9 rfl) ?_
              refine lv_iconst (v := 5) hx hb dX2_wholeOf_177 (by decide) ?_
              refine lv_icmp_ne (tgt := 185) hx hb dX2_wholeOf_178 (by decide) (fun c_7 => ?_) (fun c_7 => ?_)
              · refine lv_iload_n hx hb dX2_wholeOf_185 rfl (lv_at hl 9 rfl) ?_
                refine lv_bipush (v := 6) hx hb dX2_wholeOf_186 (by decide) ?_
                refine lv_icmp_ne (tgt := 203) hx hb dX2_wholeOf_188 (by decide) (fun c_8 => ?_) (fun c_8 => ?_)
                · refine lv_lload hx hb dX2_wholeOf_203 (lv_at hl 2 rfl) ?_
                  refine lv_lload hx hb dX2_wholeOf_205 (lv_at hl 3 rfl) ?_
                  refine lv_ldc2 (v := 2) hx hb hown (hts (.constantLong RX2 93 2) (by decide +kernel)) dX2_wholeOf_207 ?_
                  refine lv_ldiv hx hb dX2_wholeOf_210 (by decide) ?_
                  refine W.lcmp hx hb dX2_wholeOf_211 ?_
                  refine lv_if_gt (tgt := 232) hx hb dX2_wholeOf_212 (by decide) (fun c_9 => ?_) (fun c_9 => ?_)
                  · refine lv_iconst (v := 1) hx hb dX2_wholeOf_232 (by decide) ?_
                    refine lv_goto (tgt := 237) hx hb dX2_wholeOf_233 (by decide) ?_
                    refine lv_istore (lv' := [(16, .int (1 : Int32)), (15, .int (0 : Int32)), (13, .long ((a0 &&& (9223372036854775807 : Int64)) - ((a0 &&& (9223372036854775807 : Int64)) &&& (((1 : Int64) <<< (((52 : Int32) - ((((a0 &&& (9223372036854775807 : Int64)) >>> ((52 : Int32).toInt64 &&& 63)).toInt32) - (1023 : Int32))).toInt64 &&& 63)) - (1 : Int64))))), (11, .long ((a0 &&& (9223372036854775807 : Int64)) &&& (((1 : Int64) <<< (((52 : Int32) - ((((a0 &&& (9223372036854775807 : Int64)) >>> ((52 : Int32).toInt64 &&& 63)).toInt32) - (1023 : Int32))).toInt64 &&& 63)) - (1 : Int64)))), (9, .long ((1 : Int64) <<< (((52 : Int32) - ((((a0 &&& (9223372036854775807 : Int64)) >>> ((52 : Int32).toInt64 &&& 63)).toInt32) - (1023 : Int32))).toInt64 &&& 63))), (7, .long (0 : Int64)), (6, .int ((((a0 &&& (9223372036854775807 : Int64)) >>> ((52 : Int32).toInt64 &&& 63)).toInt32) - (1023 : Int32))), (4, .long (a0 &&& (9223372036854775807 : Int64))), (3, .int (0 : Int32)), (0, .long a0), (2, .int a1)]) hx hb dX2_wholeOf_237 hl (by decide) rfl (fun ls hl => ?_)
                    refine lv_lload hx hb dX2_wholeOf_239 (lv_at hl 5 rfl) ?_
                    refine lv_iload hx hb dX2_wholeOf_241 (lv_at hl 0 rfl) ?_
                    refine lv_if_eq (tgt := 254) hx hb dX2_wholeOf_243 (by decide) (fun z_9 => absurd z_9 (by decide)) (fun z_9 => ?_)
                    refine lv_lload hx hb dX2_wholeOf_246 (lv_at hl 2 rfl) ?_
                    refine lv_lload hx hb dX2_wholeOf_248 (lv_at hl 4 rfl) ?_
                    refine lv_ladd hx hb dX2_wholeOf_250 ?_
                    refine lv_goto (tgt := 256) hx hb dX2_wholeOf_251 (by decide) ?_
                    refine lv_lor hx hb dX2_wholeOf_256 ?_
                    exact W.lret (v := (0 : Int64) ||| (((a0 &&& (9223372036854775807 : Int64)) - ((a0 &&& (9223372036854775807 : Int64)) &&& (((1 : Int64) <<< (((52 : Int32) - ((((a0 &&& (9223372036854775807 : Int64)) >>> ((52 : Int32).toInt64 &&& 63)).toInt32) - (1023 : Int32))).toInt64 &&& 63)) - (1 : Int64)))) + ((1 : Int64) <<< (((52 : Int32) - ((((a0 &&& (9223372036854775807 : Int64)) >>> ((52 : Int32).toInt64 &&& 63)).toInt32) - (1023 : Int32))).toInt64 &&& 63)))) hx hb hr (fun t ht hW => ⟨congrArg (fun z => Outcome.returned (some (Value.long z))) (by unfold f_X2_wholeOf; rw [if_pos c_1, if_neg c_2, if_pos c_3, if_pos c_4, if_neg c_5, if_pos c_6, if_neg c_7, if_neg c_8, if_pos c_9]), ht⟩) (fun _ h => nomatch h) dX2_wholeOf_257
                  · refine lv_lload hx hb dX2_wholeOf_215 (lv_at hl 2 rfl) ?_
                    refine lv_lload hx hb dX2_wholeOf_217 (lv_at hl 3 rfl) ?_
                    refine lv_ldc2 (v := 2) hx hb hown (hts (.constantLong RX2 93 2) (by decide +kernel)) dX2_wholeOf_219 ?_
                    refine lv_ldiv hx hb dX2_wholeOf_222 (by decide) ?_
                    refine W.lcmp hx hb dX2_wholeOf_223 ?_
                    refine lv_if_ne (tgt := 236) hx hb dX2_wholeOf_224 (by decide) (fun c_10 => ?_) (fun c_10 => ?_)
                    · refine lv_iconst (v := 0) hx hb dX2_wholeOf_236 (by decide) ?_
                      refine lv_istore (lv' := [(16, .int (0 : Int32)), (15, .int (0 : Int32)), (13, .long ((a0 &&& (9223372036854775807 : Int64)) - ((a0 &&& (9223372036854775807 : Int64)) &&& (((1 : Int64) <<< (((52 : Int32) - ((((a0 &&& (9223372036854775807 : Int64)) >>> ((52 : Int32).toInt64 &&& 63)).toInt32) - (1023 : Int32))).toInt64 &&& 63)) - (1 : Int64))))), (11, .long ((a0 &&& (9223372036854775807 : Int64)) &&& (((1 : Int64) <<< (((52 : Int32) - ((((a0 &&& (9223372036854775807 : Int64)) >>> ((52 : Int32).toInt64 &&& 63)).toInt32) - (1023 : Int32))).toInt64 &&& 63)) - (1 : Int64)))), (9, .long ((1 : Int64) <<< (((52 : Int32) - ((((a0 &&& (9223372036854775807 : Int64)) >>> ((52 : Int32).toInt64 &&& 63)).toInt32) - (1023 : Int32))).toInt64 &&& 63))), (7, .long (0 : Int64)), (6, .int ((((a0 &&& (9223372036854775807 : Int64)) >>> ((52 : Int32).toInt64 &&& 63)).toInt32) - (1023 : Int32))), (4, .long (a0 &&& (9223372036854775807 : Int64))), (3, .int (0 : Int32)), (0, .long a0), (2, .int a1)]) hx hb dX2_wholeOf_237 hl (by decide) rfl (fun ls hl => ?_)
                      refine lv_lload hx hb dX2_wholeOf_239 (lv_at hl 5 rfl) ?_
                      refine lv_iload hx hb dX2_wholeOf_241 (lv_at hl 0 rfl) ?_
                      refine lv_if_eq (tgt := 254) hx hb dX2_wholeOf_243 (by decide) (fun z_9 => ?_) (fun z_9 => absurd z_9 (by decide))
                      refine lv_lload hx hb dX2_wholeOf_254 (lv_at hl 2 rfl) ?_
                      refine lv_lor hx hb dX2_wholeOf_256 ?_
                      exact W.lret (v := (0 : Int64) ||| ((a0 &&& (9223372036854775807 : Int64)) - ((a0 &&& (9223372036854775807 : Int64)) &&& (((1 : Int64) <<< (((52 : Int32) - ((((a0 &&& (9223372036854775807 : Int64)) >>> ((52 : Int32).toInt64 &&& 63)).toInt32) - (1023 : Int32))).toInt64 &&& 63)) - (1 : Int64))))) hx hb hr (fun t ht hW => ⟨congrArg (fun z => Outcome.returned (some (Value.long z))) (by unfold f_X2_wholeOf; rw [if_pos c_1, if_neg c_2, if_pos c_3, if_pos c_4, if_neg c_5, if_pos c_6, if_neg c_7, if_neg c_8, if_neg c_9, if_neg c_10]), ht⟩) (fun _ h => nomatch h) dX2_wholeOf_257
                    · refine lv_iload hx hb dX2_wholeOf_227 (lv_at hl 0 rfl) ?_
                      refine lv_if_eq (tgt := 236) hx hb dX2_wholeOf_229 (by decide) (fun z_9 => ?_) (fun z_9 => absurd z_9 (by decide))
                      refine lv_iconst (v := 0) hx hb dX2_wholeOf_236 (by decide) ?_
                      refine lv_istore (lv' := [(16, .int (0 : Int32)), (15, .int (0 : Int32)), (13, .long ((a0 &&& (9223372036854775807 : Int64)) - ((a0 &&& (9223372036854775807 : Int64)) &&& (((1 : Int64) <<< (((52 : Int32) - ((((a0 &&& (9223372036854775807 : Int64)) >>> ((52 : Int32).toInt64 &&& 63)).toInt32) - (1023 : Int32))).toInt64 &&& 63)) - (1 : Int64))))), (11, .long ((a0 &&& (9223372036854775807 : Int64)) &&& (((1 : Int64) <<< (((52 : Int32) - ((((a0 &&& (9223372036854775807 : Int64)) >>> ((52 : Int32).toInt64 &&& 63)).toInt32) - (1023 : Int32))).toInt64 &&& 63)) - (1 : Int64)))), (9, .long ((1 : Int64) <<< (((52 : Int32) - ((((a0 &&& (9223372036854775807 : Int64)) >>> ((52 : Int32).toInt64 &&& 63)).toInt32) - (1023 : Int32))).toInt64 &&& 63))), (7, .long (0 : Int64)), (6, .int ((((a0 &&& (9223372036854775807 : Int64)) >>> ((52 : Int32).toInt64 &&& 63)).toInt32) - (1023 : Int32))), (4, .long (a0 &&& (9223372036854775807 : Int64))), (3, .int (0 : Int32)), (0, .long a0), (2, .int a1)]) hx hb dX2_wholeOf_237 hl (by decide) rfl (fun ls hl => ?_)
                      refine lv_lload hx hb dX2_wholeOf_239 (lv_at hl 5 rfl) ?_
                      refine lv_iload hx hb dX2_wholeOf_241 (lv_at hl 0 rfl) ?_
                      refine lv_if_eq (tgt := 254) hx hb dX2_wholeOf_243 (by decide) (fun z_9 => ?_) (fun z_9 => absurd z_9 (by decide))
                      refine lv_lload hx hb dX2_wholeOf_254 (lv_at hl 2 rfl) ?_
                      refine lv_lor hx hb dX2_wholeOf_256 ?_
                      exact W.lret (v := (0 : Int64) ||| ((a0 &&& (9223372036854775807 : Int64)) - ((a0 &&& (9223372036854775807 : Int64)) &&& (((1 : Int64) <<< (((52 : Int32) - ((((a0 &&& (9223372036854775807 : Int64)) >>> ((52 : Int32).toInt64 &&& 63)).toInt32) - (1023 : Int32))).toInt64 &&& 63)) - (1 : Int64))))) hx hb hr (fun t ht hW => ⟨congrArg (fun z => Outcome.returned (some (Value.long z))) (by unfold f_X2_wholeOf; rw [if_pos c_1, if_neg c_2, if_pos c_3, if_pos c_4, if_neg c_5, if_pos c_6, if_neg c_7, if_neg c_8, if_neg c_9, if_pos c_10]), ht⟩) (fun _ h => nomatch h) dX2_wholeOf_257
                · refine lv_iload_n hx hb dX2_wholeOf_191 rfl (lv_at hl 7 rfl) ?_
                  refine lv_if_ne (tgt := 199) hx hb dX2_wholeOf_192 (by decide) (fun z_9 => absurd z_9 (by decide)) (fun z_9 => ?_)
                  refine lv_iconst (v := 1) hx hb dX2_wholeOf_195 (by decide) ?_
                  refine lv_goto (tgt := 237) hx hb dX2_wholeOf_196 (by decide) ?_
                  refine lv_istore (lv' := [(16, .int (1 : Int32)), (15, .int (0 : Int32)), (13, .long ((a0 &&& (9223372036854775807 : Int64)) - ((a0 &&& (9223372036854775807 : Int64)) &&& (((1 : Int64) <<< (((52 : Int32) - ((((a0 &&& (9223372036854775807 : Int64)) >>> ((52 : Int32).toInt64 &&& 63)).toInt32) - (1023 : Int32))).toInt64 &&& 63)) - (1 : Int64))))), (11, .long ((a0 &&& (9223372036854775807 : Int64)) &&& (((1 : Int64) <<< (((52 : Int32) - ((((a0 &&& (9223372036854775807 : Int64)) >>> ((52 : Int32).toInt64 &&& 63)).toInt32) - (1023 : Int32))).toInt64 &&& 63)) - (1 : Int64)))), (9, .long ((1 : Int64) <<< (((52 : Int32) - ((((a0 &&& (9223372036854775807 : Int64)) >>> ((52 : Int32).toInt64 &&& 63)).toInt32) - (1023 : Int32))).toInt64 &&& 63))), (7, .long (0 : Int64)), (6, .int ((((a0 &&& (9223372036854775807 : Int64)) >>> ((52 : Int32).toInt64 &&& 63)).toInt32) - (1023 : Int32))), (4, .long (a0 &&& (9223372036854775807 : Int64))), (3, .int (0 : Int32)), (0, .long a0), (2, .int a1)]) hx hb dX2_wholeOf_237 hl (by decide) rfl (fun ls hl => ?_)
                  refine lv_lload hx hb dX2_wholeOf_239 (lv_at hl 5 rfl) ?_
                  refine lv_iload hx hb dX2_wholeOf_241 (lv_at hl 0 rfl) ?_
                  refine lv_if_eq (tgt := 254) hx hb dX2_wholeOf_243 (by decide) (fun z_9 => absurd z_9 (by decide)) (fun z_9 => ?_)
                  refine lv_lload hx hb dX2_wholeOf_246 (lv_at hl 2 rfl) ?_
                  refine lv_lload hx hb dX2_wholeOf_248 (lv_at hl 4 rfl) ?_
                  refine lv_ladd hx hb dX2_wholeOf_250 ?_
                  refine lv_goto (tgt := 256) hx hb dX2_wholeOf_251 (by decide) ?_
                  refine lv_lor hx hb dX2_wholeOf_256 ?_
                  exact W.lret (v := (0 : Int64) ||| (((a0 &&& (9223372036854775807 : Int64)) - ((a0 &&& (9223372036854775807 : Int64)) &&& (((1 : Int64) <<< (((52 : Int32) - ((((a0 &&& (9223372036854775807 : Int64)) >>> ((52 : Int32).toInt64 &&& 63)).toInt32) - (1023 : Int32))).toInt64 &&& 63)) - (1 : Int64)))) + ((1 : Int64) <<< (((52 : Int32) - ((((a0 &&& (9223372036854775807 : Int64)) >>> ((52 : Int32).toInt64 &&& 63)).toInt32) - (1023 : Int32))).toInt64 &&& 63)))) hx hb hr (fun t ht hW => ⟨congrArg (fun z => Outcome.returned (some (Value.long z))) (by unfold f_X2_wholeOf; rw [if_pos c_1, if_neg c_2, if_pos c_3, if_pos c_4, if_neg c_5, if_pos c_6, if_neg c_7, if_pos c_8]), ht⟩) (fun _ h => nomatch h) dX2_wholeOf_257
              · refine lv_iload_n hx hb dX2_wholeOf_181 rfl (lv_at hl 7 rfl) ?_
                refine lv_goto (tgt := 237) hx hb dX2_wholeOf_182 (by decide) ?_
                refine lv_istore (lv' := [(16, .int (0 : Int32)), (15, .int (0 : Int32)), (13, .long ((a0 &&& (9223372036854775807 : Int64)) - ((a0 &&& (9223372036854775807 : Int64)) &&& (((1 : Int64) <<< (((52 : Int32) - ((((a0 &&& (9223372036854775807 : Int64)) >>> ((52 : Int32).toInt64 &&& 63)).toInt32) - (1023 : Int32))).toInt64 &&& 63)) - (1 : Int64))))), (11, .long ((a0 &&& (9223372036854775807 : Int64)) &&& (((1 : Int64) <<< (((52 : Int32) - ((((a0 &&& (9223372036854775807 : Int64)) >>> ((52 : Int32).toInt64 &&& 63)).toInt32) - (1023 : Int32))).toInt64 &&& 63)) - (1 : Int64)))), (9, .long ((1 : Int64) <<< (((52 : Int32) - ((((a0 &&& (9223372036854775807 : Int64)) >>> ((52 : Int32).toInt64 &&& 63)).toInt32) - (1023 : Int32))).toInt64 &&& 63))), (7, .long (0 : Int64)), (6, .int ((((a0 &&& (9223372036854775807 : Int64)) >>> ((52 : Int32).toInt64 &&& 63)).toInt32) - (1023 : Int32))), (4, .long (a0 &&& (9223372036854775807 : Int64))), (3, .int (0 : Int32)), (0, .long a0), (2, .int a1)]) hx hb dX2_wholeOf_237 hl (by decide) rfl (fun ls hl => ?_)
                refine lv_lload hx hb dX2_wholeOf_239 (lv_at hl 5 rfl) ?_
                refine lv_iload hx hb dX2_wholeOf_241 (lv_at hl 0 rfl) ?_
                refine lv_if_eq (tgt := 254) hx hb dX2_wholeOf_243 (by decide) (fun z_9 => ?_) (fun z_9 => absurd z_9 (by decide))
                refine lv_lload hx hb dX2_wholeOf_254 (lv_at hl 2 rfl) ?_
                refine lv_lor hx hb dX2_wholeOf_256 ?_
                exact W.lret (v := (0 : Int64) ||| ((a0 &&& (9223372036854775807 : Int64)) - ((a0 &&& (9223372036854775807 : Int64)) &&& (((1 : Int64) <<< (((52 : Int32) - ((((a0 &&& (9223372036854775807 : Int64)) >>> ((52 : Int32).toInt64 &&& 63)).toInt32) - (1023 : Int32))).toInt64 &&& 63)) - (1 : Int64))))) hx hb hr (fun t ht hW => ⟨congrArg (fun z => Outcome.returned (some (Value.long z))) (by unfold f_X2_wholeOf; rw [if_pos c_1, if_neg c_2, if_pos c_3, if_pos c_4, if_neg c_5, if_pos c_6, if_pos c_7]), ht⟩) (fun _ h => nomatch h) dX2_wholeOf_257
            · refine lv_iconst (v := 1) hx hb dX2_wholeOf_169 (by decide) ?_
              refine lv_goto (tgt := 174) hx hb dX2_wholeOf_170 (by decide) ?_
              refine lv_istore (lv' := [(15, .int (1 : Int32)), (13, .long ((a0 &&& (9223372036854775807 : Int64)) - ((a0 &&& (9223372036854775807 : Int64)) &&& (((1 : Int64) <<< (((52 : Int32) - ((((a0 &&& (9223372036854775807 : Int64)) >>> ((52 : Int32).toInt64 &&& 63)).toInt32) - (1023 : Int32))).toInt64 &&& 63)) - (1 : Int64))))), (11, .long ((a0 &&& (9223372036854775807 : Int64)) &&& (((1 : Int64) <<< (((52 : Int32) - ((((a0 &&& (9223372036854775807 : Int64)) >>> ((52 : Int32).toInt64 &&& 63)).toInt32) - (1023 : Int32))).toInt64 &&& 63)) - (1 : Int64)))), (9, .long ((1 : Int64) <<< (((52 : Int32) - ((((a0 &&& (9223372036854775807 : Int64)) >>> ((52 : Int32).toInt64 &&& 63)).toInt32) - (1023 : Int32))).toInt64 &&& 63))), (7, .long (0 : Int64)), (6, .int ((((a0 &&& (9223372036854775807 : Int64)) >>> ((52 : Int32).toInt64 &&& 63)).toInt32) - (1023 : Int32))), (4, .long (a0 &&& (9223372036854775807 : Int64))), (3, .int (0 : Int32)), (0, .long a0), (2, .int a1)]) hx hb dX2_wholeOf_174 hl (by decide) rfl (fun ls hl => ?_)
              refine lv_iload_n hx hb dX2_wholeOf_176 rfl (lv_at hl 9 rfl) ?_
              refine lv_iconst (v := 5) hx hb dX2_wholeOf_177 (by decide) ?_
              refine lv_icmp_ne (tgt := 185) hx hb dX2_wholeOf_178 (by decide) (fun c_11 => ?_) (fun c_11 => ?_)
              · refine lv_iload_n hx hb dX2_wholeOf_185 rfl (lv_at hl 9 rfl) ?_
                refine lv_bipush (v := 6) hx hb dX2_wholeOf_186 (by decide) ?_
                refine lv_icmp_ne (tgt := 203) hx hb dX2_wholeOf_188 (by decide) (fun c_12 => ?_) (fun c_12 => ?_)
                · refine lv_lload hx hb dX2_wholeOf_203 (lv_at hl 2 rfl) ?_
                  refine lv_lload hx hb dX2_wholeOf_205 (lv_at hl 3 rfl) ?_
                  refine lv_ldc2 (v := 2) hx hb hown (hts (.constantLong RX2 93 2) (by decide +kernel)) dX2_wholeOf_207 ?_
                  refine lv_ldiv hx hb dX2_wholeOf_210 (by decide) ?_
                  refine W.lcmp hx hb dX2_wholeOf_211 ?_
                  refine lv_if_gt (tgt := 232) hx hb dX2_wholeOf_212 (by decide) (fun c_13 => ?_) (fun c_13 => ?_)
                  · refine lv_iconst (v := 1) hx hb dX2_wholeOf_232 (by decide) ?_
                    refine lv_goto (tgt := 237) hx hb dX2_wholeOf_233 (by decide) ?_
                    refine lv_istore (lv' := [(16, .int (1 : Int32)), (15, .int (1 : Int32)), (13, .long ((a0 &&& (9223372036854775807 : Int64)) - ((a0 &&& (9223372036854775807 : Int64)) &&& (((1 : Int64) <<< (((52 : Int32) - ((((a0 &&& (9223372036854775807 : Int64)) >>> ((52 : Int32).toInt64 &&& 63)).toInt32) - (1023 : Int32))).toInt64 &&& 63)) - (1 : Int64))))), (11, .long ((a0 &&& (9223372036854775807 : Int64)) &&& (((1 : Int64) <<< (((52 : Int32) - ((((a0 &&& (9223372036854775807 : Int64)) >>> ((52 : Int32).toInt64 &&& 63)).toInt32) - (1023 : Int32))).toInt64 &&& 63)) - (1 : Int64)))), (9, .long ((1 : Int64) <<< (((52 : Int32) - ((((a0 &&& (9223372036854775807 : Int64)) >>> ((52 : Int32).toInt64 &&& 63)).toInt32) - (1023 : Int32))).toInt64 &&& 63))), (7, .long (0 : Int64)), (6, .int ((((a0 &&& (9223372036854775807 : Int64)) >>> ((52 : Int32).toInt64 &&& 63)).toInt32) - (1023 : Int32))), (4, .long (a0 &&& (9223372036854775807 : Int64))), (3, .int (0 : Int32)), (0, .long a0), (2, .int a1)]) hx hb dX2_wholeOf_237 hl (by decide) rfl (fun ls hl => ?_)
                    refine lv_lload hx hb dX2_wholeOf_239 (lv_at hl 5 rfl) ?_
                    refine lv_iload hx hb dX2_wholeOf_241 (lv_at hl 0 rfl) ?_
                    refine lv_if_eq (tgt := 254) hx hb dX2_wholeOf_243 (by decide) (fun z_9 => absurd z_9 (by decide)) (fun z_9 => ?_)
                    refine lv_lload hx hb dX2_wholeOf_246 (lv_at hl 2 rfl) ?_
                    refine lv_lload hx hb dX2_wholeOf_248 (lv_at hl 4 rfl) ?_
                    refine lv_ladd hx hb dX2_wholeOf_250 ?_
                    refine lv_goto (tgt := 256) hx hb dX2_wholeOf_251 (by decide) ?_
                    refine lv_lor hx hb dX2_wholeOf_256 ?_
                    exact W.lret (v := (0 : Int64) ||| (((a0 &&& (9223372036854775807 : Int64)) - ((a0 &&& (9223372036854775807 : Int64)) &&& (((1 : Int64) <<< (((52 : Int32) - ((((a0 &&& (9223372036854775807 : Int64)) >>> ((52 : Int32).toInt64 &&& 63)).toInt32) - (1023 : Int32))).toInt64 &&& 63)) - (1 : Int64)))) + ((1 : Int64) <<< (((52 : Int32) - ((((a0 &&& (9223372036854775807 : Int64)) >>> ((52 : Int32).toInt64 &&& 63)).toInt32) - (1023 : Int32))).toInt64 &&& 63)))) hx hb hr (fun t ht hW => ⟨congrArg (fun z => Outcome.returned (some (Value.long z))) (by unfold f_X2_wholeOf; rw [if_pos c_1, if_neg c_2, if_pos c_3, if_pos c_4, if_neg c_5, if_neg c_6, if_neg c_11, if_neg c_12, if_pos c_13]), ht⟩) (fun _ h => nomatch h) dX2_wholeOf_257
                  · refine lv_lload hx hb dX2_wholeOf_215 (lv_at hl 2 rfl) ?_
                    refine lv_lload hx hb dX2_wholeOf_217 (lv_at hl 3 rfl) ?_
                    refine lv_ldc2 (v := 2) hx hb hown (hts (.constantLong RX2 93 2) (by decide +kernel)) dX2_wholeOf_219 ?_
                    refine lv_ldiv hx hb dX2_wholeOf_222 (by decide) ?_
                    refine W.lcmp hx hb dX2_wholeOf_223 ?_
                    refine lv_if_ne (tgt := 236) hx hb dX2_wholeOf_224 (by decide) (fun c_14 => ?_) (fun c_14 => ?_)
                    · refine lv_iconst (v := 0) hx hb dX2_wholeOf_236 (by decide) ?_
                      refine lv_istore (lv' := [(16, .int (0 : Int32)), (15, .int (1 : Int32)), (13, .long ((a0 &&& (9223372036854775807 : Int64)) - ((a0 &&& (9223372036854775807 : Int64)) &&& (((1 : Int64) <<< (((52 : Int32) - ((((a0 &&& (9223372036854775807 : Int64)) >>> ((52 : Int32).toInt64 &&& 63)).toInt32) - (1023 : Int32))).toInt64 &&& 63)) - (1 : Int64))))), (11, .long ((a0 &&& (9223372036854775807 : Int64)) &&& (((1 : Int64) <<< (((52 : Int32) - ((((a0 &&& (9223372036854775807 : Int64)) >>> ((52 : Int32).toInt64 &&& 63)).toInt32) - (1023 : Int32))).toInt64 &&& 63)) - (1 : Int64)))), (9, .long ((1 : Int64) <<< (((52 : Int32) - ((((a0 &&& (9223372036854775807 : Int64)) >>> ((52 : Int32).toInt64 &&& 63)).toInt32) - (1023 : Int32))).toInt64 &&& 63))), (7, .long (0 : Int64)), (6, .int ((((a0 &&& (9223372036854775807 : Int64)) >>> ((52 : Int32).toInt64 &&& 63)).toInt32) - (1023 : Int32))), (4, .long (a0 &&& (9223372036854775807 : Int64))), (3, .int (0 : Int32)), (0, .long a0), (2, .int a1)]) hx hb dX2_wholeOf_237 hl (by decide) rfl (fun ls hl => ?_)
                      refine lv_lload hx hb dX2_wholeOf_239 (lv_at hl 5 rfl) ?_
                      refine lv_iload hx hb dX2_wholeOf_241 (lv_at hl 0 rfl) ?_
                      refine lv_if_eq (tgt := 254) hx hb dX2_wholeOf_243 (by decide) (fun z_9 => ?_) (fun z_9 => absurd z_9 (by decide))
                      refine lv_lload hx hb dX2_wholeOf_254 (lv_at hl 2 rfl) ?_
                      refine lv_lor hx hb dX2_wholeOf_256 ?_
                      exact W.lret (v := (0 : Int64) ||| ((a0 &&& (9223372036854775807 : Int64)) - ((a0 &&& (9223372036854775807 : Int64)) &&& (((1 : Int64) <<< (((52 : Int32) - ((((a0 &&& (9223372036854775807 : Int64)) >>> ((52 : Int32).toInt64 &&& 63)).toInt32) - (1023 : Int32))).toInt64 &&& 63)) - (1 : Int64))))) hx hb hr (fun t ht hW => ⟨congrArg (fun z => Outcome.returned (some (Value.long z))) (by unfold f_X2_wholeOf; rw [if_pos c_1, if_neg c_2, if_pos c_3, if_pos c_4, if_neg c_5, if_neg c_6, if_neg c_11, if_neg c_12, if_neg c_13, if_neg c_14]), ht⟩) (fun _ h => nomatch h) dX2_wholeOf_257
                    · refine lv_iload hx hb dX2_wholeOf_227 (lv_at hl 0 rfl) ?_
                      refine lv_if_eq (tgt := 236) hx hb dX2_wholeOf_229 (by decide) (fun z_9 => absurd z_9 (by decide)) (fun z_9 => ?_)
                      refine lv_iconst (v := 1) hx hb dX2_wholeOf_232 (by decide) ?_
                      refine lv_goto (tgt := 237) hx hb dX2_wholeOf_233 (by decide) ?_
                      refine lv_istore (lv' := [(16, .int (1 : Int32)), (15, .int (1 : Int32)), (13, .long ((a0 &&& (9223372036854775807 : Int64)) - ((a0 &&& (9223372036854775807 : Int64)) &&& (((1 : Int64) <<< (((52 : Int32) - ((((a0 &&& (9223372036854775807 : Int64)) >>> ((52 : Int32).toInt64 &&& 63)).toInt32) - (1023 : Int32))).toInt64 &&& 63)) - (1 : Int64))))), (11, .long ((a0 &&& (9223372036854775807 : Int64)) &&& (((1 : Int64) <<< (((52 : Int32) - ((((a0 &&& (9223372036854775807 : Int64)) >>> ((52 : Int32).toInt64 &&& 63)).toInt32) - (1023 : Int32))).toInt64 &&& 63)) - (1 : Int64)))), (9, .long ((1 : Int64) <<< (((52 : Int32) - ((((a0 &&& (9223372036854775807 : Int64)) >>> ((52 : Int32).toInt64 &&& 63)).toInt32) - (1023 : Int32))).toInt64 &&& 63))), (7, .long (0 : Int64)), (6, .int ((((a0 &&& (9223372036854775807 : Int64)) >>> ((52 : Int32).toInt64 &&& 63)).toInt32) - (1023 : Int32))), (4, .long (a0 &&& (9223372036854775807 : Int64))), (3, .int (0 : Int32)), (0, .long a0), (2, .int a1)]) hx hb dX2_wholeOf_237 hl (by decide) rfl (fun ls hl => ?_)
                      refine lv_lload hx hb dX2_wholeOf_239 (lv_at hl 5 rfl) ?_
                      refine lv_iload hx hb dX2_wholeOf_241 (lv_at hl 0 rfl) ?_
                      refine lv_if_eq (tgt := 254) hx hb dX2_wholeOf_243 (by decide) (fun z_9 => absurd z_9 (by decide)) (fun z_9 => ?_)
                      refine lv_lload hx hb dX2_wholeOf_246 (lv_at hl 2 rfl) ?_
                      refine lv_lload hx hb dX2_wholeOf_248 (lv_at hl 4 rfl) ?_
                      refine lv_ladd hx hb dX2_wholeOf_250 ?_
                      refine lv_goto (tgt := 256) hx hb dX2_wholeOf_251 (by decide) ?_
                      refine lv_lor hx hb dX2_wholeOf_256 ?_
                      exact W.lret (v := (0 : Int64) ||| (((a0 &&& (9223372036854775807 : Int64)) - ((a0 &&& (9223372036854775807 : Int64)) &&& (((1 : Int64) <<< (((52 : Int32) - ((((a0 &&& (9223372036854775807 : Int64)) >>> ((52 : Int32).toInt64 &&& 63)).toInt32) - (1023 : Int32))).toInt64 &&& 63)) - (1 : Int64)))) + ((1 : Int64) <<< (((52 : Int32) - ((((a0 &&& (9223372036854775807 : Int64)) >>> ((52 : Int32).toInt64 &&& 63)).toInt32) - (1023 : Int32))).toInt64 &&& 63)))) hx hb hr (fun t ht hW => ⟨congrArg (fun z => Outcome.returned (some (Value.long z))) (by unfold f_X2_wholeOf; rw [if_pos c_1, if_neg c_2, if_pos c_3, if_pos c_4, if_neg c_5, if_neg c_6, if_neg c_11, if_neg c_12, if_neg c_13, if_pos c_14]), ht⟩) (fun _ h => nomatch h) dX2_wholeOf_257
                · refine lv_iload_n hx hb dX2_wholeOf_191 rfl (lv_at hl 7 rfl) ?_
                  refine lv_if_ne (tgt := 199) hx hb dX2_wholeOf_192 (by decide) (fun z_9 => absurd z_9 (by decide)) (fun z_9 => ?_)
                  refine lv_iconst (v := 1) hx hb dX2_wholeOf_195 (by decide) ?_
                  refine lv_goto (tgt := 237) hx hb dX2_wholeOf_196 (by decide) ?_
                  refine lv_istore (lv' := [(16, .int (1 : Int32)), (15, .int (1 : Int32)), (13, .long ((a0 &&& (9223372036854775807 : Int64)) - ((a0 &&& (9223372036854775807 : Int64)) &&& (((1 : Int64) <<< (((52 : Int32) - ((((a0 &&& (9223372036854775807 : Int64)) >>> ((52 : Int32).toInt64 &&& 63)).toInt32) - (1023 : Int32))).toInt64 &&& 63)) - (1 : Int64))))), (11, .long ((a0 &&& (9223372036854775807 : Int64)) &&& (((1 : Int64) <<< (((52 : Int32) - ((((a0 &&& (9223372036854775807 : Int64)) >>> ((52 : Int32).toInt64 &&& 63)).toInt32) - (1023 : Int32))).toInt64 &&& 63)) - (1 : Int64)))), (9, .long ((1 : Int64) <<< (((52 : Int32) - ((((a0 &&& (9223372036854775807 : Int64)) >>> ((52 : Int32).toInt64 &&& 63)).toInt32) - (1023 : Int32))).toInt64 &&& 63))), (7, .long (0 : Int64)), (6, .int ((((a0 &&& (9223372036854775807 : Int64)) >>> ((52 : Int32).toInt64 &&& 63)).toInt32) - (1023 : Int32))), (4, .long (a0 &&& (9223372036854775807 : Int64))), (3, .int (0 : Int32)), (0, .long a0), (2, .int a1)]) hx hb dX2_wholeOf_237 hl (by decide) rfl (fun ls hl => ?_)
                  refine lv_lload hx hb dX2_wholeOf_239 (lv_at hl 5 rfl) ?_
                  refine lv_iload hx hb dX2_wholeOf_241 (lv_at hl 0 rfl) ?_
                  refine lv_if_eq (tgt := 254) hx hb dX2_wholeOf_243 (by decide) (fun z_9 => absurd z_9 (by decide)) (fun z_9 => ?_)
                  refine lv_lload hx hb dX2_wholeOf_246 (lv_at hl 2 rfl) ?_
                  refine lv_lload hx hb dX2_wholeOf_248 (lv_at hl 4 rfl) ?_
                  refine lv_ladd hx hb dX2_wholeOf_250 ?_
                  refine lv_goto (tgt := 256) hx hb dX2_wholeOf_251 (by decide) ?_
                  refine lv_lor hx hb dX2_wholeOf_256 ?_
                  exact W.lret (v := (0 : Int64) ||| (((a0 &&& (9223372036854775807 : Int64)) - ((a0 &&& (9223372036854775807 : Int64)) &&& (((1 : Int64) <<< (((52 : Int32) - ((((a0 &&& (9223372036854775807 : Int64)) >>> ((52 : Int32).toInt64 &&& 63)).toInt32) - (1023 : Int32))).toInt64 &&& 63)) - (1 : Int64)))) + ((1 : Int64) <<< (((52 : Int32) - ((((a0 &&& (9223372036854775807 : Int64)) >>> ((52 : Int32).toInt64 &&& 63)).toInt32) - (1023 : Int32))).toInt64 &&& 63)))) hx hb hr (fun t ht hW => ⟨congrArg (fun z => Outcome.returned (some (Value.long z))) (by unfold f_X2_wholeOf; rw [if_pos c_1, if_neg c_2, if_pos c_3, if_pos c_4, if_neg c_5, if_neg c_6, if_neg c_11, if_pos c_12]), ht⟩) (fun _ h => nomatch h) dX2_wholeOf_257
              · refine lv_iload_n hx hb dX2_wholeOf_181 rfl (lv_at hl 7 rfl) ?_
                refine lv_goto (tgt := 237) hx hb dX2_wholeOf_182 (by decide) ?_
                refine lv_istore (lv' := [(16, .int (0 : Int32)), (15, .int (1 : Int32)), (13, .long ((a0 &&& (9223372036854775807 : Int64)) - ((a0 &&& (9223372036854775807 : Int64)) &&& (((1 : Int64) <<< (((52 : Int32) - ((((a0 &&& (9223372036854775807 : Int64)) >>> ((52 : Int32).toInt64 &&& 63)).toInt32) - (1023 : Int32))).toInt64 &&& 63)) - (1 : Int64))))), (11, .long ((a0 &&& (9223372036854775807 : Int64)) &&& (((1 : Int64) <<< (((52 : Int32) - ((((a0 &&& (9223372036854775807 : Int64)) >>> ((52 : Int32).toInt64 &&& 63)).toInt32) - (1023 : Int32))).toInt64 &&& 63)) - (1 : Int64)))), (9, .long ((1 : Int64) <<< (((52 : Int32) - ((((a0 &&& (9223372036854775807 : Int64)) >>> ((52 : Int32).toInt64 &&& 63)).toInt32) - (1023 : Int32))).toInt64 &&& 63))), (7, .long (0 : Int64)), (6, .int ((((a0 &&& (9223372036854775807 : Int64)) >>> ((52 : Int32).toInt64 &&& 63)).toInt32) - (1023 : Int32))), (4, .long (a0 &&& (9223372036854775807 : Int64))), (3, .int (0 : Int32)), (0, .long a0), (2, .int a1)]) hx hb dX2_wholeOf_237 hl (by decide) rfl (fun ls hl => ?_)
                refine lv_lload hx hb dX2_wholeOf_239 (lv_at hl 5 rfl) ?_
                refine lv_iload hx hb dX2_wholeOf_241 (lv_at hl 0 rfl) ?_
                refine lv_if_eq (tgt := 254) hx hb dX2_wholeOf_243 (by decide) (fun z_9 => ?_) (fun z_9 => absurd z_9 (by decide))
                refine lv_lload hx hb dX2_wholeOf_254 (lv_at hl 2 rfl) ?_
                refine lv_lor hx hb dX2_wholeOf_256 ?_
                exact W.lret (v := (0 : Int64) ||| ((a0 &&& (9223372036854775807 : Int64)) - ((a0 &&& (9223372036854775807 : Int64)) &&& (((1 : Int64) <<< (((52 : Int32) - ((((a0 &&& (9223372036854775807 : Int64)) >>> ((52 : Int32).toInt64 &&& 63)).toInt32) - (1023 : Int32))).toInt64 &&& 63)) - (1 : Int64))))) hx hb hr (fun t ht hW => ⟨congrArg (fun z => Outcome.returned (some (Value.long z))) (by unfold f_X2_wholeOf; rw [if_pos c_1, if_neg c_2, if_pos c_3, if_pos c_4, if_neg c_5, if_neg c_6, if_pos c_11]), ht⟩) (fun _ h => nomatch h) dX2_wholeOf_257
          · refine lv_lload_n hx hb dX2_wholeOf_150 rfl (lv_at hl 6 rfl) ?_
            exact W.lret (v := a0) hx hb hr (fun t ht hW => ⟨congrArg (fun z => Outcome.returned (some (Value.long z))) (by unfold f_X2_wholeOf; rw [if_pos c_1, if_neg c_2, if_pos c_3, if_pos c_4, if_pos c_5]), ht⟩) (fun _ h => nomatch h) dX2_wholeOf_151
        · refine lv_iload_n hx hb dX2_wholeOf_65 rfl (lv_at hl 5 rfl) ?_
          refine lv_iconst (v := 5) hx hb dX2_wholeOf_66 (by decide) ?_
          refine lv_icmp_ne (tgt := 74) hx hb dX2_wholeOf_67 (by decide) (fun c_15 => ?_) (fun c_15 => ?_)
          · refine lv_iload_n hx hb dX2_wholeOf_74 rfl (lv_at hl 5 rfl) ?_
            refine lv_bipush (v := 6) hx hb dX2_wholeOf_75 (by decide) ?_
            refine lv_icmp_ne (tgt := 92) hx hb dX2_wholeOf_77 (by decide) (fun c_16 => ?_) (fun c_16 => ?_)
            · refine lv_lload hx hb dX2_wholeOf_92 (lv_at hl 2 rfl) ?_
              refine lv_ldc2 (v := 4602678819172646912) hx hb hown (hts (.constantLong RX2 91 4602678819172646912) (by decide +kernel)) dX2_wholeOf_94 ?_
              refine W.lcmp hx hb dX2_wholeOf_97 ?_
              refine lv_if_le (tgt := 105) hx hb dX2_wholeOf_98 (by decide) (fun c_17 => ?_) (fun c_17 => ?_)
              · refine lv_iconst (v := 0) hx hb dX2_wholeOf_105 (by decide) ?_
                refine lv_istore (lv' := [(9, .int (0 : Int32)), (7, .long (0 : Int64)), (6, .int ((((a0 &&& (9223372036854775807 : Int64)) >>> ((52 : Int32).toInt64 &&& 63)).toInt32) - (1023 : Int32))), (4, .long (a0 &&& (9223372036854775807 : Int64))), (3, .int (0 : Int32)), (0, .long a0), (2, .int a1)]) hx hb dX2_wholeOf_106 hl (by decide) rfl (fun ls hl => ?_)
                refine lv_iload hx hb dX2_wholeOf_108 (lv_at hl 0 rfl) ?_
                refine lv_if_eq (tgt := 122) hx hb dX2_wholeOf_110 (by decide) (fun z_9 => ?_) (fun z_9 => absurd z_9 (by decide))
                refine lv_lload hx hb dX2_wholeOf_122 (lv_at hl 1 rfl) ?_
                exact W.lret (v := (0 : Int64)) hx hb hr (fun t ht hW => ⟨congrArg (fun z => Outcome.returned (some (Value.long z))) (by unfold f_X2_wholeOf; rw [if_pos c_1, if_neg c_2, if_pos c_3, if_neg c_4, if_neg c_15, if_neg c_16, if_pos c_17]), ht⟩) (fun _ h => nomatch h) dX2_wholeOf_124
              · refine lv_iconst (v := 1) hx hb dX2_wholeOf_101 (by decide) ?_
                refine lv_goto (tgt := 106) hx hb dX2_wholeOf_102 (by decide) ?_
                refine lv_istore (lv' := [(9, .int (1 : Int32)), (7, .long (0 : Int64)), (6, .int ((((a0 &&& (9223372036854775807 : Int64)) >>> ((52 : Int32).toInt64 &&& 63)).toInt32) - (1023 : Int32))), (4, .long (a0 &&& (9223372036854775807 : Int64))), (3, .int (0 : Int32)), (0, .long a0), (2, .int a1)]) hx hb dX2_wholeOf_106 hl (by decide) rfl (fun ls hl => ?_)
                refine lv_iload hx hb dX2_wholeOf_108 (lv_at hl 0 rfl) ?_
                refine lv_if_eq (tgt := 122) hx hb dX2_wholeOf_110 (by decide) (fun z_9 => absurd z_9 (by decide)) (fun z_9 => ?_)
                refine lv_lload hx hb dX2_wholeOf_113 (lv_at hl 1 rfl) ?_
                refine lv_ldc2 (v := 4607182418800017408) hx hb hown (hts (.constantLong RX2 82 4607182418800017408) (by decide +kernel)) dX2_wholeOf_115 ?_
                refine lv_lor hx hb dX2_wholeOf_118 ?_
                refine lv_goto (tgt := 124) hx hb dX2_wholeOf_119 (by decide) ?_
                exact W.lret (v := (0 : Int64) ||| (4607182418800017408 : Int64)) hx hb hr (fun t ht hW => ⟨congrArg (fun z => Outcome.returned (some (Value.long z))) (by unfold f_X2_wholeOf; rw [if_pos c_1, if_neg c_2, if_pos c_3, if_neg c_4, if_neg c_15, if_neg c_16, if_neg c_17]), ht⟩) (fun _ h => nomatch h) dX2_wholeOf_124
            · refine lv_iload_n hx hb dX2_wholeOf_80 rfl (lv_at hl 3 rfl) ?_
              refine lv_if_ne (tgt := 88) hx hb dX2_wholeOf_81 (by decide) (fun z_9 => absurd z_9 (by decide)) (fun z_9 => ?_)
              refine lv_iconst (v := 1) hx hb dX2_wholeOf_84 (by decide) ?_
              refine lv_goto (tgt := 106) hx hb dX2_wholeOf_85 (by decide) ?_
              refine lv_istore (lv' := [(9, .int (1 : Int32)), (7, .long (0 : Int64)), (6, .int ((((a0 &&& (9223372036854775807 : Int64)) >>> ((52 : Int32).toInt64 &&& 63)).toInt32) - (1023 : Int32))), (4, .long (a0 &&& (9223372036854775807 : Int64))), (3, .int (0 : Int32)), (0, .long a0), (2, .int a1)]) hx hb dX2_wholeOf_106 hl (by decide) rfl (fun ls hl => ?_)
              refine lv_iload hx hb dX2_wholeOf_108 (lv_at hl 0 rfl) ?_
              refine lv_if_eq (tgt := 122) hx hb dX2_wholeOf_110 (by decide) (fun z_9 => absurd z_9 (by decide)) (fun z_9 => ?_)
              refine lv_lload hx hb dX2_wholeOf_113 (lv_at hl 1 rfl) ?_
              refine lv_ldc2 (v := 4607182418800017408) hx hb hown (hts (.constantLong RX2 82 4607182418800017408) (by decide +kernel)) dX2_wholeOf_115 ?_
              refine lv_lor hx hb dX2_wholeOf_118 ?_
              refine lv_goto (tgt := 124) hx hb dX2_wholeOf_119 (by decide) ?_
              exact W.lret (v := (0 : Int64) ||| (4607182418800017408 : Int64)) hx hb hr (fun t ht hW => ⟨congrArg (fun z => Outcome.returned (some (Value.long z))) (by unfold f_X2_wholeOf; rw [if_pos c_1, if_neg c_2, if_pos c_3, if_neg c_4, if_neg c_15, if_pos c_16]), ht⟩) (fun _ h => nomatch h) dX2_wholeOf_124
          · refine lv_iload_n hx hb dX2_wholeOf_70 rfl (lv_at hl 3 rfl) ?_
            refine lv_goto (tgt := 106) hx hb dX2_wholeOf_71 (by decide) ?_
            refine lv_istore (lv' := [(9, .int (0 : Int32)), (7, .long (0 : Int64)), (6, .int ((((a0 &&& (9223372036854775807 : Int64)) >>> ((52 : Int32).toInt64 &&& 63)).toInt32) - (1023 : Int32))), (4, .long (a0 &&& (9223372036854775807 : Int64))), (3, .int (0 : Int32)), (0, .long a0), (2, .int a1)]) hx hb dX2_wholeOf_106 hl (by decide) rfl (fun ls hl => ?_)
            refine lv_iload hx hb dX2_wholeOf_108 (lv_at hl 0 rfl) ?_
            refine lv_if_eq (tgt := 122) hx hb dX2_wholeOf_110 (by decide) (fun z_9 => ?_) (fun z_9 => absurd z_9 (by decide))
            refine lv_lload hx hb dX2_wholeOf_122 (lv_at hl 1 rfl) ?_
            exact W.lret (v := (0 : Int64)) hx hb hr (fun t ht hW => ⟨congrArg (fun z => Outcome.returned (some (Value.long z))) (by unfold f_X2_wholeOf; rw [if_pos c_1, if_neg c_2, if_pos c_3, if_neg c_4, if_pos c_15]), ht⟩) (fun _ h => nomatch h) dX2_wholeOf_124
      · refine lv_lload_n hx hb dX2_wholeOf_45 rfl (lv_at hl 3 rfl) ?_
        exact W.lret (v := a0) hx hb hr (fun t ht hW => ⟨congrArg (fun z => Outcome.returned (some (Value.long z))) (by unfold f_X2_wholeOf; rw [if_pos c_1, if_neg c_2, if_neg c_3]), ht⟩) (fun _ h => nomatch h) dX2_wholeOf_46
  · refine lv_iconst (v := 1) hx hb dX2_wholeOf_6 (by decide) ?_
    refine lv_goto (tgt := 11) hx hb dX2_wholeOf_7 (by decide) ?_
    refine lv_istore_n (lv' := [(3, .int (1 : Int32)), (0, .long a0), (2, .int a1)]) hx hb dX2_wholeOf_11 rfl hl (by decide) rfl (fun ls hl => ?_)
    refine lv_lload_n hx hb dX2_wholeOf_12 rfl (lv_at hl 1 rfl) ?_
    refine lv_ldc2 (v := 9223372036854775807) hx hb hown (hts (.constantLong RX2 59 9223372036854775807) (by decide +kernel)) dX2_wholeOf_13 ?_
    refine lv_land hx hb dX2_wholeOf_16 ?_
    refine lv_lstore (lv' := [(4, .long (a0 &&& (9223372036854775807 : Int64))), (3, .int (1 : Int32)), (0, .long a0), (2, .int a1)]) hx hb dX2_wholeOf_17 hl (by decide) rfl (fun ls hl => ?_)
    refine lv_lload hx hb dX2_wholeOf_19 (lv_at hl 0 rfl) ?_
    refine lv_bipush (v := 52) hx hb dX2_wholeOf_21 (by decide) ?_
    refine lv_lshr hx hb dX2_wholeOf_23 rfl ?_
    refine lv_l2i hx hb dX2_wholeOf_24 rfl ?_
    refine lv_sipush (v := 1023) hx hb dX2_wholeOf_25 (by decide) ?_
    refine lv_isub hx hb dX2_wholeOf_28 ?_
    refine lv_istore (lv' := [(6, .int ((((a0 &&& (9223372036854775807 : Int64)) >>> ((52 : Int32).toInt64 &&& 63)).toInt32) - (1023 : Int32))), (4, .long (a0 &&& (9223372036854775807 : Int64))), (3, .int (1 : Int32)), (0, .long a0), (2, .int a1)]) hx hb dX2_wholeOf_29 hl (by decide) rfl (fun ls hl => ?_)
    refine lv_lload hx hb dX2_wholeOf_31 (lv_at hl 1 rfl) ?_
    refine lv_lconst (v := 0) hx hb dX2_wholeOf_33 (by decide) ?_
    refine W.lcmp hx hb dX2_wholeOf_34 ?_
    refine lv_if_eq (tgt := 45) hx hb dX2_wholeOf_35 (by decide) (fun c_18 => ?_) (fun c_18 => ?_)
    · refine lv_lload_n hx hb dX2_wholeOf_45 rfl (lv_at hl 3 rfl) ?_
      exact W.lret (v := a0) hx hb hr (fun t ht hW => ⟨congrArg (fun z => Outcome.returned (some (Value.long z))) (by unfold f_X2_wholeOf; rw [if_neg c_1, if_pos c_18]), ht⟩) (fun _ h => nomatch h) dX2_wholeOf_46
    · refine lv_iload hx hb dX2_wholeOf_38 (lv_at hl 0 rfl) ?_
      refine lv_bipush (v := 52) hx hb dX2_wholeOf_40 (by decide) ?_
      refine lv_icmp_lt (tgt := 47) hx hb dX2_wholeOf_42 (by decide) (fun c_19 => ?_) (fun c_19 => ?_)
      · refine lv_iload_n hx hb dX2_wholeOf_47 rfl (lv_at hl 2 rfl) ?_
        refine lv_if_eq (tgt := 57) hx hb dX2_wholeOf_48 (by decide) (fun z_9 => absurd z_9 (by decide)) (fun z_9 => ?_)
        refine lv_ldc2 (v := (-9223372036854775808)) hx hb hown (hts (.constantLong RX2 89 (-9223372036854775808)) (by decide +kernel)) dX2_wholeOf_51 ?_
        refine lv_goto (tgt := 58) hx hb dX2_wholeOf_54 (by decide) ?_
        refine lv_lstore (lv' := [(7, .long (-9223372036854775808 : Int64)), (6, .int ((((a0 &&& (9223372036854775807 : Int64)) >>> ((52 : Int32).toInt64 &&& 63)).toInt32) - (1023 : Int32))), (4, .long (a0 &&& (9223372036854775807 : Int64))), (3, .int (1 : Int32)), (0, .long a0), (2, .int a1)]) hx hb dX2_wholeOf_58 hl (by decide) rfl (fun ls hl => ?_)
        refine lv_iload hx hb dX2_wholeOf_60 (lv_at hl 1 rfl) ?_
        refine lv_if_ge (tgt := 125) hx hb dX2_wholeOf_62 (by decide) (fun c_20 => ?_) (fun c_20 => ?_)
        · refine lv_lconst (v := 1) hx hb dX2_wholeOf_125 (by decide) ?_
          refine lv_bipush (v := 52) hx hb dX2_wholeOf_126 (by decide) ?_
          refine lv_iload hx hb dX2_wholeOf_128 (lv_at hl 1 rfl) ?_
          refine lv_isub hx hb dX2_wholeOf_130 ?_
          refine lv_lshl hx hb dX2_wholeOf_131 rfl ?_
          refine lv_lstore (lv' := [(9, .long ((1 : Int64) <<< (((52 : Int32) - ((((a0 &&& (9223372036854775807 : Int64)) >>> ((52 : Int32).toInt64 &&& 63)).toInt32) - (1023 : Int32))).toInt64 &&& 63))), (7, .long (-9223372036854775808 : Int64)), (6, .int ((((a0 &&& (9223372036854775807 : Int64)) >>> ((52 : Int32).toInt64 &&& 63)).toInt32) - (1023 : Int32))), (4, .long (a0 &&& (9223372036854775807 : Int64))), (3, .int (1 : Int32)), (0, .long a0), (2, .int a1)]) hx hb dX2_wholeOf_132 hl (by decide) rfl (fun ls hl => ?_)
          refine lv_lload hx hb dX2_wholeOf_134 (lv_at hl 3 rfl) ?_
          refine lv_lload hx hb dX2_wholeOf_136 (lv_at hl 0 rfl) ?_
          refine lv_lconst (v := 1) hx hb dX2_wholeOf_138 (by decide) ?_
          refine lv_lsub hx hb dX2_wholeOf_139 ?_
          refine lv_land hx hb dX2_wholeOf_140 ?_
          refine lv_lstore (lv' := [(11, .long ((a0 &&& (9223372036854775807 : Int64)) &&& (((1 : Int64) <<< (((52 : Int32) - ((((a0 &&& (9223372036854775807 : Int64)) >>> ((52 : Int32).toInt64 &&& 63)).toInt32) - (1023 : Int32))).toInt64 &&& 63)) - (1 : Int64)))), (9, .long ((1 : Int64) <<< (((52 : Int32) - ((((a0 &&& (9223372036854775807 : Int64)) >>> ((52 : Int32).toInt64 &&& 63)).toInt32) - (1023 : Int32))).toInt64 &&& 63))), (7, .long (-9223372036854775808 : Int64)), (6, .int ((((a0 &&& (9223372036854775807 : Int64)) >>> ((52 : Int32).toInt64 &&& 63)).toInt32) - (1023 : Int32))), (4, .long (a0 &&& (9223372036854775807 : Int64))), (3, .int (1 : Int32)), (0, .long a0), (2, .int a1)]) hx hb dX2_wholeOf_141 hl (by decide) rfl (fun ls hl => ?_)
          refine lv_lload hx hb dX2_wholeOf_143 (lv_at hl 0 rfl) ?_
          refine lv_lconst (v := 0) hx hb dX2_wholeOf_145 (by decide) ?_
          refine W.lcmp hx hb dX2_wholeOf_146 ?_
          refine lv_if_ne (tgt := 152) hx hb dX2_wholeOf_147 (by decide) (fun c_21 => ?_) (fun c_21 => ?_)
          · refine lv_lload hx hb dX2_wholeOf_152 (lv_at hl 4 rfl) ?_
            refine lv_lload hx hb dX2_wholeOf_154 (lv_at hl 0 rfl) ?_
            refine lv_lsub hx hb dX2_wholeOf_156 ?_
            refine lv_lstore (lv' := [(13, .long ((a0 &&& (9223372036854775807 : Int64)) - ((a0 &&& (9223372036854775807 : Int64)) &&& (((1 : Int64) <<< (((52 : Int32) - ((((a0 &&& (9223372036854775807 : Int64)) >>> ((52 : Int32).toInt64 &&& 63)).toInt32) - (1023 : Int32))).toInt64 &&& 63)) - (1 : Int64))))), (11, .long ((a0 &&& (9223372036854775807 : Int64)) &&& (((1 : Int64) <<< (((52 : Int32) - ((((a0 &&& (9223372036854775807 : Int64)) >>> ((52 : Int32).toInt64 &&& 63)).toInt32) - (1023 : Int32))).toInt64 &&& 63)) - (1 : Int64)))), (9, .long ((1 : Int64) <<< (((52 : Int32) - ((((a0 &&& (9223372036854775807 : Int64)) >>> ((52 : Int32).toInt64 &&& 63)).toInt32) - (1023 : Int32))).toInt64 &&& 63))), (7, .long (-9223372036854775808 : Int64)), (6, .int ((((a0 &&& (9223372036854775807 : Int64)) >>> ((52 : Int32).toInt64 &&& 63)).toInt32) - (1023 : Int32))), (4, .long (a0 &&& (9223372036854775807 : Int64))), (3, .int (1 : Int32)), (0, .long a0), (2, .int a1)]) hx hb dX2_wholeOf_157 hl (by decide) rfl (fun ls hl => ?_)
            refine lv_lload hx hb dX2_wholeOf_159 (lv_at hl 0 rfl) ?_
            refine lv_lload hx hb dX2_wholeOf_161 (lv_at hl 2 rfl) ?_
            refine lv_land hx hb dX2_wholeOf_163 ?_
            refine lv_lconst (v := 0) hx hb dX2_wholeOf_164 (by decide) ?_
            refine W.lcmp hx hb dX2_wholeOf_165 ?_
            refine lv_if_eq (tgt := 173) hx hb dX2_wholeOf_166 (by decide) (fun c_22 => ?_) (fun c_22 => ?_)
            · refine lv_iconst (v := 0) hx hb dX2_wholeOf_173 (by decide) ?_
              refine lv_istore (lv' := [(15, .int (0 : Int32)), (13, .long ((a0 &&& (9223372036854775807 : Int64)) - ((a0 &&& (9223372036854775807 : Int64)) &&& (((1 : Int64) <<< (((52 : Int32) - ((((a0 &&& (9223372036854775807 : Int64)) >>> ((52 : Int32).toInt64 &&& 63)).toInt32) - (1023 : Int32))).toInt64 &&& 63)) - (1 : Int64))))), (11, .long ((a0 &&& (9223372036854775807 : Int64)) &&& (((1 : Int64) <<< (((52 : Int32) - ((((a0 &&& (9223372036854775807 : Int64)) >>> ((52 : Int32).toInt64 &&& 63)).toInt32) - (1023 : Int32))).toInt64 &&& 63)) - (1 : Int64)))), (9, .long ((1 : Int64) <<< (((52 : Int32) - ((((a0 &&& (9223372036854775807 : Int64)) >>> ((52 : Int32).toInt64 &&& 63)).toInt32) - (1023 : Int32))).toInt64 &&& 63))), (7, .long (-9223372036854775808 : Int64)), (6, .int ((((a0 &&& (9223372036854775807 : Int64)) >>> ((52 : Int32).toInt64 &&& 63)).toInt32) - (1023 : Int32))), (4, .long (a0 &&& (9223372036854775807 : Int64))), (3, .int (1 : Int32)), (0, .long a0), (2, .int a1)]) hx hb dX2_wholeOf_174 hl (by decide) rfl (fun ls hl => ?_)
              refine lv_iload_n hx hb dX2_wholeOf_176 rfl (lv_at hl 9 rfl) ?_
              refine lv_iconst (v := 5) hx hb dX2_wholeOf_177 (by decide) ?_
              refine lv_icmp_ne (tgt := 185) hx hb dX2_wholeOf_178 (by decide) (fun c_23 => ?_) (fun c_23 => ?_)
              · refine lv_iload_n hx hb dX2_wholeOf_185 rfl (lv_at hl 9 rfl) ?_
                refine lv_bipush (v := 6) hx hb dX2_wholeOf_186 (by decide) ?_
                refine lv_icmp_ne (tgt := 203) hx hb dX2_wholeOf_188 (by decide) (fun c_24 => ?_) (fun c_24 => ?_)
                · refine lv_lload hx hb dX2_wholeOf_203 (lv_at hl 2 rfl) ?_
                  refine lv_lload hx hb dX2_wholeOf_205 (lv_at hl 3 rfl) ?_
                  refine lv_ldc2 (v := 2) hx hb hown (hts (.constantLong RX2 93 2) (by decide +kernel)) dX2_wholeOf_207 ?_
                  refine lv_ldiv hx hb dX2_wholeOf_210 (by decide) ?_
                  refine W.lcmp hx hb dX2_wholeOf_211 ?_
                  refine lv_if_gt (tgt := 232) hx hb dX2_wholeOf_212 (by decide) (fun c_25 => ?_) (fun c_25 => ?_)
                  · refine lv_iconst (v := 1) hx hb dX2_wholeOf_232 (by decide) ?_
                    refine lv_goto (tgt := 237) hx hb dX2_wholeOf_233 (by decide) ?_
                    refine lv_istore (lv' := [(16, .int (1 : Int32)), (15, .int (0 : Int32)), (13, .long ((a0 &&& (9223372036854775807 : Int64)) - ((a0 &&& (9223372036854775807 : Int64)) &&& (((1 : Int64) <<< (((52 : Int32) - ((((a0 &&& (9223372036854775807 : Int64)) >>> ((52 : Int32).toInt64 &&& 63)).toInt32) - (1023 : Int32))).toInt64 &&& 63)) - (1 : Int64))))), (11, .long ((a0 &&& (9223372036854775807 : Int64)) &&& (((1 : Int64) <<< (((52 : Int32) - ((((a0 &&& (9223372036854775807 : Int64)) >>> ((52 : Int32).toInt64 &&& 63)).toInt32) - (1023 : Int32))).toInt64 &&& 63)) - (1 : Int64)))), (9, .long ((1 : Int64) <<< (((52 : Int32) - ((((a0 &&& (9223372036854775807 : Int64)) >>> ((52 : Int32).toInt64 &&& 63)).toInt32) - (1023 : Int32))).toInt64 &&& 63))), (7, .long (-9223372036854775808 : Int64)), (6, .int ((((a0 &&& (9223372036854775807 : Int64)) >>> ((52 : Int32).toInt64 &&& 63)).toInt32) - (1023 : Int32))), (4, .long (a0 &&& (9223372036854775807 : Int64))), (3, .int (1 : Int32)), (0, .long a0), (2, .int a1)]) hx hb dX2_wholeOf_237 hl (by decide) rfl (fun ls hl => ?_)
                    refine lv_lload hx hb dX2_wholeOf_239 (lv_at hl 5 rfl) ?_
                    refine lv_iload hx hb dX2_wholeOf_241 (lv_at hl 0 rfl) ?_
                    refine lv_if_eq (tgt := 254) hx hb dX2_wholeOf_243 (by decide) (fun z_9 => absurd z_9 (by decide)) (fun z_9 => ?_)
                    refine lv_lload hx hb dX2_wholeOf_246 (lv_at hl 2 rfl) ?_
                    refine lv_lload hx hb dX2_wholeOf_248 (lv_at hl 4 rfl) ?_
                    refine lv_ladd hx hb dX2_wholeOf_250 ?_
                    refine lv_goto (tgt := 256) hx hb dX2_wholeOf_251 (by decide) ?_
                    refine lv_lor hx hb dX2_wholeOf_256 ?_
                    exact W.lret (v := (-9223372036854775808 : Int64) ||| (((a0 &&& (9223372036854775807 : Int64)) - ((a0 &&& (9223372036854775807 : Int64)) &&& (((1 : Int64) <<< (((52 : Int32) - ((((a0 &&& (9223372036854775807 : Int64)) >>> ((52 : Int32).toInt64 &&& 63)).toInt32) - (1023 : Int32))).toInt64 &&& 63)) - (1 : Int64)))) + ((1 : Int64) <<< (((52 : Int32) - ((((a0 &&& (9223372036854775807 : Int64)) >>> ((52 : Int32).toInt64 &&& 63)).toInt32) - (1023 : Int32))).toInt64 &&& 63)))) hx hb hr (fun t ht hW => ⟨congrArg (fun z => Outcome.returned (some (Value.long z))) (by unfold f_X2_wholeOf; rw [if_neg c_1, if_neg c_18, if_pos c_19, if_pos c_20, if_neg c_21, if_pos c_22, if_neg c_23, if_neg c_24, if_pos c_25]), ht⟩) (fun _ h => nomatch h) dX2_wholeOf_257
                  · refine lv_lload hx hb dX2_wholeOf_215 (lv_at hl 2 rfl) ?_
                    refine lv_lload hx hb dX2_wholeOf_217 (lv_at hl 3 rfl) ?_
                    refine lv_ldc2 (v := 2) hx hb hown (hts (.constantLong RX2 93 2) (by decide +kernel)) dX2_wholeOf_219 ?_
                    refine lv_ldiv hx hb dX2_wholeOf_222 (by decide) ?_
                    refine W.lcmp hx hb dX2_wholeOf_223 ?_
                    refine lv_if_ne (tgt := 236) hx hb dX2_wholeOf_224 (by decide) (fun c_26 => ?_) (fun c_26 => ?_)
                    · refine lv_iconst (v := 0) hx hb dX2_wholeOf_236 (by decide) ?_
                      refine lv_istore (lv' := [(16, .int (0 : Int32)), (15, .int (0 : Int32)), (13, .long ((a0 &&& (9223372036854775807 : Int64)) - ((a0 &&& (9223372036854775807 : Int64)) &&& (((1 : Int64) <<< (((52 : Int32) - ((((a0 &&& (9223372036854775807 : Int64)) >>> ((52 : Int32).toInt64 &&& 63)).toInt32) - (1023 : Int32))).toInt64 &&& 63)) - (1 : Int64))))), (11, .long ((a0 &&& (9223372036854775807 : Int64)) &&& (((1 : Int64) <<< (((52 : Int32) - ((((a0 &&& (9223372036854775807 : Int64)) >>> ((52 : Int32).toInt64 &&& 63)).toInt32) - (1023 : Int32))).toInt64 &&& 63)) - (1 : Int64)))), (9, .long ((1 : Int64) <<< (((52 : Int32) - ((((a0 &&& (9223372036854775807 : Int64)) >>> ((52 : Int32).toInt64 &&& 63)).toInt32) - (1023 : Int32))).toInt64 &&& 63))), (7, .long (-9223372036854775808 : Int64)), (6, .int ((((a0 &&& (9223372036854775807 : Int64)) >>> ((52 : Int32).toInt64 &&& 63)).toInt32) - (1023 : Int32))), (4, .long (a0 &&& (9223372036854775807 : Int64))), (3, .int (1 : Int32)), (0, .long a0), (2, .int a1)]) hx hb dX2_wholeOf_237 hl (by decide) rfl (fun ls hl => ?_)
                      refine lv_lload hx hb dX2_wholeOf_239 (lv_at hl 5 rfl) ?_
                      refine lv_iload hx hb dX2_wholeOf_241 (lv_at hl 0 rfl) ?_
                      refine lv_if_eq (tgt := 254) hx hb dX2_wholeOf_243 (by decide) (fun z_9 => ?_) (fun z_9 => absurd z_9 (by decide))
                      refine lv_lload hx hb dX2_wholeOf_254 (lv_at hl 2 rfl) ?_
                      refine lv_lor hx hb dX2_wholeOf_256 ?_
                      exact W.lret (v := (-9223372036854775808 : Int64) ||| ((a0 &&& (9223372036854775807 : Int64)) - ((a0 &&& (9223372036854775807 : Int64)) &&& (((1 : Int64) <<< (((52 : Int32) - ((((a0 &&& (9223372036854775807 : Int64)) >>> ((52 : Int32).toInt64 &&& 63)).toInt32) - (1023 : Int32))).toInt64 &&& 63)) - (1 : Int64))))) hx hb hr (fun t ht hW => ⟨congrArg (fun z => Outcome.returned (some (Value.long z))) (by unfold f_X2_wholeOf; rw [if_neg c_1, if_neg c_18, if_pos c_19, if_pos c_20, if_neg c_21, if_pos c_22, if_neg c_23, if_neg c_24, if_neg c_25, if_neg c_26]), ht⟩) (fun _ h => nomatch h) dX2_wholeOf_257
                    · refine lv_iload hx hb dX2_wholeOf_227 (lv_at hl 0 rfl) ?_
                      refine lv_if_eq (tgt := 236) hx hb dX2_wholeOf_229 (by decide) (fun z_9 => ?_) (fun z_9 => absurd z_9 (by decide))
                      refine lv_iconst (v := 0) hx hb dX2_wholeOf_236 (by decide) ?_
                      refine lv_istore (lv' := [(16, .int (0 : Int32)), (15, .int (0 : Int32)), (13, .long ((a0 &&& (9223372036854775807 : Int64)) - ((a0 &&& (9223372036854775807 : Int64)) &&& (((1 : Int64) <<< (((52 : Int32) - ((((a0 &&& (9223372036854775807 : Int64)) >>> ((52 : Int32).toInt64 &&& 63)).toInt32) - (1023 : Int32))).toInt64 &&& 63)) - (1 : Int64))))), (11, .long ((a0 &&& (9223372036854775807 : Int64)) &&& (((1 : Int64) <<< (((52 : Int32) - ((((a0 &&& (9223372036854775807 : Int64)) >>> ((52 : Int32).toInt64 &&& 63)).toInt32) - (1023 : Int32))).toInt64 &&& 63)) - (1 : Int64)))), (9, .long ((1 : Int64) <<< (((52 : Int32) - ((((a0 &&& (9223372036854775807 : Int64)) >>> ((52 : Int32).toInt64 &&& 63)).toInt32) - (1023 : Int32))).toInt64 &&& 63))), (7, .long (-9223372036854775808 : Int64)), (6, .int ((((a0 &&& (9223372036854775807 : Int64)) >>> ((52 : Int32).toInt64 &&& 63)).toInt32) - (1023 : Int32))), (4, .long (a0 &&& (9223372036854775807 : Int64))), (3, .int (1 : Int32)), (0, .long a0), (2, .int a1)]) hx hb dX2_wholeOf_237 hl (by decide) rfl (fun ls hl => ?_)
                      refine lv_lload hx hb dX2_wholeOf_239 (lv_at hl 5 rfl) ?_
                      refine lv_iload hx hb dX2_wholeOf_241 (lv_at hl 0 rfl) ?_
                      refine lv_if_eq (tgt := 254) hx hb dX2_wholeOf_243 (by decide) (fun z_9 => ?_) (fun z_9 => absurd z_9 (by decide))
                      refine lv_lload hx hb dX2_wholeOf_254 (lv_at hl 2 rfl) ?_
                      refine lv_lor hx hb dX2_wholeOf_256 ?_
                      exact W.lret (v := (-9223372036854775808 : Int64) ||| ((a0 &&& (9223372036854775807 : Int64)) - ((a0 &&& (9223372036854775807 : Int64)) &&& (((1 : Int64) <<< (((52 : Int32) - ((((a0 &&& (9223372036854775807 : Int64)) >>> ((52 : Int32).toInt64 &&& 63)).toInt32) - (1023 : Int32))).toInt64 &&& 63)) - (1 : Int64))))) hx hb hr (fun t ht hW => ⟨congrArg (fun z => Outcome.returned (some (Value.long z))) (by unfold f_X2_wholeOf; rw [if_neg c_1, if_neg c_18, if_pos c_19, if_pos c_20, if_neg c_21, if_pos c_22, if_neg c_23, if_neg c_24, if_neg c_25, if_pos c_26]), ht⟩) (fun _ h => nomatch h) dX2_wholeOf_257
                · refine lv_iload_n hx hb dX2_wholeOf_191 rfl (lv_at hl 7 rfl) ?_
                  refine lv_if_ne (tgt := 199) hx hb dX2_wholeOf_192 (by decide) (fun z_9 => ?_) (fun z_9 => absurd z_9 (by decide))
                  refine lv_iconst (v := 0) hx hb dX2_wholeOf_199 (by decide) ?_
                  refine lv_goto (tgt := 237) hx hb dX2_wholeOf_200 (by decide) ?_
                  refine lv_istore (lv' := [(16, .int (0 : Int32)), (15, .int (0 : Int32)), (13, .long ((a0 &&& (9223372036854775807 : Int64)) - ((a0 &&& (9223372036854775807 : Int64)) &&& (((1 : Int64) <<< (((52 : Int32) - ((((a0 &&& (9223372036854775807 : Int64)) >>> ((52 : Int32).toInt64 &&& 63)).toInt32) - (1023 : Int32))).toInt64 &&& 63)) - (1 : Int64))))), (11, .long ((a0 &&& (9223372036854775807 : Int64)) &&& (((1 : Int64) <<< (((52 : Int32) - ((((a0 &&& (9223372036854775807 : Int64)) >>> ((52 : Int32).toInt64 &&& 63)).toInt32) - (1023 : Int32))).toInt64 &&& 63)) - (1 : Int64)))), (9, .long ((1 : Int64) <<< (((52 : Int32) - ((((a0 &&& (9223372036854775807 : Int64)) >>> ((52 : Int32).toInt64 &&& 63)).toInt32) - (1023 : Int32))).toInt64 &&& 63))), (7, .long (-9223372036854775808 : Int64)), (6, .int ((((a0 &&& (9223372036854775807 : Int64)) >>> ((52 : Int32).toInt64 &&& 63)).toInt32) - (1023 : Int32))), (4, .long (a0 &&& (9223372036854775807 : Int64))), (3, .int (1 : Int32)), (0, .long a0), (2, .int a1)]) hx hb dX2_wholeOf_237 hl (by decide) rfl (fun ls hl => ?_)
                  refine lv_lload hx hb dX2_wholeOf_239 (lv_at hl 5 rfl) ?_
                  refine lv_iload hx hb dX2_wholeOf_241 (lv_at hl 0 rfl) ?_
                  refine lv_if_eq (tgt := 254) hx hb dX2_wholeOf_243 (by decide) (fun z_9 => ?_) (fun z_9 => absurd z_9 (by decide))
                  refine lv_lload hx hb dX2_wholeOf_254 (lv_at hl 2 rfl) ?_
                  refine lv_lor hx hb dX2_wholeOf_256 ?_
                  exact W.lret (v := (-9223372036854775808 : Int64) ||| ((a0 &&& (9223372036854775807 : Int64)) - ((a0 &&& (9223372036854775807 : Int64)) &&& (((1 : Int64) <<< (((52 : Int32) - ((((a0 &&& (9223372036854775807 : Int64)) >>> ((52 : Int32).toInt64 &&& 63)).toInt32) - (1023 : Int32))).toInt64 &&& 63)) - (1 : Int64))))) hx hb hr (fun t ht hW => ⟨congrArg (fun z => Outcome.returned (some (Value.long z))) (by unfold f_X2_wholeOf; rw [if_neg c_1, if_neg c_18, if_pos c_19, if_pos c_20, if_neg c_21, if_pos c_22, if_neg c_23, if_pos c_24]), ht⟩) (fun _ h => nomatch h) dX2_wholeOf_257
              · refine lv_iload_n hx hb dX2_wholeOf_181 rfl (lv_at hl 7 rfl) ?_
                refine lv_goto (tgt := 237) hx hb dX2_wholeOf_182 (by decide) ?_
                refine lv_istore (lv' := [(16, .int (1 : Int32)), (15, .int (0 : Int32)), (13, .long ((a0 &&& (9223372036854775807 : Int64)) - ((a0 &&& (9223372036854775807 : Int64)) &&& (((1 : Int64) <<< (((52 : Int32) - ((((a0 &&& (9223372036854775807 : Int64)) >>> ((52 : Int32).toInt64 &&& 63)).toInt32) - (1023 : Int32))).toInt64 &&& 63)) - (1 : Int64))))), (11, .long ((a0 &&& (9223372036854775807 : Int64)) &&& (((1 : Int64) <<< (((52 : Int32) - ((((a0 &&& (9223372036854775807 : Int64)) >>> ((52 : Int32).toInt64 &&& 63)).toInt32) - (1023 : Int32))).toInt64 &&& 63)) - (1 : Int64)))), (9, .long ((1 : Int64) <<< (((52 : Int32) - ((((a0 &&& (9223372036854775807 : Int64)) >>> ((52 : Int32).toInt64 &&& 63)).toInt32) - (1023 : Int32))).toInt64 &&& 63))), (7, .long (-9223372036854775808 : Int64)), (6, .int ((((a0 &&& (9223372036854775807 : Int64)) >>> ((52 : Int32).toInt64 &&& 63)).toInt32) - (1023 : Int32))), (4, .long (a0 &&& (9223372036854775807 : Int64))), (3, .int (1 : Int32)), (0, .long a0), (2, .int a1)]) hx hb dX2_wholeOf_237 hl (by decide) rfl (fun ls hl => ?_)
                refine lv_lload hx hb dX2_wholeOf_239 (lv_at hl 5 rfl) ?_
                refine lv_iload hx hb dX2_wholeOf_241 (lv_at hl 0 rfl) ?_
                refine lv_if_eq (tgt := 254) hx hb dX2_wholeOf_243 (by decide) (fun z_9 => absurd z_9 (by decide)) (fun z_9 => ?_)
                refine lv_lload hx hb dX2_wholeOf_246 (lv_at hl 2 rfl) ?_
                refine lv_lload hx hb dX2_wholeOf_248 (lv_at hl 4 rfl) ?_
                refine lv_ladd hx hb dX2_wholeOf_250 ?_
                refine lv_goto (tgt := 256) hx hb dX2_wholeOf_251 (by decide) ?_
                refine lv_lor hx hb dX2_wholeOf_256 ?_
                exact W.lret (v := (-9223372036854775808 : Int64) ||| (((a0 &&& (9223372036854775807 : Int64)) - ((a0 &&& (9223372036854775807 : Int64)) &&& (((1 : Int64) <<< (((52 : Int32) - ((((a0 &&& (9223372036854775807 : Int64)) >>> ((52 : Int32).toInt64 &&& 63)).toInt32) - (1023 : Int32))).toInt64 &&& 63)) - (1 : Int64)))) + ((1 : Int64) <<< (((52 : Int32) - ((((a0 &&& (9223372036854775807 : Int64)) >>> ((52 : Int32).toInt64 &&& 63)).toInt32) - (1023 : Int32))).toInt64 &&& 63)))) hx hb hr (fun t ht hW => ⟨congrArg (fun z => Outcome.returned (some (Value.long z))) (by unfold f_X2_wholeOf; rw [if_neg c_1, if_neg c_18, if_pos c_19, if_pos c_20, if_neg c_21, if_pos c_22, if_pos c_23]), ht⟩) (fun _ h => nomatch h) dX2_wholeOf_257
            · refine lv_iconst (v := 1) hx hb dX2_wholeOf_169 (by decide) ?_
              refine lv_goto (tgt := 174) hx hb dX2_wholeOf_170 (by decide) ?_
              refine lv_istore (lv' := [(15, .int (1 : Int32)), (13, .long ((a0 &&& (9223372036854775807 : Int64)) - ((a0 &&& (9223372036854775807 : Int64)) &&& (((1 : Int64) <<< (((52 : Int32) - ((((a0 &&& (9223372036854775807 : Int64)) >>> ((52 : Int32).toInt64 &&& 63)).toInt32) - (1023 : Int32))).toInt64 &&& 63)) - (1 : Int64))))), (11, .long ((a0 &&& (9223372036854775807 : Int64)) &&& (((1 : Int64) <<< (((52 : Int32) - ((((a0 &&& (9223372036854775807 : Int64)) >>> ((52 : Int32).toInt64 &&& 63)).toInt32) - (1023 : Int32))).toInt64 &&& 63)) - (1 : Int64)))), (9, .long ((1 : Int64) <<< (((52 : Int32) - ((((a0 &&& (9223372036854775807 : Int64)) >>> ((52 : Int32).toInt64 &&& 63)).toInt32) - (1023 : Int32))).toInt64 &&& 63))), (7, .long (-9223372036854775808 : Int64)), (6, .int ((((a0 &&& (9223372036854775807 : Int64)) >>> ((52 : Int32).toInt64 &&& 63)).toInt32) - (1023 : Int32))), (4, .long (a0 &&& (9223372036854775807 : Int64))), (3, .int (1 : Int32)), (0, .long a0), (2, .int a1)]) hx hb dX2_wholeOf_174 hl (by decide) rfl (fun ls hl => ?_)
              refine lv_iload_n hx hb dX2_wholeOf_176 rfl (lv_at hl 9 rfl) ?_
              refine lv_iconst (v := 5) hx hb dX2_wholeOf_177 (by decide) ?_
              refine lv_icmp_ne (tgt := 185) hx hb dX2_wholeOf_178 (by decide) (fun c_27 => ?_) (fun c_27 => ?_)
              · refine lv_iload_n hx hb dX2_wholeOf_185 rfl (lv_at hl 9 rfl) ?_
                refine lv_bipush (v := 6) hx hb dX2_wholeOf_186 (by decide) ?_
                refine lv_icmp_ne (tgt := 203) hx hb dX2_wholeOf_188 (by decide) (fun c_28 => ?_) (fun c_28 => ?_)
                · refine lv_lload hx hb dX2_wholeOf_203 (lv_at hl 2 rfl) ?_
                  refine lv_lload hx hb dX2_wholeOf_205 (lv_at hl 3 rfl) ?_
                  refine lv_ldc2 (v := 2) hx hb hown (hts (.constantLong RX2 93 2) (by decide +kernel)) dX2_wholeOf_207 ?_
                  refine lv_ldiv hx hb dX2_wholeOf_210 (by decide) ?_
                  refine W.lcmp hx hb dX2_wholeOf_211 ?_
                  refine lv_if_gt (tgt := 232) hx hb dX2_wholeOf_212 (by decide) (fun c_29 => ?_) (fun c_29 => ?_)
                  · refine lv_iconst (v := 1) hx hb dX2_wholeOf_232 (by decide) ?_
                    refine lv_goto (tgt := 237) hx hb dX2_wholeOf_233 (by decide) ?_
                    refine lv_istore (lv' := [(16, .int (1 : Int32)), (15, .int (1 : Int32)), (13, .long ((a0 &&& (9223372036854775807 : Int64)) - ((a0 &&& (9223372036854775807 : Int64)) &&& (((1 : Int64) <<< (((52 : Int32) - ((((a0 &&& (9223372036854775807 : Int64)) >>> ((52 : Int32).toInt64 &&& 63)).toInt32) - (1023 : Int32))).toInt64 &&& 63)) - (1 : Int64))))), (11, .long ((a0 &&& (9223372036854775807 : Int64)) &&& (((1 : Int64) <<< (((52 : Int32) - ((((a0 &&& (9223372036854775807 : Int64)) >>> ((52 : Int32).toInt64 &&& 63)).toInt32) - (1023 : Int32))).toInt64 &&& 63)) - (1 : Int64)))), (9, .long ((1 : Int64) <<< (((52 : Int32) - ((((a0 &&& (9223372036854775807 : Int64)) >>> ((52 : Int32).toInt64 &&& 63)).toInt32) - (1023 : Int32))).toInt64 &&& 63))), (7, .long (-9223372036854775808 : Int64)), (6, .int ((((a0 &&& (9223372036854775807 : Int64)) >>> ((52 : Int32).toInt64 &&& 63)).toInt32) - (1023 : Int32))), (4, .long (a0 &&& (9223372036854775807 : Int64))), (3, .int (1 : Int32)), (0, .long a0), (2, .int a1)]) hx hb dX2_wholeOf_237 hl (by decide) rfl (fun ls hl => ?_)
                    refine lv_lload hx hb dX2_wholeOf_239 (lv_at hl 5 rfl) ?_
                    refine lv_iload hx hb dX2_wholeOf_241 (lv_at hl 0 rfl) ?_
                    refine lv_if_eq (tgt := 254) hx hb dX2_wholeOf_243 (by decide) (fun z_9 => absurd z_9 (by decide)) (fun z_9 => ?_)
                    refine lv_lload hx hb dX2_wholeOf_246 (lv_at hl 2 rfl) ?_
                    refine lv_lload hx hb dX2_wholeOf_248 (lv_at hl 4 rfl) ?_
                    refine lv_ladd hx hb dX2_wholeOf_250 ?_
                    refine lv_goto (tgt := 256) hx hb dX2_wholeOf_251 (by decide) ?_
                    refine lv_lor hx hb dX2_wholeOf_256 ?_
                    exact W.lret (v := (-9223372036854775808 : Int64) ||| (((a0 &&& (9223372036854775807 : Int64)) - ((a0 &&& (9223372036854775807 : Int64)) &&& (((1 : Int64) <<< (((52 : Int32) - ((((a0 &&& (9223372036854775807 : Int64)) >>> ((52 : Int32).toInt64 &&& 63)).toInt32) - (1023 : Int32))).toInt64 &&& 63)) - (1 : Int64)))) + ((1 : Int64) <<< (((52 : Int32) - ((((a0 &&& (9223372036854775807 : Int64)) >>> ((52 : Int32).toInt64 &&& 63)).toInt32) - (1023 : Int32))).toInt64 &&& 63)))) hx hb hr (fun t ht hW => ⟨congrArg (fun z => Outcome.returned (some (Value.long z))) (by unfold f_X2_wholeOf; rw [if_neg c_1, if_neg c_18, if_pos c_19, if_pos c_20, if_neg c_21, if_neg c_22, if_neg c_27, if_neg c_28, if_pos c_29]), ht⟩) (fun _ h => nomatch h) dX2_wholeOf_257
                  · refine lv_lload hx hb dX2_wholeOf_215 (lv_at hl 2 rfl) ?_
                    refine lv_lload hx hb dX2_wholeOf_217 (lv_at hl 3 rfl) ?_
                    refine lv_ldc2 (v := 2) hx hb hown (hts (.constantLong RX2 93 2) (by decide +kernel)) dX2_wholeOf_219 ?_
                    refine lv_ldiv hx hb dX2_wholeOf_222 (by decide) ?_
                    refine W.lcmp hx hb dX2_wholeOf_223 ?_
                    refine lv_if_ne (tgt := 236) hx hb dX2_wholeOf_224 (by decide) (fun c_30 => ?_) (fun c_30 => ?_)
                    · refine lv_iconst (v := 0) hx hb dX2_wholeOf_236 (by decide) ?_
                      refine lv_istore (lv' := [(16, .int (0 : Int32)), (15, .int (1 : Int32)), (13, .long ((a0 &&& (9223372036854775807 : Int64)) - ((a0 &&& (9223372036854775807 : Int64)) &&& (((1 : Int64) <<< (((52 : Int32) - ((((a0 &&& (9223372036854775807 : Int64)) >>> ((52 : Int32).toInt64 &&& 63)).toInt32) - (1023 : Int32))).toInt64 &&& 63)) - (1 : Int64))))), (11, .long ((a0 &&& (9223372036854775807 : Int64)) &&& (((1 : Int64) <<< (((52 : Int32) - ((((a0 &&& (9223372036854775807 : Int64)) >>> ((52 : Int32).toInt64 &&& 63)).toInt32) - (1023 : Int32))).toInt64 &&& 63)) - (1 : Int64)))), (9, .long ((1 : Int64) <<< (((52 : Int32) - ((((a0 &&& (9223372036854775807 : Int64)) >>> ((52 : Int32).toInt64 &&& 63)).toInt32) - (1023 : Int32))).toInt64 &&& 63))), (7, .long (-9223372036854775808 : Int64)), (6, .int ((((a0 &&& (9223372036854775807 : Int64)) >>> ((52 : Int32).toInt64 &&& 63)).toInt32) - (1023 : Int32))), (4, .long (a0 &&& (9223372036854775807 : Int64))), (3, .int (1 : Int32)), (0, .long a0), (2, .int a1)]) hx hb dX2_wholeOf_237 hl (by decide) rfl (fun ls hl => ?_)
                      refine lv_lload hx hb dX2_wholeOf_239 (lv_at hl 5 rfl) ?_
                      refine lv_iload hx hb dX2_wholeOf_241 (lv_at hl 0 rfl) ?_
                      refine lv_if_eq (tgt := 254) hx hb dX2_wholeOf_243 (by decide) (fun z_9 => ?_) (fun z_9 => absurd z_9 (by decide))
                      refine lv_lload hx hb dX2_wholeOf_254 (lv_at hl 2 rfl) ?_
                      refine lv_lor hx hb dX2_wholeOf_256 ?_
                      exact W.lret (v := (-9223372036854775808 : Int64) ||| ((a0 &&& (9223372036854775807 : Int64)) - ((a0 &&& (9223372036854775807 : Int64)) &&& (((1 : Int64) <<< (((52 : Int32) - ((((a0 &&& (9223372036854775807 : Int64)) >>> ((52 : Int32).toInt64 &&& 63)).toInt32) - (1023 : Int32))).toInt64 &&& 63)) - (1 : Int64))))) hx hb hr (fun t ht hW => ⟨congrArg (fun z => Outcome.returned (some (Value.long z))) (by unfold f_X2_wholeOf; rw [if_neg c_1, if_neg c_18, if_pos c_19, if_pos c_20, if_neg c_21, if_neg c_22, if_neg c_27, if_neg c_28, if_neg c_29, if_neg c_30]), ht⟩) (fun _ h => nomatch h) dX2_wholeOf_257
                    · refine lv_iload hx hb dX2_wholeOf_227 (lv_at hl 0 rfl) ?_
                      refine lv_if_eq (tgt := 236) hx hb dX2_wholeOf_229 (by decide) (fun z_9 => absurd z_9 (by decide)) (fun z_9 => ?_)
                      refine lv_iconst (v := 1) hx hb dX2_wholeOf_232 (by decide) ?_
                      refine lv_goto (tgt := 237) hx hb dX2_wholeOf_233 (by decide) ?_
                      refine lv_istore (lv' := [(16, .int (1 : Int32)), (15, .int (1 : Int32)), (13, .long ((a0 &&& (9223372036854775807 : Int64)) - ((a0 &&& (9223372036854775807 : Int64)) &&& (((1 : Int64) <<< (((52 : Int32) - ((((a0 &&& (9223372036854775807 : Int64)) >>> ((52 : Int32).toInt64 &&& 63)).toInt32) - (1023 : Int32))).toInt64 &&& 63)) - (1 : Int64))))), (11, .long ((a0 &&& (9223372036854775807 : Int64)) &&& (((1 : Int64) <<< (((52 : Int32) - ((((a0 &&& (9223372036854775807 : Int64)) >>> ((52 : Int32).toInt64 &&& 63)).toInt32) - (1023 : Int32))).toInt64 &&& 63)) - (1 : Int64)))), (9, .long ((1 : Int64) <<< (((52 : Int32) - ((((a0 &&& (9223372036854775807 : Int64)) >>> ((52 : Int32).toInt64 &&& 63)).toInt32) - (1023 : Int32))).toInt64 &&& 63))), (7, .long (-9223372036854775808 : Int64)), (6, .int ((((a0 &&& (9223372036854775807 : Int64)) >>> ((52 : Int32).toInt64 &&& 63)).toInt32) - (1023 : Int32))), (4, .long (a0 &&& (9223372036854775807 : Int64))), (3, .int (1 : Int32)), (0, .long a0), (2, .int a1)]) hx hb dX2_wholeOf_237 hl (by decide) rfl (fun ls hl => ?_)
                      refine lv_lload hx hb dX2_wholeOf_239 (lv_at hl 5 rfl) ?_
                      refine lv_iload hx hb dX2_wholeOf_241 (lv_at hl 0 rfl) ?_
                      refine lv_if_eq (tgt := 254) hx hb dX2_wholeOf_243 (by decide) (fun z_9 => absurd z_9 (by decide)) (fun z_9 => ?_)
                      refine lv_lload hx hb dX2_wholeOf_246 (lv_at hl 2 rfl) ?_
                      refine lv_lload hx hb dX2_wholeOf_248 (lv_at hl 4 rfl) ?_
                      refine lv_ladd hx hb dX2_wholeOf_250 ?_
                      refine lv_goto (tgt := 256) hx hb dX2_wholeOf_251 (by decide) ?_
                      refine lv_lor hx hb dX2_wholeOf_256 ?_
                      exact W.lret (v := (-9223372036854775808 : Int64) ||| (((a0 &&& (9223372036854775807 : Int64)) - ((a0 &&& (9223372036854775807 : Int64)) &&& (((1 : Int64) <<< (((52 : Int32) - ((((a0 &&& (9223372036854775807 : Int64)) >>> ((52 : Int32).toInt64 &&& 63)).toInt32) - (1023 : Int32))).toInt64 &&& 63)) - (1 : Int64)))) + ((1 : Int64) <<< (((52 : Int32) - ((((a0 &&& (9223372036854775807 : Int64)) >>> ((52 : Int32).toInt64 &&& 63)).toInt32) - (1023 : Int32))).toInt64 &&& 63)))) hx hb hr (fun t ht hW => ⟨congrArg (fun z => Outcome.returned (some (Value.long z))) (by unfold f_X2_wholeOf; rw [if_neg c_1, if_neg c_18, if_pos c_19, if_pos c_20, if_neg c_21, if_neg c_22, if_neg c_27, if_neg c_28, if_neg c_29, if_pos c_30]), ht⟩) (fun _ h => nomatch h) dX2_wholeOf_257
                · refine lv_iload_n hx hb dX2_wholeOf_191 rfl (lv_at hl 7 rfl) ?_
                  refine lv_if_ne (tgt := 199) hx hb dX2_wholeOf_192 (by decide) (fun z_9 => ?_) (fun z_9 => absurd z_9 (by decide))
                  refine lv_iconst (v := 0) hx hb dX2_wholeOf_199 (by decide) ?_
                  refine lv_goto (tgt := 237) hx hb dX2_wholeOf_200 (by decide) ?_
                  refine lv_istore (lv' := [(16, .int (0 : Int32)), (15, .int (1 : Int32)), (13, .long ((a0 &&& (9223372036854775807 : Int64)) - ((a0 &&& (9223372036854775807 : Int64)) &&& (((1 : Int64) <<< (((52 : Int32) - ((((a0 &&& (9223372036854775807 : Int64)) >>> ((52 : Int32).toInt64 &&& 63)).toInt32) - (1023 : Int32))).toInt64 &&& 63)) - (1 : Int64))))), (11, .long ((a0 &&& (9223372036854775807 : Int64)) &&& (((1 : Int64) <<< (((52 : Int32) - ((((a0 &&& (9223372036854775807 : Int64)) >>> ((52 : Int32).toInt64 &&& 63)).toInt32) - (1023 : Int32))).toInt64 &&& 63)) - (1 : Int64)))), (9, .long ((1 : Int64) <<< (((52 : Int32) - ((((a0 &&& (9223372036854775807 : Int64)) >>> ((52 : Int32).toInt64 &&& 63)).toInt32) - (1023 : Int32))).toInt64 &&& 63))), (7, .long (-9223372036854775808 : Int64)), (6, .int ((((a0 &&& (9223372036854775807 : Int64)) >>> ((52 : Int32).toInt64 &&& 63)).toInt32) - (1023 : Int32))), (4, .long (a0 &&& (9223372036854775807 : Int64))), (3, .int (1 : Int32)), (0, .long a0), (2, .int a1)]) hx hb dX2_wholeOf_237 hl (by decide) rfl (fun ls hl => ?_)
                  refine lv_lload hx hb dX2_wholeOf_239 (lv_at hl 5 rfl) ?_
                  refine lv_iload hx hb dX2_wholeOf_241 (lv_at hl 0 rfl) ?_
                  refine lv_if_eq (tgt := 254) hx hb dX2_wholeOf_243 (by decide) (fun z_9 => ?_) (fun z_9 => absurd z_9 (by decide))
                  refine lv_lload hx hb dX2_wholeOf_254 (lv_at hl 2 rfl) ?_
                  refine lv_lor hx hb dX2_wholeOf_256 ?_
                  exact W.lret (v := (-9223372036854775808 : Int64) ||| ((a0 &&& (9223372036854775807 : Int64)) - ((a0 &&& (9223372036854775807 : Int64)) &&& (((1 : Int64) <<< (((52 : Int32) - ((((a0 &&& (9223372036854775807 : Int64)) >>> ((52 : Int32).toInt64 &&& 63)).toInt32) - (1023 : Int32))).toInt64 &&& 63)) - (1 : Int64))))) hx hb hr (fun t ht hW => ⟨congrArg (fun z => Outcome.returned (some (Value.long z))) (by unfold f_X2_wholeOf; rw [if_neg c_1, if_neg c_18, if_pos c_19, if_pos c_20, if_neg c_21, if_neg c_22, if_neg c_27, if_pos c_28]), ht⟩) (fun _ h => nomatch h) dX2_wholeOf_257
              · refine lv_iload_n hx hb dX2_wholeOf_181 rfl (lv_at hl 7 rfl) ?_
                refine lv_goto (tgt := 237) hx hb dX2_wholeOf_182 (by decide) ?_
                refine lv_istore (lv' := [(16, .int (1 : Int32)), (15, .int (1 : Int32)), (13, .long ((a0 &&& (9223372036854775807 : Int64)) - ((a0 &&& (9223372036854775807 : Int64)) &&& (((1 : Int64) <<< (((52 : Int32) - ((((a0 &&& (9223372036854775807 : Int64)) >>> ((52 : Int32).toInt64 &&& 63)).toInt32) - (1023 : Int32))).toInt64 &&& 63)) - (1 : Int64))))), (11, .long ((a0 &&& (9223372036854775807 : Int64)) &&& (((1 : Int64) <<< (((52 : Int32) - ((((a0 &&& (9223372036854775807 : Int64)) >>> ((52 : Int32).toInt64 &&& 63)).toInt32) - (1023 : Int32))).toInt64 &&& 63)) - (1 : Int64)))), (9, .long ((1 : Int64) <<< (((52 : Int32) - ((((a0 &&& (9223372036854775807 : Int64)) >>> ((52 : Int32).toInt64 &&& 63)).toInt32) - (1023 : Int32))).toInt64 &&& 63))), (7, .long (-9223372036854775808 : Int64)), (6, .int ((((a0 &&& (9223372036854775807 : Int64)) >>> ((52 : Int32).toInt64 &&& 63)).toInt32) - (1023 : Int32))), (4, .long (a0 &&& (9223372036854775807 : Int64))), (3, .int (1 : Int32)), (0, .long a0), (2, .int a1)]) hx hb dX2_wholeOf_237 hl (by decide) rfl (fun ls hl => ?_)
                refine lv_lload hx hb dX2_wholeOf_239 (lv_at hl 5 rfl) ?_
                refine lv_iload hx hb dX2_wholeOf_241 (lv_at hl 0 rfl) ?_
                refine lv_if_eq (tgt := 254) hx hb dX2_wholeOf_243 (by decide) (fun z_9 => absurd z_9 (by decide)) (fun z_9 => ?_)
                refine lv_lload hx hb dX2_wholeOf_246 (lv_at hl 2 rfl) ?_
                refine lv_lload hx hb dX2_wholeOf_248 (lv_at hl 4 rfl) ?_
                refine lv_ladd hx hb dX2_wholeOf_250 ?_
                refine lv_goto (tgt := 256) hx hb dX2_wholeOf_251 (by decide) ?_
                refine lv_lor hx hb dX2_wholeOf_256 ?_
                exact W.lret (v := (-9223372036854775808 : Int64) ||| (((a0 &&& (9223372036854775807 : Int64)) - ((a0 &&& (9223372036854775807 : Int64)) &&& (((1 : Int64) <<< (((52 : Int32) - ((((a0 &&& (9223372036854775807 : Int64)) >>> ((52 : Int32).toInt64 &&& 63)).toInt32) - (1023 : Int32))).toInt64 &&& 63)) - (1 : Int64)))) + ((1 : Int64) <<< (((52 : Int32) - ((((a0 &&& (9223372036854775807 : Int64)) >>> ((52 : Int32).toInt64 &&& 63)).toInt32) - (1023 : Int32))).toInt64 &&& 63)))) hx hb hr (fun t ht hW => ⟨congrArg (fun z => Outcome.returned (some (Value.long z))) (by unfold f_X2_wholeOf; rw [if_neg c_1, if_neg c_18, if_pos c_19, if_pos c_20, if_neg c_21, if_neg c_22, if_pos c_27]), ht⟩) (fun _ h => nomatch h) dX2_wholeOf_257
          · refine lv_lload_n hx hb dX2_wholeOf_150 rfl (lv_at hl 6 rfl) ?_
            exact W.lret (v := a0) hx hb hr (fun t ht hW => ⟨congrArg (fun z => Outcome.returned (some (Value.long z))) (by unfold f_X2_wholeOf; rw [if_neg c_1, if_neg c_18, if_pos c_19, if_pos c_20, if_pos c_21]), ht⟩) (fun _ h => nomatch h) dX2_wholeOf_151
        · refine lv_iload_n hx hb dX2_wholeOf_65 rfl (lv_at hl 5 rfl) ?_
          refine lv_iconst (v := 5) hx hb dX2_wholeOf_66 (by decide) ?_
          refine lv_icmp_ne (tgt := 74) hx hb dX2_wholeOf_67 (by decide) (fun c_31 => ?_) (fun c_31 => ?_)
          · refine lv_iload_n hx hb dX2_wholeOf_74 rfl (lv_at hl 5 rfl) ?_
            refine lv_bipush (v := 6) hx hb dX2_wholeOf_75 (by decide) ?_
            refine lv_icmp_ne (tgt := 92) hx hb dX2_wholeOf_77 (by decide) (fun c_32 => ?_) (fun c_32 => ?_)
            · refine lv_lload hx hb dX2_wholeOf_92 (lv_at hl 2 rfl) ?_
              refine lv_ldc2 (v := 4602678819172646912) hx hb hown (hts (.constantLong RX2 91 4602678819172646912) (by decide +kernel)) dX2_wholeOf_94 ?_
              refine W.lcmp hx hb dX2_wholeOf_97 ?_
              refine lv_if_le (tgt := 105) hx hb dX2_wholeOf_98 (by decide) (fun c_33 => ?_) (fun c_33 => ?_)
              · refine lv_iconst (v := 0) hx hb dX2_wholeOf_105 (by decide) ?_
                refine lv_istore (lv' := [(9, .int (0 : Int32)), (7, .long (-9223372036854775808 : Int64)), (6, .int ((((a0 &&& (9223372036854775807 : Int64)) >>> ((52 : Int32).toInt64 &&& 63)).toInt32) - (1023 : Int32))), (4, .long (a0 &&& (9223372036854775807 : Int64))), (3, .int (1 : Int32)), (0, .long a0), (2, .int a1)]) hx hb dX2_wholeOf_106 hl (by decide) rfl (fun ls hl => ?_)
                refine lv_iload hx hb dX2_wholeOf_108 (lv_at hl 0 rfl) ?_
                refine lv_if_eq (tgt := 122) hx hb dX2_wholeOf_110 (by decide) (fun z_9 => ?_) (fun z_9 => absurd z_9 (by decide))
                refine lv_lload hx hb dX2_wholeOf_122 (lv_at hl 1 rfl) ?_
                exact W.lret (v := (-9223372036854775808 : Int64)) hx hb hr (fun t ht hW => ⟨congrArg (fun z => Outcome.returned (some (Value.long z))) (by unfold f_X2_wholeOf; rw [if_neg c_1, if_neg c_18, if_pos c_19, if_neg c_20, if_neg c_31, if_neg c_32, if_pos c_33]), ht⟩) (fun _ h => nomatch h) dX2_wholeOf_124
              · refine lv_iconst (v := 1) hx hb dX2_wholeOf_101 (by decide) ?_
                refine lv_goto (tgt := 106) hx hb dX2_wholeOf_102 (by decide) ?_
                refine lv_istore (lv' := [(9, .int (1 : Int32)), (7, .long (-9223372036854775808 : Int64)), (6, .int ((((a0 &&& (9223372036854775807 : Int64)) >>> ((52 : Int32).toInt64 &&& 63)).toInt32) - (1023 : Int32))), (4, .long (a0 &&& (9223372036854775807 : Int64))), (3, .int (1 : Int32)), (0, .long a0), (2, .int a1)]) hx hb dX2_wholeOf_106 hl (by decide) rfl (fun ls hl => ?_)
                refine lv_iload hx hb dX2_wholeOf_108 (lv_at hl 0 rfl) ?_
                refine lv_if_eq (tgt := 122) hx hb dX2_wholeOf_110 (by decide) (fun z_9 => absurd z_9 (by decide)) (fun z_9 => ?_)
                refine lv_lload hx hb dX2_wholeOf_113 (lv_at hl 1 rfl) ?_
                refine lv_ldc2 (v := 4607182418800017408) hx hb hown (hts (.constantLong RX2 82 4607182418800017408) (by decide +kernel)) dX2_wholeOf_115 ?_
                refine lv_lor hx hb dX2_wholeOf_118 ?_
                refine lv_goto (tgt := 124) hx hb dX2_wholeOf_119 (by decide) ?_
                exact W.lret (v := (-9223372036854775808 : Int64) ||| (4607182418800017408 : Int64)) hx hb hr (fun t ht hW => ⟨congrArg (fun z => Outcome.returned (some (Value.long z))) (by unfold f_X2_wholeOf; rw [if_neg c_1, if_neg c_18, if_pos c_19, if_neg c_20, if_neg c_31, if_neg c_32, if_neg c_33]), ht⟩) (fun _ h => nomatch h) dX2_wholeOf_124
            · refine lv_iload_n hx hb dX2_wholeOf_80 rfl (lv_at hl 3 rfl) ?_
              refine lv_if_ne (tgt := 88) hx hb dX2_wholeOf_81 (by decide) (fun z_9 => ?_) (fun z_9 => absurd z_9 (by decide))
              refine lv_iconst (v := 0) hx hb dX2_wholeOf_88 (by decide) ?_
              refine lv_goto (tgt := 106) hx hb dX2_wholeOf_89 (by decide) ?_
              refine lv_istore (lv' := [(9, .int (0 : Int32)), (7, .long (-9223372036854775808 : Int64)), (6, .int ((((a0 &&& (9223372036854775807 : Int64)) >>> ((52 : Int32).toInt64 &&& 63)).toInt32) - (1023 : Int32))), (4, .long (a0 &&& (9223372036854775807 : Int64))), (3, .int (1 : Int32)), (0, .long a0), (2, .int a1)]) hx hb dX2_wholeOf_106 hl (by decide) rfl (fun ls hl => ?_)
              refine lv_iload hx hb dX2_wholeOf_108 (lv_at hl 0 rfl) ?_
              refine lv_if_eq (tgt := 122) hx hb dX2_wholeOf_110 (by decide) (fun z_9 => ?_) (fun z_9 => absurd z_9 (by decide))
              refine lv_lload hx hb dX2_wholeOf_122 (lv_at hl 1 rfl) ?_
              exact W.lret (v := (-9223372036854775808 : Int64)) hx hb hr (fun t ht hW => ⟨congrArg (fun z => Outcome.returned (some (Value.long z))) (by unfold f_X2_wholeOf; rw [if_neg c_1, if_neg c_18, if_pos c_19, if_neg c_20, if_neg c_31, if_pos c_32]), ht⟩) (fun _ h => nomatch h) dX2_wholeOf_124
          · refine lv_iload_n hx hb dX2_wholeOf_70 rfl (lv_at hl 3 rfl) ?_
            refine lv_goto (tgt := 106) hx hb dX2_wholeOf_71 (by decide) ?_
            refine lv_istore (lv' := [(9, .int (1 : Int32)), (7, .long (-9223372036854775808 : Int64)), (6, .int ((((a0 &&& (9223372036854775807 : Int64)) >>> ((52 : Int32).toInt64 &&& 63)).toInt32) - (1023 : Int32))), (4, .long (a0 &&& (9223372036854775807 : Int64))), (3, .int (1 : Int32)), (0, .long a0), (2, .int a1)]) hx hb dX2_wholeOf_106 hl (by decide) rfl (fun ls hl => ?_)
            refine lv_iload hx hb dX2_wholeOf_108 (lv_at hl 0 rfl) ?_
            refine lv_if_eq (tgt := 122) hx hb dX2_wholeOf_110 (by decide) (fun z_9 => absurd z_9 (by decide)) (fun z_9 => ?_)
            refine lv_lload hx hb dX2_wholeOf_113 (lv_at hl 1 rfl) ?_
            refine lv_ldc2 (v := 4607182418800017408) hx hb hown (hts (.constantLong RX2 82 4607182418800017408) (by decide +kernel)) dX2_wholeOf_115 ?_
            refine lv_lor hx hb dX2_wholeOf_118 ?_
            refine lv_goto (tgt := 124) hx hb dX2_wholeOf_119 (by decide) ?_
            exact W.lret (v := (-9223372036854775808 : Int64) ||| (4607182418800017408 : Int64)) hx hb hr (fun t ht hW => ⟨congrArg (fun z => Outcome.returned (some (Value.long z))) (by unfold f_X2_wholeOf; rw [if_neg c_1, if_neg c_18, if_pos c_19, if_neg c_20, if_pos c_31]), ht⟩) (fun _ h => nomatch h) dX2_wholeOf_124
      · refine lv_lload_n hx hb dX2_wholeOf_45 rfl (lv_at hl 3 rfl) ?_
        exact W.lret (v := a0) hx hb hr (fun t ht hW => ⟨congrArg (fun z => Outcome.returned (some (Value.long z))) (by unfold f_X2_wholeOf; rw [if_neg c_1, if_neg c_18, if_neg c_19]), ht⟩) (fun _ h => nomatch h) dX2_wholeOf_46
