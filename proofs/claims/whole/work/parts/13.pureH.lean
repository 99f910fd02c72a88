def lp_X1_highestBit (a0 : Int64) : Nat → Int32
  | 0 => nI 0
  | n + 1 => if lg_cmp ((a0.toUInt64 >>> ((nI (n + 1)).toInt64.toUInt64 &&& Int64.toUInt64 63)).toInt64) (0 : Int64) = 0 then lp_X1_highestBit a0 n else nI (n + 1)
def f_X1_highestBit (a0 : Int64) : Int32 := lp_X1_highestBit a0 63
set_option maxHeartbeats 4000000 in
set_option maxRecDepth 100000 in
theorem c_X1_highestBit (l : Launch) (H0 : Heap) (a0 : Int64) : pu l yX1_highestBit wsX1_highestBit ({ frames := 0, cells := 0, slots := 0, locals := 0 }) [.long a0] (fun _ => True) H0 (some (.int (f_X1_highestBit a0))) := by
  refine Met.ofW (cc := cX1_highestBit) (maxL := 3) (ret := (some .int)) (by decide) rfl ?_
  intro p e s m args below meth c s₁ B hml hv
  obtain ⟨rfl, hH, -⟩ := hv
  have hx := B.exec
  have hb := B.bytes
  have hr := B.returns
  have hts := atoms_spec (ws := wsX1_highestBit) B.pre
  have hown : s.vm.findClass RX1 = some m.cls := findClass_of_methodNamed B.named
  have hlocks := B.notSynchronized
  subst hH
  have hl := lv_entry ([.long a0]) (n := 3) (Nat.le_of_ble_eq_true rfl)
  rw [lg_entry_eq]
  generalize (lg_sl ([.long a0]) ++ List.replicate (3 - (lg_sl ([.long a0])).length) Slot.unset).toArray = ls at hl ⊢
  have hl : lv_has ls 3 [(0, .long a0)] := hl
  have hloop : ∀ n : Nat, n ≤ 63 → lp_X1_highestBit a0 n = f_X1_highestBit a0 → ∀ ls : Array Slot, lv_has ls 3 [(2, .int (nI n)), (0, .long a0)] → W p l e (headSpec wsX1_highestBit { frames := 0, cells := 0, slots := 0, locals := 0 }).room s m [Value.long a0].toArray below meth c s.heap [] 0 0 (MQ below (fun _ _ o t => o = .returned (some (.int (f_X1_highestBit a0))) ∧ t.heap = s.heap) [Value.long a0].toArray s 0 0 (fun _ => False)) (F0 m 3 ls []) := by
    intro n
    induction n with
    | zero =>
      intro _ hf ls hl
      refine lv_iload_n hx hb dX1_highestBit_3 rfl (lv_at hl 0 rfl) ?_
      refine lv_if_le (tgt := 21) hx hb dX1_highestBit_4 (by decide) (fun c_1 => ?_) (fun c_1 => absurd (by decide) c_1)
      refine lv_iload_n hx hb dX1_highestBit_21 rfl (lv_at hl 0 rfl) ?_
      exact W.iret (v := nI 0) hx hb hr (fun t ht hW => ⟨congrArg (fun z => Outcome.returned (some (Value.int z))) hf, ht⟩) (fun _ h => nomatch h) dX1_highestBit_22
    | succ n ih =>
      intro hn hf ls hl
      refine lv_iload_n hx hb dX1_highestBit_3 rfl (lv_at hl 0 rfl) ?_
      refine lv_if_le (tgt := 21) hx hb dX1_highestBit_4 (by decide) (fun c_1 => absurd c_1 (nI_nle (by omega) (by omega))) (fun c_1 => ?_)
      refine lv_lload_n hx hb dX1_highestBit_7 rfl (lv_at hl 1 rfl) ?_
      refine lv_iload_n hx hb dX1_highestBit_8 rfl (lv_at hl 0 rfl) ?_
      refine lv_lushr hx hb dX1_highestBit_9 rfl ?_
      refine lv_lconst (v := 0) hx hb dX1_highestBit_10 (by decide) ?_
      refine W.lcmp hx hb dX1_highestBit_11 ?_
      refine lv_if_ne (tgt := 21) hx hb dX1_highestBit_12 (by decide) (fun c_2 => ?_) (fun c_2 => ?_)
      · refine lv_iload_n hx hb dX1_highestBit_21 rfl (lv_at hl 0 rfl) ?_
        exact W.iret (v := nI (n + 1)) hx hb hr (fun t ht hW => ⟨congrArg (fun z => Outcome.returned (some (Value.int z))) (by rw [← hf, lp_X1_highestBit, if_neg c_2]), ht⟩) (fun _ h => nomatch h) dX1_highestBit_22
      · refine lv_iinc (v := nI n) (lv' := [(2, .int (nI n)), (0, .long a0)]) hx hb dX1_highestBit_15 hl (k := 0) rfl (pk_m1 n) (by decide) rfl (fun ls hl => ?_)
        refine lv_goto (tgt := 3) hx hb dX1_highestBit_18 (by decide) ?_
        exact ih (by omega) (by rw [← hf, lp_X1_highestBit, if_pos c_2]) ls hl
  refine lv_bipush (v := 63) hx hb dX1_highestBit_0 (by decide) ?_
  refine lv_istore_n (lv' := [(2, .int 63), (0, .long a0)]) hx hb dX1_highestBit_2 rfl hl (by decide) rfl (fun ls hl => ?_)
  exact hloop 63 (Nat.le_refl _) rfl ls hl
def f_X1_wholeAsReal (a0 : Int64) (a1 : Int32) (a2 : Int32) (a3 : Int32) : Int64 := (if (lg_cmp a0 (0 : Int64)) = 0 then (0 : Int64) else (if 0 ≤ (lg_cmp a0 (0 : Int64)) then f_X1_withSign (((((f_X1_highestBit a0) + a2).toInt64) <<< (a1.toInt64 &&& 63)) + ((f_X1_cutTo a0 ((f_X1_highestBit a0) - a1)) - ((1 : Int64) <<< (a1.toInt64 &&& 63)))) (0 : Int32) a3 else f_X1_withSign (((((f_X1_highestBit (-a0)) + a2).toInt64) <<< (a1.toInt64 &&& 63)) + ((f_X1_cutTo (-a0) ((f_X1_highestBit (-a0)) - a1)) - ((1 : Int64) <<< (a1.toInt64 &&& 63)))) (1 : Int32) a3))
set_option maxHeartbeats 4000000 in
set_option maxRecDepth 100000 in
theorem c_X1_wholeAsReal (l : Launch) (H0 : Heap) (a0 : Int64) (a1 : Int32) (a2 : Int32) (a3 : Int32) : pu l yX1_wholeAsReal wsX1_wholeAsReal ({ frames := 2, cells := 0, slots := 0, locals := 52 }) [.long a0, .int a1, .int a2, .int a3] (fun _ => True) H0 (some (.long (f_X1_wholeAsReal a0 a1 a2 a3))) := by
  refine Met.ofW (cc := cX1_wholeAsReal) (maxL := 14) (ret := (some .long)) (by decide) rfl ?_
  intro p e s m args below meth c s₁ B hml hv
  obtain ⟨rfl, hH, -⟩ := hv
  have hx := B.exec
  have hb := B.bytes
  have hr := B.returns
  have hts := atoms_spec (ws := wsX1_wholeAsReal) B.pre
  have hown : s.vm.findClass RX1 = some m.cls := findClass_of_methodNamed B.named
  have hlocks := B.notSynchronized
  subst hH
  have hl := lv_entry ([.long a0, .int a1, .int a2, .int a3]) (n := 14) (Nat.le_of_ble_eq_true rfl)
  rw [lg_entry_eq]
  generalize (lg_sl ([.long a0, .int a1, .int a2, .int a3]) ++ List.replicate (14 - (lg_sl ([.long a0, .int a1, .int a2, .int a3])).length) Slot.unset).toArray = ls at hl ⊢
  have hl : lv_has ls 14 [(0, .long a0), (2, .int a1), (3, .int a2), (4, .int a3)] := hl
  refine lv_lload_n hx hb dX1_wholeAsReal_0 rfl (lv_at hl 0 rfl) ?_
  refine lv_lconst (v := 0) hx hb dX1_wholeAsReal_1 (by decide) ?_
  refine W.lcmp hx hb dX1_wholeAsReal_2 ?_
  refine lv_if_ne (tgt := 8) hx hb dX1_wholeAsReal_3 (by decide) (fun c_1 => ?_) (fun c_1 => ?_)
  · refine lv_lload_n hx hb dX1_wholeAsReal_8 rfl (lv_at hl 0 rfl) ?_
    refine lv_lconst (v := 0) hx hb dX1_wholeAsReal_9 (by decide) ?_
    refine W.lcmp hx hb dX1_wholeAsReal_10 ?_
    refine lv_if_ge (tgt := 19) hx hb dX1_wholeAsReal_11 (by decide) (fun c_2 => ?_) (fun c_2 => ?_)
    · refine lv_lload_n hx hb dX1_wholeAsReal_19 rfl (lv_at hl 0 rfl) ?_
      refine lv_lstore (lv' := [(5, .long a0), (0, .long a0), (2, .int a1), (3, .int a2), (4, .int a3)]) hx hb dX1_wholeAsReal_20 hl (by decide) rfl (fun ls hl => ?_)
      refine lv_lload hx hb dX1_wholeAsReal_22 (lv_at hl 0 rfl) ?_
      refine pu_S (As := [.long a0]) (rest := []) ⟨hx, hb, hml, hown, hts⟩ (c_X1_highestBit l s.heap a0) puK_T trivial (va_cwS 1 hts gX1_wholeAsReal_X1_highestBit rfl rfl rfl (by decide +kernel) ⟨Nat.le_of_ble_eq_true rfl, Nat.le_of_ble_eq_true rfl⟩) rfl hl.1 rfl (Nat.le_of_ble_eq_true rfl) dX1_wholeAsReal_24 ⟨Nat.zero_le _, Nat.zero_le _⟩ ?_
      refine W.eq (g2 := F0 m 27 ls [.int (f_X1_highestBit a0)]) rfl ?_
      refine lv_istore (lv' := [(7, .int (f_X1_highestBit a0)), (5, .long a0), (0, .long a0), (2, .int a1), (3, .int a2), (4, .int a3)]) hx hb dX1_wholeAsReal_27 hl (by decide) rfl (fun ls hl => ?_)
      refine lv_lload hx hb dX1_wholeAsReal_29 (lv_at hl 1 rfl) ?_
      refine lv_iload hx hb dX1_wholeAsReal_31 (lv_at hl 0 rfl) ?_
      refine lv_iload_n hx hb dX1_wholeAsReal_33 rfl (lv_at hl 3 rfl) ?_
      refine lv_isub hx hb dX1_wholeAsReal_34 ?_
      refine pu_S (As := [.long a0, .int ((f_X1_highestBit a0) - a1)]) (rest := []) ⟨hx, hb, hml, hown, hts⟩ (c_X1_cutTo l s.heap a0 ((f_X1_highestBit a0) - a1)) puK_T trivial (va_cwS 2 hts gX1_wholeAsReal_X1_cutTo rfl rfl rfl (by decide +kernel) ⟨Nat.le_of_ble_eq_true rfl, Nat.le_of_ble_eq_true rfl⟩) rfl hl.1 rfl (Nat.le_of_ble_eq_true rfl) dX1_wholeAsReal_35 ⟨Nat.zero_le _, Nat.zero_le _⟩ ?_
      refine W.eq (g2 := F0 m 38 ls [.long (f_X1_cutTo a0 ((f_X1_highestBit a0) - a1))]) rfl ?_
      refine lv_lstore (lv' := [(8, .long (f_X1_cutTo a0 ((f_X1_highestBit a0) - a1))), (7, .int (f_X1_highestBit a0)), (5, .long a0), (0, .long a0), (2, .int a1), (3, .int a2), (4, .int a3)]) hx hb dX1_wholeAsReal_38 hl (by decide) rfl (fun ls hl => ?_)
      refine lv_lconst (v := 1) hx hb dX1_wholeAsReal_40 (by decide) ?_
      refine lv_iload_n hx hb dX1_wholeAsReal_41 rfl (lv_at hl 4 rfl) ?_
      refine lv_lshl hx hb dX1_wholeAsReal_42 rfl ?_
      refine lv_lstore (lv' := [(10, .long ((1 : Int64) <<< (a1.toInt64 &&& 63))), (8, .long (f_X1_cutTo a0 ((f_X1_highestBit a0) - a1))), (7, .int (f_X1_highestBit a0)), (5, .long a0), (0, .long a0), (2, .int a1), (3, .int a2), (4, .int a3)]) hx hb dX1_wholeAsReal_43 hl (by decide) rfl (fun ls hl => ?_)
      refine lv_iload hx hb dX1_wholeAsReal_45 (lv_at hl 2 rfl) ?_
      refine lv_iload_n hx hb dX1_wholeAsReal_47 rfl (lv_at hl 6 rfl) ?_
      refine lv_iadd hx hb dX1_wholeAsReal_48 ?_
      refine lv_i2l hx hb dX1_wholeAsReal_49 rfl ?_
      refine lv_iload_n hx hb dX1_wholeAsReal_50 rfl (lv_at hl 5 rfl) ?_
      refine lv_lshl hx hb dX1_wholeAsReal_51 rfl ?_
      refine lv_lload hx hb dX1_wholeAsReal_52 (lv_at hl 1 rfl) ?_
      refine lv_lload hx hb dX1_wholeAsReal_54 (lv_at hl 0 rfl) ?_
      refine lv_lsub hx hb dX1_wholeAsReal_56 ?_
      refine lv_ladd hx hb dX1_wholeAsReal_57 ?_
      refine lv_lstore (lv' := [(12, .long (((((f_X1_highestBit a0) + a2).toInt64) <<< (a1.toInt64 &&& 63)) + ((f_X1_cutTo a0 ((f_X1_highestBit a0) - a1)) - ((1 : Int64) <<< (a1.toInt64 &&& 63))))), (10, .long ((1 : Int64) <<< (a1.toInt64 &&& 63))), (8, .long (f_X1_cutTo a0 ((f_X1_highestBit a0) - a1))), (7, .int (f_X1_highestBit a0)), (5, .long a0), (0, .long a0), (2, .int a1), (3, .int a2), (4, .int a3)]) hx hb dX1_wholeAsReal_58 hl (by decide) rfl (fun ls hl => ?_)
      refine lv_lload hx hb dX1_wholeAsReal_60 (lv_at hl 0 rfl) ?_
      refine lv_lload_n hx hb dX1_wholeAsReal_62 rfl (lv_at hl 5 rfl) ?_
      refine lv_lconst (v := 0) hx hb dX1_wholeAsReal_63 (by decide) ?_
      refine W.lcmp hx hb dX1_wholeAsReal_64 ?_
      refine lv_if_ge (tgt := 72) hx hb dX1_wholeAsReal_65 (by decide) (fun z_9 => ?_) (fun z_9 => absurd c_2 z_9)
      refine lv_iconst (v := 0) hx hb dX1_wholeAsReal_72 (by decide) ?_
      refine lv_iload hx hb dX1_wholeAsReal_73 (lv_at hl 8 rfl) ?_
      refine pu_S (As := [.long (((((f_X1_highestBit a0) + a2).toInt64) <<< (a1.toInt64 &&& 63)) + ((f_X1_cutTo a0 ((f_X1_highestBit a0) - a1)) - ((1 : Int64) <<< (a1.toInt64 &&& 63)))), .int (0 : Int32), .int a3]) (rest := []) ⟨hx, hb, hml, hown, hts⟩ (c_X1_withSign l s.heap (((((f_X1_highestBit a0) + a2).toInt64) <<< (a1.toInt64 &&& 63)) + ((f_X1_cutTo a0 ((f_X1_highestBit a0) - a1)) - ((1 : Int64) <<< (a1.toInt64 &&& 63)))) (0 : Int32) a3) puK_T trivial (va_cwS 3 hts gX1_wholeAsReal_X1_withSign rfl rfl rfl (by decide +kernel) ⟨Nat.le_of_ble_eq_true rfl, Nat.le_of_ble_eq_true rfl⟩) rfl hl.1 rfl (Nat.le_of_ble_eq_true rfl) dX1_wholeAsReal_75 ⟨Nat.zero_le _, Nat.zero_le _⟩ ?_
      refine W.eq (g2 := F0 m 78 ls [.long (f_X1_withSign (((((f_X1_highestBit a0) + a2).toInt64) <<< (a1.toInt64 &&& 63)) + ((f_X1_cutTo a0 ((f_X1_highestBit a0) - a1)) - ((1 : Int64) <<< (a1.toInt64 &&& 63)))) (0 : Int32) a3)]) rfl ?_
      exact W.lret (v := f_X1_withSign (((((f_X1_highestBit a0) + a2).toInt64) <<< (a1.toInt64 &&& 63)) + ((f_X1_cutTo a0 ((f_X1_highestBit a0) - a1)) - ((1 : Int64) <<< (a1.toInt64 &&& 63)))) (0 : Int32) a3) hx hb hr (fun t ht hW => ⟨congrArg (fun z => Outcome.returned (some (Value.long z))) (by unfold f_X1_wholeAsReal; rw [if_neg c_1, if_pos c_2]), ht⟩) (fun _ h => nomatch h) dX1_wholeAsReal_78
    · refine lv_lload_n hx hb dX1_wholeAsReal_14 rfl (lv_at hl 0 rfl) ?_
      refine lv_lneg hx hb dX1_wholeAsReal_15 ?_
      refine lv_goto (tgt := 20) hx hb dX1_wholeAsReal_16 (by decide) ?_
      refine lv_lstore (lv' := [(5, .long (-a0)), (0, .long a0), (2, .int a1), (3, .int a2), (4, .int a3)]) hx hb dX1_wholeAsReal_20 hl (by decide) rfl (fun ls hl => ?_)
      refine lv_lload hx hb dX1_wholeAsReal_22 (lv_at hl 0 rfl) ?_
      refine pu_S (As := [.long (-a0)]) (rest := []) ⟨hx, hb, hml, hown, hts⟩ (c_X1_highestBit l s.heap (-a0)) puK_T trivial (va_cwS 1 hts gX1_wholeAsReal_X1_highestBit rfl rfl rfl (by decide +kernel) ⟨Nat.le_of_ble_eq_true rfl, Nat.le_of_ble_eq_true rfl⟩) rfl hl.1 rfl (Nat.le_of_ble_eq_true rfl) dX1_wholeAsReal_24 ⟨Nat.zero_le _, Nat.zero_le _⟩ ?_
      refine W.eq (g2 := F0 m 27 ls [.int (f_X1_highestBit (-a0))]) rfl ?_
      refine lv_istore (lv' := [(7, .int (f_X1_highestBit (-a0))), (5, .long (-a0)), (0, .long a0), (2, .int a1), (3, .int a2), (4, .int a3)]) hx hb dX1_wholeAsReal_27 hl (by decide) rfl (fun ls hl => ?_)
      refine lv_lload hx hb dX1_wholeAsReal_29 (lv_at hl 1 rfl) ?_
      refine lv_iload hx hb dX1_wholeAsReal_31 (lv_at hl 0 rfl) ?_
      refine lv_iload_n hx hb dX1_wholeAsReal_33 rfl (lv_at hl 3 rfl) ?_
      refine lv_isub hx hb dX1_wholeAsReal_34 ?_
      refine pu_S (As := [.long (-a0), .int ((f_X1_highestBit (-a0)) - a1)]) (rest := []) ⟨hx, hb, hml, hown, hts⟩ (c_X1_cutTo l s.heap (-a0) ((f_X1_highestBit (-a0)) - a1)) puK_T trivial (va_cwS 2 hts gX1_wholeAsReal_X1_cutTo rfl rfl rfl (by decide +kernel) ⟨Nat.le_of_ble_eq_true rfl, Nat.le_of_ble_eq_true rfl⟩) rfl hl.1 rfl (Nat.le_of_ble_eq_true rfl) dX1_wholeAsReal_35 ⟨Nat.zero_le _, Nat.zero_le _⟩ ?_
      refine W.eq (g2 := F0 m 38 ls [.long (f_X1_cutTo (-a0) ((f_X1_highestBit (-a0)) - a1))]) rfl ?_
      refine lv_lstore (lv' := [(8, .long (f_X1_cutTo (-a0) ((f_X1_highestBit (-a0)) - a1))), (7, .int (f_X1_highestBit (-a0))), (5, .long (-a0)), (0, .long a0), (2, .int a1), (3, .int a2), (4, .int a3)]) hx hb dX1_wholeAsReal_38 hl (by decide) rfl (fun ls hl => ?_)
      refine lv_lconst (v := 1) hx hb dX1_wholeAsReal_40 (by decide) ?_
      refine lv_iload_n hx hb dX1_wholeAsReal_41 rfl (lv_at hl 4 rfl) ?_
      refine lv_lshl hx hb dX1_wholeAsReal_42 rfl ?_
      refine lv_lstore (lv' := [(10, .long ((1 : Int64) <<< (a1.toInt64 &&& 63))), (8, .long (f_X1_cutTo (-a0) ((f_X1_highestBit (-a0)) - a1))), (7, .int (f_X1_highestBit (-a0))), (5, .long (-a0)), (0, .long a0), (2, .int a1), (3, .int a2), (4, .int a3)]) hx hb dX1_wholeAsReal_43 hl (by decide) rfl (fun ls hl => ?_)
      refine lv_iload hx hb dX1_wholeAsReal_45 (lv_at hl 2 rfl) ?_
      refine lv_iload_n hx hb dX1_wholeAsReal_47 rfl (lv_at hl 6 rfl) ?_
      refine lv_iadd hx hb dX1_wholeAsReal_48 ?_
      refine lv_i2l hx hb dX1_wholeAsReal_49 rfl ?_
      refine lv_iload_n hx hb dX1_wholeAsReal_50 rfl (lv_at hl 5 rfl) ?_
      refine lv_lshl hx hb dX1_wholeAsReal_51 rfl ?_
      refine lv_lload hx hb dX1_wholeAsReal_52 (lv_at hl 1 rfl) ?_
      refine lv_lload hx hb dX1_wholeAsReal_54 (lv_at hl 0 rfl) ?_
      refine lv_lsub hx hb dX1_wholeAsReal_56 ?_
      refine lv_ladd hx hb dX1_wholeAsReal_57 ?_
      refine lv_lstore (lv' := [(12, .long (((((f_X1_highestBit (-a0)) + a2).toInt64) <<< (a1.toInt64 &&& 63)) + ((f_X1_cutTo (-a0) ((f_X1_highestBit (-a0)) - a1)) - ((1 : Int64) <<< (a1.toInt64 &&& 63))))), (10, .long ((1 : Int64) <<< (a1.toInt64 &&& 63))), (8, .long (f_X1_cutTo (-a0) ((f_X1_highestBit (-a0)) - a1))), (7, .int (f_X1_highestBit (-a0))), (5, .long (-a0)), (0, .long a0), (2, .int a1), (3, .int a2), (4, .int a3)]) hx hb dX1_wholeAsReal_58 hl (by decide) rfl (fun ls hl => ?_)
      refine lv_lload hx hb dX1_wholeAsReal_60 (lv_at hl 0 rfl) ?_
      refine lv_lload_n hx hb dX1_wholeAsReal_62 rfl (lv_at hl 5 rfl) ?_
      refine lv_lconst (v := 0) hx hb dX1_wholeAsReal_63 (by decide) ?_
      refine W.lcmp hx hb dX1_wholeAsReal_64 ?_
      refine lv_if_ge (tgt := 72) hx hb dX1_wholeAsReal_65 (by decide) (fun z_9 => absurd z_9 c_2) (fun z_9 => ?_)
      refine lv_iconst (v := 1) hx hb dX1_wholeAsReal_68 (by decide) ?_
      refine lv_goto (tgt := 73) hx hb dX1_wholeAsReal_69 (by decide) ?_
      refine lv_iload hx hb dX1_wholeAsReal_73 (lv_at hl 8 rfl) ?_
      refine pu_S (As := [.long (((((f_X1_highestBit (-a0)) + a2).toInt64) <<< (a1.toInt64 &&& 63)) + ((f_X1_cutTo (-a0) ((f_X1_highestBit (-a0)) - a1)) - ((1 : Int64) <<< (a1.toInt64 &&& 63)))), .int (1 : Int32), .int a3]) (rest := []) ⟨hx, hb, hml, hown, hts⟩ (c_X1_withSign l s.heap (((((f_X1_highestBit (-a0)) + a2).toInt64) <<< (a1.toInt64 &&& 63)) + ((f_X1_cutTo (-a0) ((f_X1_highestBit (-a0)) - a1)) - ((1 : Int64) <<< (a1.toInt64 &&& 63)))) (1 : Int32) a3) puK_T trivial (va_cwS 3 hts gX1_wholeAsReal_X1_withSign rfl rfl rfl (by decide +kernel) ⟨Nat.le_of_ble_eq_true rfl, Nat.le_of_ble_eq_true rfl⟩) rfl hl.1 rfl (Nat.le_of_ble_eq_true rfl) dX1_wholeAsReal_75 ⟨Nat.zero_le _, Nat.zero_le _⟩ ?_
      refine W.eq (g2 := F0 m 78 ls [.long (f_X1_withSign (((((f_X1_highestBit (-a0)) + a2).toInt64) <<< (a1.toInt64 &&& 63)) + ((f_X1_cutTo (-a0) ((f_X1_highestBit (-a0)) - a1)) - ((1 : Int64) <<< (a1.toInt64 &&& 63)))) (1 : Int32) a3)]) rfl ?_
      exact W.lret (v := f_X1_withSign (((((f_X1_highestBit (-a0)) + a2).toInt64) <<< (a1.toInt64 &&& 63)) + ((f_X1_cutTo (-a0) ((f_X1_highestBit (-a0)) - a1)) - ((1 : Int64) <<< (a1.toInt64 &&& 63)))) (1 : Int32) a3) hx hb hr (fun t ht hW => ⟨congrArg (fun z => Outcome.returned (some (Value.long z))) (by unfold f_X1_wholeAsReal; rw [if_neg c_1, if_neg c_2]), ht⟩) (fun _ h => nomatch h) dX1_wholeAsReal_78
  · refine lv_lconst (v := 0) hx hb dX1_wholeAsReal_6 (by decide) ?_
    exact W.lret (v := (0 : Int64)) hx hb hr (fun t ht hW => ⟨congrArg (fun z => Outcome.returned (some (Value.long z))) (by unfold f_X1_wholeAsReal; rw [if_pos c_1]), ht⟩) (fun _ h => nomatch h) dX1_wholeAsReal_7
def f_X1_sizeAsDouble (a0 : Int64) : Int64 := (if (lg_cmp a0 (0 : Int64)) = 0 then (0 : Int64) else (if (lg_cmp a0 (2139095040 : Int64)) = 0 then (9218868437227405312 : Int64) else (if (lg_cmp ((a0.toUInt64 >>> ((23 : Int32).toInt64.toUInt64 &&& Int64.toUInt64 63)).toInt64) (0 : Int64)) = 0 then (f_X1_wholeAsReal a0 (52 : Int32) (1023 : Int32) (3 : Int32)) - (671036344478203904 : Int64) else (a0 <<< ((29 : Int32).toInt64 &&& 63)) + (4035225266123964416 : Int64))))
set_option maxHeartbeats 4000000 in
set_option maxRecDepth 100000 in
theorem c_X1_sizeAsDouble (l : Launch) (H0 : Heap) (a0 : Int64) : pu l yX1_sizeAsDouble wsX1_sizeAsDouble ({ frames := 3, cells := 0, slots := 0, locals := 85 }) [.long a0] (fun _ => True) H0 (some (.long (f_X1_sizeAsDouble a0))) := by
  refine Met.ofW (cc := cX1_sizeAsDouble) (maxL := 4) (ret := (some .long)) (by decide) rfl ?_
  intro p e s m args below meth c s₁ B hml hv
  obtain ⟨rfl, hH, -⟩ := hv
  have hx := B.exec
  have hb := B.bytes
  have hr := B.returns
  have hts := atoms_spec (ws := wsX1_sizeAsDouble) B.pre
  have hown : s.vm.findClass RX1 = some m.cls := findClass_of_methodNamed B.named
  have hlocks := B.notSynchronized
  subst hH
  have hl := lv_entry ([.long a0]) (n := 4) (Nat.le_of_ble_eq_true rfl)
  rw [lg_entry_eq]
  generalize (lg_sl ([.long a0]) ++ List.replicate (4 - (lg_sl ([.long a0])).length) Slot.unset).toArray = ls at hl ⊢
  have hl : lv_has ls 4 [(0, .long a0)] := hl
  refine lv_lload_n hx hb dX1_sizeAsDouble_0 rfl (lv_at hl 0 rfl) ?_
  refine lv_lconst (v := 0) hx hb dX1_sizeAsDouble_1 (by decide) ?_
  refine W.lcmp hx hb dX1_sizeAsDouble_2 ?_
  refine lv_if_ne (tgt := 8) hx hb dX1_sizeAsDouble_3 (by decide) (fun c_1 => ?_) (fun c_1 => ?_)
  · refine lv_lload_n hx hb dX1_sizeAsDouble_8 rfl (lv_at hl 0 rfl) ?_
    refine lv_ldc2 (v := 2139095040) hx hb hown (hts (.constantLong RX1 175 2139095040) (by decide +kernel)) dX1_sizeAsDouble_9 ?_
    refine W.lcmp hx hb dX1_sizeAsDouble_12 ?_
    refine lv_if_ne (tgt := 20) hx hb dX1_sizeAsDouble_13 (by decide) (fun c_2 => ?_) (fun c_2 => ?_)
    · refine lv_lload_n hx hb dX1_sizeAsDouble_20 rfl (lv_at hl 0 rfl) ?_
      refine lv_bipush (v := 23) hx hb dX1_sizeAsDouble_21 (by decide) ?_
      refine lv_lushr hx hb dX1_sizeAsDouble_23 rfl ?_
      refine lv_lconst (v := 0) hx hb dX1_sizeAsDouble_24 (by decide) ?_
      refine W.lcmp hx hb dX1_sizeAsDouble_25 ?_
      refine lv_if_ne (tgt := 46) hx hb dX1_sizeAsDouble_26 (by decide) (fun c_3 => ?_) (fun c_3 => ?_)
      · refine lv_lload_n hx hb dX1_sizeAsDouble_46 rfl (lv_at hl 0 rfl) ?_
        refine lv_bipush (v := 29) hx hb dX1_sizeAsDouble_47 (by decide) ?_
        refine lv_lshl hx hb dX1_sizeAsDouble_49 rfl ?_
        refine lv_lstore_n (lv' := [(2, .long (a0 <<< ((29 : Int32).toInt64 &&& 63))), (0, .long a0)]) hx hb dX1_sizeAsDouble_50 rfl hl (by decide) rfl (fun ls hl => ?_)
        refine lv_lload_n hx hb dX1_sizeAsDouble_51 rfl (lv_at hl 0 rfl) ?_
        refine lv_ldc2 (v := 4035225266123964416) hx hb hown (hts (.constantLong RX1 275 4035225266123964416) (by decide +kernel)) dX1_sizeAsDouble_52 ?_
        refine lv_ladd hx hb dX1_sizeAsDouble_55 ?_
        exact W.lret (v := (a0 <<< ((29 : Int32).toInt64 &&& 63)) + (4035225266123964416 : Int64)) hx hb hr (fun t ht hW => ⟨congrArg (fun z => Outcome.returned (some (Value.long z))) (by unfold f_X1_sizeAsDouble; rw [if_neg c_1, if_neg c_2, if_neg c_3]), ht⟩) (fun _ h => nomatch h) dX1_sizeAsDouble_56
      · refine lv_lload_n hx hb dX1_sizeAsDouble_29 rfl (lv_at hl 0 rfl) ?_
        refine lv_bipush (v := 52) hx hb dX1_sizeAsDouble_30 (by decide) ?_
        refine lv_sipush (v := 1023) hx hb dX1_sizeAsDouble_32 (by decide) ?_
        refine lv_iconst (v := 3) hx hb dX1_sizeAsDouble_35 (by decide) ?_
        refine pu_S (As := [.long a0, .int (52 : Int32), .int (1023 : Int32), .int (3 : Int32)]) (rest := []) ⟨hx, hb, hml, hown, hts⟩ (c_X1_wholeAsReal l s.heap a0 (52 : Int32) (1023 : Int32) (3 : Int32)) puK_T trivial (va_cwS 4 hts gX1_sizeAsDouble_X1_wholeAsReal rfl rfl rfl (by decide +kernel) ⟨Nat.le_of_ble_eq_true rfl, Nat.le_of_ble_eq_true rfl⟩) rfl hl.1 rfl (Nat.le_of_ble_eq_true rfl) dX1_sizeAsDouble_36 ⟨Nat.zero_le _, Nat.zero_le _⟩ ?_
        refine W.eq (g2 := F0 m 39 ls [.long (f_X1_wholeAsReal a0 (52 : Int32) (1023 : Int32) (3 : Int32))]) rfl ?_
        refine lv_lstore_n (lv' := [(2, .long (f_X1_wholeAsReal a0 (52 : Int32) (1023 : Int32) (3 : Int32))), (0, .long a0)]) hx hb dX1_sizeAsDouble_39 rfl hl (by decide) rfl (fun ls hl => ?_)
        refine lv_lload_n hx hb dX1_sizeAsDouble_40 rfl (lv_at hl 0 rfl) ?_
        refine lv_ldc2 (v := 671036344478203904) hx hb hown (hts (.constantLong RX1 273 671036344478203904) (by decide +kernel)) dX1_sizeAsDouble_41 ?_
        refine lv_lsub hx hb dX1_sizeAsDouble_44 ?_
        exact W.lret (v := (f_X1_wholeAsReal a0 (52 : Int32) (1023 : Int32) (3 : Int32)) - (671036344478203904 : Int64)) hx hb hr (fun t ht hW => ⟨congrArg (fun z => Outcome.returned (some (Value.long z))) (by unfold f_X1_sizeAsDouble; rw [if_neg c_1, if_neg c_2, if_pos c_3]), ht⟩) (fun _ h => nomatch h) dX1_sizeAsDouble_45
    · refine lv_ldc2 (v := 9218868437227405312) hx hb hown (hts (.constantLong RX1 169 9218868437227405312) (by decide +kernel)) dX1_sizeAsDouble_16 ?_
      exact W.lret (v := (9218868437227405312 : Int64)) hx hb hr (fun t ht hW => ⟨congrArg (fun z => Outcome.returned (some (Value.long z))) (by unfold f_X1_sizeAsDouble; rw [if_neg c_1, if_pos c_2]), ht⟩) (fun _ h => nomatch h) dX1_sizeAsDouble_19
  · refine lv_lconst (v := 0) hx hb dX1_sizeAsDouble_6 (by decide) ?_
    exact W.lret (v := (0 : Int64)) hx hb hr (fun t ht hW => ⟨congrArg (fun z => Outcome.returned (some (Value.long z))) (by unfold f_X1_sizeAsDouble; rw [if_pos c_1]), ht⟩) (fun _ h => nomatch h) dX1_sizeAsDouble_7
def f_X1_singleAsDouble (a0 : Int64) : Int64 := (if 0 ≤ (lg_cmp a0 (0 : Int64)) then f_X1_withSign (f_X1_sizeAsDouble (a0 &&& (2147483647 : Int64))) (0 : Int32) (3 : Int32) else f_X1_withSign (f_X1_sizeAsDouble (a0 &&& (2147483647 : Int64))) (1 : Int32) (3 : Int32))
set_option maxHeartbeats 4000000 in
set_option maxRecDepth 100000 in
theorem c_X1_singleAsDouble (l : Launch) (H0 : Heap) (a0 : Int64) : pu l yX1_singleAsDouble wsX1_singleAsDouble ({ frames := 4, cells := 0, slots := 0, locals := 108 }) [.long a0] (fun _ => True) H0 (some (.long (f_X1_singleAsDouble a0))) := by
  refine Met.ofW (cc := cX1_singleAsDouble) (maxL := 2) (ret := (some .long)) (by decide) rfl ?_
  intro p e s m args below meth c s₁ B hml hv
  obtain ⟨rfl, hH, -⟩ := hv
  have hx := B.exec
  have hb := B.bytes
  have hr := B.returns
  have hts := atoms_spec (ws := wsX1_singleAsDouble) B.pre
  have hown : s.vm.findClass RX1 = some m.cls := findClass_of_methodNamed B.named
  have hlocks := B.notSynchronized
  subst hH
  have hl := lv_entry ([.long a0]) (n := 2) (Nat.le_of_ble_eq_true rfl)
  rw [lg_entry_eq]
  generalize (lg_sl ([.long a0]) ++ List.replicate (2 - (lg_sl ([.long a0])).length) Slot.unset).toArray = ls at hl ⊢
  have hl : lv_has ls 2 [(0, .long a0)] := hl
  refine lv_lload_n hx hb dX1_singleAsDouble_0 rfl (lv_at hl 0 rfl) ?_
  refine lv_ldc2 (v := 2147483647) hx hb hown (hts (.constantLong RX1 173 2147483647) (by decide +kernel)) dX1_singleAsDouble_1 ?_
  refine lv_land hx hb dX1_singleAsDouble_4 ?_
  refine pu_S (As := [.long (a0 &&& (2147483647 : Int64))]) (rest := []) ⟨hx, hb, hml, hown, hts⟩ (c_X1_sizeAsDouble l s.heap (a0 &&& (2147483647 : Int64))) puK_T trivial (va_cwS 1 hts gX1_singleAsDouble_X1_sizeAsDouble rfl rfl rfl (by decide +kernel) ⟨Nat.le_of_ble_eq_true rfl, Nat.le_of_ble_eq_true rfl⟩) rfl hl.1 rfl (Nat.le_of_ble_eq_true rfl) dX1_singleAsDouble_5 ⟨Nat.zero_le _, Nat.zero_le _⟩ ?_
  refine W.eq (g2 := F0 m 8 ls [.long (f_X1_sizeAsDouble (a0 &&& (2147483647 : Int64)))]) rfl ?_
  refine lv_lload_n hx hb dX1_singleAsDouble_8 rfl (lv_at hl 0 rfl) ?_
  refine lv_lconst (v := 0) hx hb dX1_singleAsDouble_9 (by decide) ?_
  refine W.lcmp hx hb dX1_singleAsDouble_10 ?_
  refine lv_if_ge (tgt := 18) hx hb dX1_singleAsDouble_11 (by decide) (fun c_1 => ?_) (fun c_1 => ?_)
  · refine lv_iconst (v := 0) hx hb dX1_singleAsDouble_18 (by decide) ?_
    refine lv_iconst (v := 3) hx hb dX1_singleAsDouble_19 (by decide) ?_
    refine pu_S (As := [.long (f_X1_sizeAsDouble (a0 &&& (2147483647 : Int64))), .int (0 : Int32), .int (3 : Int32)]) (rest := []) ⟨hx, hb, hml, hown, hts⟩ (c_X1_withSign l s.heap (f_X1_sizeAsDouble (a0 &&& (2147483647 : Int64))) (0 : Int32) (3 : Int32)) puK_T trivial (va_cwS 3 hts gX1_singleAsDouble_X1_withSign rfl rfl rfl (by decide +kernel) ⟨Nat.le_of_ble_eq_true rfl, Nat.le_of_ble_eq_true rfl⟩) rfl hl.1 rfl (Nat.le_of_ble_eq_true rfl) dX1_singleAsDouble_20 ⟨Nat.zero_le _, Nat.zero_le _⟩ ?_
    refine W.eq (g2 := F0 m 23 ls [.long (f_X1_withSign (f_X1_sizeAsDouble (a0 &&& (2147483647 : Int64))) (0 : Int32) (3 : Int32))]) rfl ?_
    exact W.lret (v := f_X1_withSign (f_X1_sizeAsDouble (a0 &&& (2147483647 : Int64))) (0 : Int32) (3 : Int32)) hx hb hr (fun t ht hW => ⟨congrArg (fun z => Outcome.returned (some (Value.long z))) (by unfold f_X1_singleAsDouble; rw [if_pos c_1]), ht⟩) (fun _ h => nomatch h) dX1_singleAsDouble_23
  · refine lv_iconst (v := 1) hx hb dX1_singleAsDouble_14 (by decide) ?_
    refine lv_goto (tgt := 19) hx hb dX1_singleAsDouble_15 (by decide) ?_
    refine lv_iconst (v := 3) hx hb dX1_singleAsDouble_19 (by decide) ?_
    refine pu_S (As := [.long (f_X1_sizeAsDouble (a0 &&& (2147483647 : Int64))), .int (1 : Int32), .int (3 : Int32)]) (rest := []) ⟨hx, hb, hml, hown, hts⟩ (c_X1_withSign l s.heap (f_X1_sizeAsDouble (a0 &&& (2147483647 : Int64))) (1 : Int32) (3 : Int32)) puK_T trivial (va_cwS 3 hts gX1_singleAsDouble_X1_withSign rfl rfl rfl (by decide +kernel) ⟨Nat.le_of_ble_eq_true rfl, Nat.le_of_ble_eq_true rfl⟩) rfl hl.1 rfl (Nat.le_of_ble_eq_true rfl) dX1_singleAsDouble_20 ⟨Nat.zero_le _, Nat.zero_le _⟩ ?_
    refine W.eq (g2 := F0 m 23 ls [.long (f_X1_withSign (f_X1_sizeAsDouble (a0 &&& (2147483647 : Int64))) (1 : Int32) (3 : Int32))]) rfl ?_
    exact W.lret (v := f_X1_withSign (f_X1_sizeAsDouble (a0 &&& (2147483647 : Int64))) (1 : Int32) (3 : Int32)) hx hb hr (fun t ht hW => ⟨congrArg (fun z => Outcome.returned (some (Value.long z))) (by unfold f_X1_singleAsDouble; rw [if_neg c_1]), ht⟩) (fun _ h => nomatch h) dX1_singleAsDouble_23
def f_X1_handedOn (a0 : Int64) (a1 : Int32) (a2 : Int32) : Int64 := (if a1 = a2 then a0 else (if a2 = (1 : Int32) then a0 else (if a1 = (2 : Int32) then f_X1_singleAsDouble a0 else (if a2 = (2 : Int32) then f_X1_wholeAsReal a0 (23 : Int32) (127 : Int32) (2 : Int32) else f_X1_wholeAsReal a0 (52 : Int32) (1023 : Int32) (3 : Int32)))))
set_option maxHeartbeats 4000000 in
set_option maxRecDepth 100000 in
theorem c_X1_handedOn (l : Launch) (H0 : Heap) (a0 : Int64) (a1 : Int32) (a2 : Int32) : pu l yX1_handedOn wsX1_handedOn ({ frames := 5, cells := 0, slots := 0, locals := 129 }) [.long a0, .int a1, .int a2] (fun _ => True) H0 (some (.long (f_X1_handedOn a0 a1 a2))) := by
  refine Met.ofW (cc := cX1_handedOn) (maxL := 4) (ret := (some .long)) (by decide) rfl ?_
  intro p e s m args below meth c s₁ B hml hv
  obtain ⟨rfl, hH, -⟩ := hv
  have hx := B.exec
  have hb := B.bytes
  have hr := B.returns
  have hts := atoms_spec (ws := wsX1_handedOn) B.pre
  have hown : s.vm.findClass RX1 = some m.cls := findClass_of_methodNamed B.named
  have hlocks := B.notSynchronized
  subst hH
  have hl := lv_entry ([.long a0, .int a1, .int a2]) (n := 4) (Nat.le_of_ble_eq_true rfl)
  rw [lg_entry_eq]
  generalize (lg_sl ([.long a0, .int a1, .int a2]) ++ List.replicate (4 - (lg_sl ([.long a0, .int a1, .int a2])).length) Slot.unset).toArray = ls at hl ⊢
  have hl : lv_has ls 4 [(0, .long a0), (2, .int a1), (3, .int a2)] := hl
  refine lv_iload_n hx hb dX1_handedOn_0 rfl (lv_at hl 1 rfl) ?_
  refine lv_iload_n hx hb dX1_handedOn_1 rfl (lv_at hl 2 rfl) ?_
  refine lv_icmp_eq (tgt := 10) hx hb dX1_handedOn_2 (by decide) (fun c_1 => ?_) (fun c_1 => ?_)
  · refine lv_lload_n hx hb dX1_handedOn_10 rfl (lv_at hl 0 rfl) ?_
    exact W.lret (v := a0) hx hb hr (fun t ht hW => ⟨congrArg (fun z => Outcome.returned (some (Value.long z))) (by unfold f_X1_handedOn; rw [if_pos c_1]), ht⟩) (fun _ h => nomatch h) dX1_handedOn_11
  · refine lv_iload_n hx hb dX1_handedOn_5 rfl (lv_at hl 2 rfl) ?_
    refine lv_iconst (v := 1) hx hb dX1_handedOn_6 (by decide) ?_
    refine lv_icmp_ne (tgt := 12) hx hb dX1_handedOn_7 (by decide) (fun c_2 => ?_) (fun c_2 => ?_)
    · refine lv_iload_n hx hb dX1_handedOn_12 rfl (lv_at hl 1 rfl) ?_
      refine lv_iconst (v := 2) hx hb dX1_handedOn_13 (by decide) ?_
      refine lv_icmp_ne (tgt := 22) hx hb dX1_handedOn_14 (by decide) (fun c_3 => ?_) (fun c_3 => ?_)
      · refine lv_iload_n hx hb dX1_handedOn_22 rfl (lv_at hl 2 rfl) ?_
        refine lv_iconst (v := 2) hx hb dX1_handedOn_23 (by decide) ?_
        refine lv_icmp_ne (tgt := 37) hx hb dX1_handedOn_24 (by decide) (fun c_4 => ?_) (fun c_4 => ?_)
        · refine lv_lload_n hx hb dX1_handedOn_37 rfl (lv_at hl 0 rfl) ?_
          refine lv_bipush (v := 52) hx hb dX1_handedOn_38 (by decide) ?_
          refine lv_sipush (v := 1023) hx hb dX1_handedOn_40 (by decide) ?_
          refine lv_iconst (v := 3) hx hb dX1_handedOn_43 (by decide) ?_
          refine pu_S (As := [.long a0, .int (52 : Int32), .int (1023 : Int32), .int (3 : Int32)]) (rest := []) ⟨hx, hb, hml, hown, hts⟩ (c_X1_wholeAsReal l s.heap a0 (52 : Int32) (1023 : Int32) (3 : Int32)) puK_T trivial (va_cwS 4 hts gX1_handedOn_X1_wholeAsReal rfl rfl rfl (by decide +kernel) ⟨Nat.le_of_ble_eq_true rfl, Nat.le_of_ble_eq_true rfl⟩) rfl hl.1 rfl (Nat.le_of_ble_eq_true rfl) dX1_handedOn_44 ⟨Nat.zero_le _, Nat.zero_le _⟩ ?_
          refine W.eq (g2 := F0 m 47 ls [.long (f_X1_wholeAsReal a0 (52 : Int32) (1023 : Int32) (3 : Int32))]) rfl ?_
          exact W.lret (v := f_X1_wholeAsReal a0 (52 : Int32) (1023 : Int32) (3 : Int32)) hx hb hr (fun t ht hW => ⟨congrArg (fun z => Outcome.returned (some (Value.long z))) (by unfold f_X1_handedOn; rw [if_neg c_1, if_neg c_2, if_neg c_3, if_neg c_4]), ht⟩) (fun _ h => nomatch h) dX1_handedOn_47
        · refine lv_lload_n hx hb dX1_handedOn_27 rfl (lv_at hl 0 rfl) ?_
          refine lv_bipush (v := 23) hx hb dX1_handedOn_28 (by decide) ?_
          refine lv_bipush (v := 127) hx hb dX1_handedOn_30 (by decide) ?_
          refine lv_iconst (v := 2) hx hb dX1_handedOn_32 (by decide) ?_
          refine pu_S (As := [.long a0, .int (23 : Int32), .int (127 : Int32), .int (2 : Int32)]) (rest := []) ⟨hx, hb, hml, hown, hts⟩ (c_X1_wholeAsReal l s.heap a0 (23 : Int32) (127 : Int32) (2 : Int32)) puK_T trivial (va_cwS 4 hts gX1_handedOn_X1_wholeAsReal rfl rfl rfl (by decide +kernel) ⟨Nat.le_of_ble_eq_true rfl, Nat.le_of_ble_eq_true rfl⟩) rfl hl.1 rfl (Nat.le_of_ble_eq_true rfl) dX1_handedOn_33 ⟨Nat.zero_le _, Nat.zero_le _⟩ ?_
          refine W.eq (g2 := F0 m 36 ls [.long (f_X1_wholeAsReal a0 (23 : Int32) (127 : Int32) (2 : Int32))]) rfl ?_
          exact W.lret (v := f_X1_wholeAsReal a0 (23 : Int32) (127 : Int32) (2 : Int32)) hx hb hr (fun t ht hW => ⟨congrArg (fun z => Outcome.returned (some (Value.long z))) (by unfold f_X1_handedOn; rw [if_neg c_1, if_neg c_2, if_neg c_3, if_pos c_4]), ht⟩) (fun _ h => nomatch h) dX1_handedOn_36
      · refine lv_lload_n hx hb dX1_handedOn_17 rfl (lv_at hl 0 rfl) ?_
        refine pu_S (As := [.long a0]) (rest := []) ⟨hx, hb, hml, hown, hts⟩ (c_X1_singleAsDouble l s.heap a0) puK_T trivial (va_cwS 1 hts gX1_handedOn_X1_singleAsDouble rfl rfl rfl (by decide +kernel) ⟨Nat.le_of_ble_eq_true rfl, Nat.le_of_ble_eq_true rfl⟩) rfl hl.1 rfl (Nat.le_of_ble_eq_true rfl) dX1_handedOn_18 ⟨Nat.zero_le _, Nat.zero_le _⟩ ?_
        refine W.eq (g2 := F0 m 21 ls [.long (f_X1_singleAsDouble a0)]) rfl ?_
        exact W.lret (v := f_X1_singleAsDouble a0) hx hb hr (fun t ht hW => ⟨congrArg (fun z => Outcome.returned (some (Value.long z))) (by unfold f_X1_handedOn; rw [if_neg c_1, if_neg c_2, if_pos c_3]), ht⟩) (fun _ h => nomatch h) dX1_handedOn_21
    · refine lv_lload_n hx hb dX1_handedOn_10 rfl (lv_at hl 0 rfl) ?_
      exact W.lret (v := a0) hx hb hr (fun t ht hW => ⟨congrArg (fun z => Outcome.returned (some (Value.long z))) (by unfold f_X1_handedOn; rw [if_neg c_1, if_pos c_2]), ht⟩) (fun _ h => nomatch h) dX1_handedOn_11
def lp_X2_top (a0 : Int64) : Nat → Int32
  | 0 => nI 0
  | n + 1 => if lg_cmp (((a0.toUInt64 >>> ((nI (n + 1)).toInt64.toUInt64 &&& Int64.toUInt64 63)).toInt64) &&& (1 : Int64)) (0 : Int64) = 0 then lp_X2_top a0 n else nI (n + 1)
def f_X2_top (a0 : Int64) : Int32 := lp_X2_top a0 63
set_option maxHeartbeats 4000000 in
set_option maxRecDepth 100000 in
theorem c_X2_top (l : Launch) (H0 : Heap) (a0 : Int64) : pu l yX2_top wsX2_top ({ frames := 0, cells := 0, slots := 0, locals := 0 }) [.long a0] (fun _ => True) H0 (some (.int (f_X2_top a0))) := by
  refine Met.ofW (cc := cX2_top) (maxL := 3) (ret := (some .int)) (by decide) rfl ?_
  intro p e s m args below meth c s₁ B hml hv
  obtain ⟨rfl, hH, -⟩ := hv
  have hx := B.exec
  have hb := B.bytes
  have hr := B.returns
  have hts := atoms_spec (ws := wsX2_top) B.pre
  have hown : s.vm.findClass RX2 = some m.cls := findClass_of_methodNamed B.named
  have hlocks := B.notSynchronized
  subst hH
  have hl := lv_entry ([.long a0]) (n := 3) (Nat.le_of_ble_eq_true rfl)
  rw [lg_entry_eq]
  generalize (lg_sl ([.long a0]) ++ List.replicate (3 - (lg_sl ([.long a0])).length) Slot.unset).toArray = ls at hl ⊢
  have hl : lv_has ls 3 [(0, .long a0)] := hl
  have hloop : ∀ n : Nat, n ≤ 63 → lp_X2_top a0 n = f_X2_top a0 → ∀ ls : Array Slot, lv_has ls 3 [(2, .int (nI n)), (0, .long a0)] → W p l e (headSpec wsX2_top { frames := 0, cells := 0, slots := 0, locals := 0 }).room s m [Value.long a0].toArray below meth c s.heap [] 0 0 (MQ below (fun _ _ o t => o = .returned (some (.int (f_X2_top a0))) ∧ t.heap = s.heap) [Value.long a0].toArray s 0 0 (fun _ => False)) (F0 m 3 ls []) := by
    intro n
    induction n with
    | zero =>
      intro _ hf ls hl
      refine lv_iload_n hx hb dX2_top_3 rfl (lv_at hl 0 rfl) ?_
      refine lv_if_le (tgt := 23) hx hb dX2_top_4 (by decide) (fun c_1 => ?_) (fun c_1 => absurd (by decide) c_1)
      refine lv_iload_n hx hb dX2_top_23 rfl (lv_at hl 0 rfl) ?_
      exact W.iret (v := nI 0) hx hb hr (fun t ht hW => ⟨congrArg (fun z => Outcome.returned (some (Value.int z))) hf, ht⟩) (fun _ h => nomatch h) dX2_top_24
    | succ n ih =>
      intro hn hf ls hl
      refine lv_iload_n hx hb dX2_top_3 rfl (lv_at hl 0 rfl) ?_
      refine lv_if_le (tgt := 23) hx hb dX2_top_4 (by decide) (fun c_1 => absurd c_1 (nI_nle (by omega) (by omega))) (fun c_1 => ?_)
      refine lv_lload_n hx hb dX2_top_7 rfl (lv_at hl 1 rfl) ?_
      refine lv_iload_n hx hb dX2_top_8 rfl (lv_at hl 0 rfl) ?_
      refine lv_lushr hx hb dX2_top_9 rfl ?_
      refine lv_lconst (v := 1) hx hb dX2_top_10 (by decide) ?_
      refine lv_land hx hb dX2_top_11 ?_
      refine lv_lconst (v := 0) hx hb dX2_top_12 (by decide) ?_
      refine W.lcmp hx hb dX2_top_13 ?_
      refine lv_if_ne (tgt := 23) hx hb dX2_top_14 (by decide) (fun c_2 => ?_) (fun c_2 => ?_)
      · refine lv_iload_n hx hb dX2_top_23 rfl (lv_at hl 0 rfl) ?_
        exact W.iret (v := nI (n + 1)) hx hb hr (fun t ht hW => ⟨congrArg (fun z => Outcome.returned (some (Value.int z))) (by rw [← hf, lp_X2_top, if_neg c_2]), ht⟩) (fun _ h => nomatch h) dX2_top_24
      · refine lv_iinc (v := nI n) (lv' := [(2, .int (nI n)), (0, .long a0)]) hx hb dX2_top_17 hl (k := 0) rfl (pk_m1 n) (by decide) rfl (fun ls hl => ?_)
        refine lv_goto (tgt := 3) hx hb dX2_top_20 (by decide) ?_
        exact ih (by omega) (by rw [← hf, lp_X2_top, if_pos c_2]) ls hl
  refine lv_bipush (v := 63) hx hb dX2_top_0 (by decide) ?_
  refine lv_istore_n (lv' := [(2, .int 63), (0, .long a0)]) hx hb dX2_top_2 rfl hl (by decide) rfl (fun ls hl => ?_)
  exact hloop 63 (Nat.le_refl _) rfl ls hl
def f_X2_nearest (a0 : Int64) (a1 : Int32) (a2 : Int32) : Int64 := (if (lg_cmp a0 (0 : Int64)) = 0 then (0 : Int64) else (if a1 < (f_X2_top a0) then (if 0 < (lg_cmp (a0 - (((a0.toUInt64 >>> (((f_X2_top a0) - a1).toInt64.toUInt64 &&& Int64.toUInt64 63)).toInt64) <<< (((f_X2_top a0) - a1).toInt64 &&& 63))) ((1 : Int64) <<< ((((f_X2_top a0) - a1) - (1 : Int32)).toInt64 &&& 63))) then (((((f_X2_top a0) + a2).toInt64) <<< (a1.toInt64 &&& 63)) + (((a0.toUInt64 >>> (((f_X2_top a0) - a1).toInt64.toUInt64 &&& Int64.toUInt64 63)).toInt64) + (1 : Int64))) - ((1 : Int64) <<< (a1.toInt64 &&& 63)) else (if (lg_cmp (a0 - (((a0.toUInt64 >>> (((f_X2_top a0) - a1).toInt64.toUInt64 &&& Int64.toUInt64 63)).toInt64) <<< (((f_X2_top a0) - a1).toInt64 &&& 63))) ((1 : Int64) <<< ((((f_X2_top a0) - a1) - (1 : Int32)).toInt64 &&& 63))) = 0 then (if (lg_cmp (((a0.toUInt64 >>> (((f_X2_top a0) - a1).toInt64.toUInt64 &&& Int64.toUInt64 63)).toInt64) &&& (1 : Int64)) (1 : Int64)) = 0 then (((((f_X2_top a0) + a2).toInt64) <<< (a1.toInt64 &&& 63)) + (((a0.toUInt64 >>> (((f_X2_top a0) - a1).toInt64.toUInt64 &&& Int64.toUInt64 63)).toInt64) + (1 : Int64))) - ((1 : Int64) <<< (a1.toInt64 &&& 63)) else (((((f_X2_top a0) + a2).toInt64) <<< (a1.toInt64 &&& 63)) + ((a0.toUInt64 >>> (((f_X2_top a0) - a1).toInt64.toUInt64 &&& Int64.toUInt64 63)).toInt64)) - ((1 : Int64) <<< (a1.toInt64 &&& 63))) else (((((f_X2_top a0) + a2).toInt64) <<< (a1.toInt64 &&& 63)) + ((a0.toUInt64 >>> (((f_X2_top a0) - a1).toInt64.toUInt64 &&& Int64.toUInt64 63)).toInt64)) - ((1 : Int64) <<< (a1.toInt64 &&& 63)))) else (((((f_X2_top a0) + a2).toInt64) <<< (a1.toInt64 &&& 63)) + (a0 <<< ((a1 - (f_X2_top a0)).toInt64 &&& 63))) - ((1 : Int64) <<< (a1.toInt64 &&& 63))))
set_option maxHeartbeats 4000000 in
set_option maxRecDepth 100000 in
theorem c_X2_nearest (l : Launch) (H0 : Heap) (a0 : Int64) (a1 : Int32) (a2 : Int32) : pu l yX2_nearest wsX2_nearest ({ frames := 1, cells := 0, slots := 0, locals := 22 }) [.long a0, .int a1, .int a2] (fun _ => True) H0 (some (.long (f_X2_nearest a0 a1 a2))) := by
  refine Met.ofW (cc := cX2_nearest) (maxL := 12) (ret := (some .long)) (by decide) rfl ?_
  intro p e s m args below meth c s₁ B hml hv
  obtain ⟨rfl, hH, -⟩ := hv
  have hx := B.exec
  have hb := B.bytes
  have hr := B.returns
  have hts := atoms_spec (ws := wsX2_nearest) B.pre
  have hown : s.vm.findClass RX2 = some m.cls := findClass_of_methodNamed B.named
  have hlocks := B.notSynchronized
  subst hH
  have hl := lv_entry ([.long a0, .int a1, .int a2]) (n := 12) (Nat.le_of_ble_eq_true rfl)
  rw [lg_entry_eq]
  generalize (lg_sl ([.long a0, .int a1, .int a2]) ++ List.replicate (12 - (lg_sl ([.long a0, .int a1, .int a2])).length) Slot.unset).toArray = ls at hl ⊢
  have hl : lv_has ls 12 [(0, .long a0), (2, .int a1), (3, .int a2)] := hl
  refine lv_lload_n hx hb dX2_nearest_0 rfl (lv_at hl 0 rfl) ?_
  refine lv_lconst (v := 0) hx hb dX2_nearest_1 (by decide) ?_
  refine W.lcmp hx hb dX2_nearest_2 ?_
  refine lv_if_ne (tgt := 8) hx hb dX2_nearest_3 (by decide) (fun c_1 => ?_) (fun c_1 => ?_)
  · refine lv_lload_n hx hb dX2_nearest_8 rfl (lv_at hl 0 rfl) ?_
    refine pu_S (As := [.long a0]) (rest := []) ⟨hx, hb, hml, hown, hts⟩ (c_X2_top l s.heap a0) puK_T trivial (va_cwS 1 hts gX2_nearest_X2_top rfl rfl rfl (by decide +kernel) ⟨Nat.le_of_ble_eq_true rfl, Nat.le_of_ble_eq_true rfl⟩) rfl hl.1 rfl (Nat.le_of_ble_eq_true rfl) dX2_nearest_9 ⟨Nat.zero_le _, Nat.zero_le _⟩ ?_
    refine W.eq (g2 := F0 m 12 ls [.int (f_X2_top a0)]) rfl ?_
    refine lv_istore (lv' := [(4, .int (f_X2_top a0)), (0, .long a0), (2, .int a1), (3, .int a2)]) hx hb dX2_nearest_12 hl (by decide) rfl (fun ls hl => ?_)
    refine lv_iload hx hb dX2_nearest_14 (lv_at hl 0 rfl) ?_
    refine lv_iload_n hx hb dX2_nearest_16 rfl (lv_at hl 2 rfl) ?_
    refine lv_icmp_gt (tgt := 39) hx hb dX2_nearest_17 (by decide) (fun c_2 => ?_) (fun c_2 => ?_)
    · refine lv_iload hx hb dX2_nearest_39 (lv_at hl 0 rfl) ?_
      refine lv_iload_n hx hb dX2_nearest_41 rfl (lv_at hl 2 rfl) ?_
      refine lv_isub hx hb dX2_nearest_42 ?_
      refine lv_istore (lv' := [(5, .int ((f_X2_top a0) - a1)), (4, .int (f_X2_top a0)), (0, .long a0), (2, .int a1), (3, .int a2)]) hx hb dX2_nearest_43 hl (by decide) rfl (fun ls hl => ?_)
      refine lv_lload_n hx hb dX2_nearest_45 rfl (lv_at hl 2 rfl) ?_
      refine lv_iload hx hb dX2_nearest_46 (lv_at hl 0 rfl) ?_
      refine lv_lushr hx hb dX2_nearest_48 rfl ?_
      refine lv_lstore (lv' := [(6, .long ((a0.toUInt64 >>> (((f_X2_top a0) - a1).toInt64.toUInt64 &&& Int64.toUInt64 63)).toInt64)), (5, .int ((f_X2_top a0) - a1)), (4, .int (f_X2_top a0)), (0, .long a0), (2, .int a1), (3, .int a2)]) hx hb dX2_nearest_49 hl (by decide) rfl (fun ls hl => ?_)
      refine lv_lload_n hx hb dX2_nearest_51 rfl (lv_at hl 3 rfl) ?_
      refine lv_lload hx hb dX2_nearest_52 (lv_at hl 0 rfl) ?_
      refine lv_iload hx hb dX2_nearest_54 (lv_at hl 1 rfl) ?_
      refine lv_lshl hx hb dX2_nearest_56 rfl ?_
      refine lv_lsub hx hb dX2_nearest_57 ?_
      refine lv_lstore (lv' := [(8, .long (a0 - (((a0.toUInt64 >>> (((f_X2_top a0) - a1).toInt64.toUInt64 &&& Int64.toUInt64 63)).toInt64) <<< (((f_X2_top a0) - a1).toInt64 &&& 63)))), (6, .long ((a0.toUInt64 >>> (((f_X2_top a0) - a1).toInt64.toUInt64 &&& Int64.toUInt64 63)).toInt64)), (5, .int ((f_X2_top a0) - a1)), (4, .int (f_X2_top a0)), (0, .long a0), (2, .int a1), (3, .int a2)]) hx hb dX2_nearest_58 hl (by decide) rfl (fun ls hl => ?_)
      refine lv_lconst (v := 1) hx hb dX2_nearest_60 (by decide) ?_
      refine lv_iload hx hb dX2_nearest_61 (lv_at hl 2 rfl) ?_
      refine lv_iconst (v := 1) hx hb dX2_nearest_63 (by decide) ?_
      refine lv_isub hx hb dX2_nearest_64 ?_
      refine lv_lshl hx hb dX2_nearest_65 rfl ?_
      refine lv_lstore (lv' := [(10, .long ((1 : Int64) <<< ((((f_X2_top a0) - a1) - (1 : Int32)).toInt64 &&& 63))), (8, .long (a0 - (((a0.toUInt64 >>> (((f_X2_top a0) - a1).toInt64.toUInt64 &&& Int64.toUInt64 63)).toInt64) <<< (((f_X2_top a0) - a1).toInt64 &&& 63)))), (6, .long ((a0.toUInt64 >>> (((f_X2_top a0) - a1).toInt64.toUInt64 &&& Int64.toUInt64 63)).toInt64)), (5, .int ((f_X2_top a0) - a1)), (4, .int (f_X2_top a0)), (0, .long a0), (2, .int a1), (3, .int a2)]) hx hb dX2_nearest_66 hl (by decide) rfl (fun ls hl => ?_)
      refine lv_lload hx hb dX2_nearest_68 (lv_at hl 1 rfl) ?_
      refine lv_lload hx hb dX2_nearest_70 (lv_at hl 0 rfl) ?_
      refine W.lcmp hx hb dX2_nearest_72 ?_
      refine lv_if_gt (tgt := 93) hx hb dX2_nearest_73 (by decide) (fun c_3 => ?_) (fun c_3 => ?_)
      · refine lv_lload hx hb dX2_nearest_93 (lv_at hl 2 rfl) ?_
        refine lv_lconst (v := 1) hx hb dX2_nearest_95 (by decide) ?_
        refine lv_ladd hx hb dX2_nearest_96 ?_
        refine lv_lstore (lv' := [(6, .long (((a0.toUInt64 >>> (((f_X2_top a0) - a1).toInt64.toUInt64 &&& Int64.toUInt64 63)).toInt64) + (1 : Int64))), (10, .long ((1 : Int64) <<< ((((f_X2_top a0) - a1) - (1 : Int32)).toInt64 &&& 63))), (8, .long (a0 - (((a0.toUInt64 >>> (((f_X2_top a0) - a1).toInt64.toUInt64 &&& Int64.toUInt64 63)).toInt64) <<< (((f_X2_top a0) - a1).toInt64 &&& 63)))), (5, .int ((f_X2_top a0) - a1)), (4, .int (f_X2_top a0)), (0, .long a0), (2, .int a1), (3, .int a2)]) hx hb dX2_nearest_97 hl (by decide) rfl (fun ls hl => ?_)
        refine lv_iload hx hb dX2_nearest_99 (lv_at hl 4 rfl) ?_
        refine lv_iload_n hx hb dX2_nearest_101 rfl (lv_at hl 7 rfl) ?_
        refine lv_iadd hx hb dX2_nearest_102 ?_
        refine lv_i2l hx hb dX2_nearest_103 rfl ?_
        refine lv_iload_n hx hb dX2_nearest_104 rfl (lv_at hl 6 rfl) ?_
        refine lv_lshl hx hb dX2_nearest_105 rfl ?_
        refine lv_lload hx hb dX2_nearest_106 (lv_at hl 0 rfl) ?_
        refine lv_ladd hx hb dX2_nearest_108 ?_
        refine lv_lconst (v := 1) hx hb dX2_nearest_109 (by decide) ?_
        refine lv_iload_n hx hb dX2_nearest_110 rfl (lv_at hl 6 rfl) ?_
        refine lv_lshl hx hb dX2_nearest_111 rfl ?_
        refine lv_lsub hx hb dX2_nearest_112 ?_
        exact W.lret (v := (((((f_X2_top a0) + a2).toInt64) <<< (a1.toInt64 &&& 63)) + (((a0.toUInt64 >>> (((f_X2_top a0) - a1).toInt64.toUInt64 &&& Int64.toUInt64 63)).toInt64) + (1 : Int64))) - ((1 : Int64) <<< (a1.toInt64 &&& 63))) hx hb hr (fun t ht hW => ⟨congrArg (fun z => Outcome.returned (some (Value.long z))) (by unfold f_X2_nearest; rw [if_neg c_1, if_pos c_2, if_pos c_3]), ht⟩) (fun _ h => nomatch h) dX2_nearest_113
      · refine lv_lload hx hb dX2_nearest_76 (lv_at hl 1 rfl) ?_
        refine lv_lload hx hb dX2_nearest_78 (lv_at hl 0 rfl) ?_
        refine W.lcmp hx hb dX2_nearest_80 ?_
        refine lv_if_ne (tgt := 99) hx hb dX2_nearest_81 (by decide) (fun c_4 => ?_) (fun c_4 => ?_)
        · refine lv_iload hx hb dX2_nearest_99 (lv_at hl 4 rfl) ?_
          refine lv_iload_n hx hb dX2_nearest_101 rfl (lv_at hl 7 rfl) ?_
          refine lv_iadd hx hb dX2_nearest_102 ?_
          refine lv_i2l hx hb dX2_nearest_103 rfl ?_
          refine lv_iload_n hx hb dX2_nearest_104 rfl (lv_at hl 6 rfl) ?_
          refine lv_lshl hx hb dX2_nearest_105 rfl ?_
          refine lv_lload hx hb dX2_nearest_106 (lv_at hl 2 rfl) ?_
          refine lv_ladd hx hb dX2_nearest_108 ?_
          refine lv_lconst (v := 1) hx hb dX2_nearest_109 (by decide) ?_
          refine lv_iload_n hx hb dX2_nearest_110 rfl (lv_at hl 6 rfl) ?_
          refine lv_lshl hx hb dX2_nearest_111 rfl ?_
          refine lv_lsub hx hb dX2_nearest_112 ?_
          exact W.lret (v := (((((f_X2_top a0) + a2).toInt64) <<< (a1.toInt64 &&& 63)) + ((a0.toUInt64 >>> (((f_X2_top a0) - a1).toInt64.toUInt64 &&& Int64.toUInt64 63)).toInt64)) - ((1 : Int64) <<< (a1.toInt64 &&& 63))) hx hb hr (fun t ht hW => ⟨congrArg (fun z => Outcome.returned (some (Value.long z))) (by unfold f_X2_nearest; rw [if_neg c_1, if_pos c_2, if_neg c_3, if_neg c_4]), ht⟩) (fun _ h => nomatch h) dX2_nearest_113
        · refine lv_lload hx hb dX2_nearest_84 (lv_at hl 2 rfl) ?_
          refine lv_lconst (v := 1) hx hb dX2_nearest_86 (by decide) ?_
          refine lv_land hx hb dX2_nearest_87 ?_
          refine lv_lconst (v := 1) hx hb dX2_nearest_88 (by decide) ?_
          refine W.lcmp hx hb dX2_nearest_89 ?_
          refine lv_if_ne (tgt := 99) hx hb dX2_nearest_90 (by decide) (fun c_5 => ?_) (fun c_5 => ?_)
          · refine lv_iload hx hb dX2_nearest_99 (lv_at hl 4 rfl) ?_
            refine lv_iload_n hx hb dX2_nearest_101 rfl (lv_at hl 7 rfl) ?_
            refine lv_iadd hx hb dX2_nearest_102 ?_
            refine lv_i2l hx hb dX2_nearest_103 rfl ?_
            refine lv_iload_n hx hb dX2_nearest_104 rfl (lv_at hl 6 rfl) ?_
            refine lv_lshl hx hb dX2_nearest_105 rfl ?_
            refine lv_lload hx hb dX2_nearest_106 (lv_at hl 2 rfl) ?_
            refine lv_ladd hx hb dX2_nearest_108 ?_
            refine lv_lconst (v := 1) hx hb dX2_nearest_109 (by decide) ?_
            refine lv_iload_n hx hb dX2_nearest_110 rfl (lv_at hl 6 rfl) ?_
            refine lv_lshl hx hb dX2_nearest_111 rfl ?_
            refine lv_lsub hx hb dX2_nearest_112 ?_
            exact W.lret (v := (((((f_X2_top a0) + a2).toInt64) <<< (a1.toInt64 &&& 63)) + ((a0.toUInt64 >>> (((f_X2_top a0) - a1).toInt64.toUInt64 &&& Int64.toUInt64 63)).toInt64)) - ((1 : Int64) <<< (a1.toInt64 &&& 63))) hx hb hr (fun t ht hW => ⟨congrArg (fun z => Outcome.returned (some (Value.long z))) (by unfold f_X2_nearest; rw [if_neg c_1, if_pos c_2, if_neg c_3, if_pos c_4, if_neg c_5]), ht⟩) (fun _ h => nomatch h) dX2_nearest_113
          · refine lv_lload hx hb dX2_nearest_93 (lv_at hl 2 rfl) ?_
            refine lv_lconst (v := 1) hx hb dX2_nearest_95 (by decide) ?_
            refine lv_ladd hx hb dX2_nearest_96 ?_
            refine lv_lstore (lv' := [(6, .long (((a0.toUInt64 >>> (((f_X2_top a0) - a1).toInt64.toUInt64 &&& Int64.toUInt64 63)).toInt64) + (1 : Int64))), (10, .long ((1 : Int64) <<< ((((f_X2_top a0) - a1) - (1 : Int32)).toInt64 &&& 63))), (8, .long (a0 - (((a0.toUInt64 >>> (((f_X2_top a0) - a1).toInt64.toUInt64 &&& Int64.toUInt64 63)).toInt64) <<< (((f_X2_top a0) - a1).toInt64 &&& 63)))), (5, .int ((f_X2_top a0) - a1)), (4, .int (f_X2_top a0)), (0, .long a0), (2, .int a1), (3, .int a2)]) hx hb dX2_nearest_97 hl (by decide) rfl (fun ls hl => ?_)
            refine lv_iload hx hb dX2_nearest_99 (lv_at hl 4 rfl) ?_
            refine lv_iload_n hx hb dX2_nearest_101 rfl (lv_at hl 7 rfl) ?_
            refine lv_iadd hx hb dX2_nearest_102 ?_
            refine lv_i2l hx hb dX2_nearest_103 rfl ?_
            refine lv_iload_n hx hb dX2_nearest_104 rfl (lv_at hl 6 rfl) ?_
            refine lv_lshl hx hb dX2_nearest_105 rfl ?_
            refine lv_lload hx hb dX2_nearest_106 (lv_at hl 0 rfl) ?_
            refine lv_ladd hx hb dX2_nearest_108 ?_
            refine lv_lconst (v := 1) hx hb dX2_nearest_109 (by decide) ?_
            refine lv_iload_n hx hb dX2_nearest_110 rfl (lv_at hl 6 rfl) ?_
            refine lv_lshl hx hb dX2_nearest_111 rfl ?_
            refine lv_lsub hx hb dX2_nearest_112 ?_
            exact W.lret (v := (((((f_X2_top a0) + a2).toInt64) <<< (a1.toInt64 &&& 63)) + (((a0.toUInt64 >>> (((f_X2_top a0) - a1).toInt64.toUInt64 &&& Int64.toUInt64 63)).toInt64) + (1 : Int64))) - ((1 : Int64) <<< (a1.toInt64 &&& 63))) hx hb hr (fun t ht hW => ⟨congrArg (fun z => Outcome.returned (some (Value.long z))) (by unfold f_X2_nearest; rw [if_neg c_1, if_pos c_2, if_neg c_3, if_pos c_4, if_pos c_5]), ht⟩) (fun _ h => nomatch h) dX2_nearest_113
    · refine lv_iload hx hb dX2_nearest_20 (lv_at hl 0 rfl) ?_
      refine lv_iload_n hx hb dX2_nearest_22 rfl (lv_at hl 3 rfl) ?_
      refine lv_iadd hx hb dX2_nearest_23 ?_
      refine lv_i2l hx hb dX2_nearest_24 rfl ?_
      refine lv_iload_n hx hb dX2_nearest_25 rfl (lv_at hl 2 rfl) ?_
      refine lv_lshl hx hb dX2_nearest_26 rfl ?_
      refine lv_lload_n hx hb dX2_nearest_27 rfl (lv_at hl 1 rfl) ?_
      refine lv_iload_n hx hb dX2_nearest_28 rfl (lv_at hl 2 rfl) ?_
      refine lv_iload hx hb dX2_nearest_29 (lv_at hl 0 rfl) ?_
      refine lv_isub hx hb dX2_nearest_31 ?_
      refine lv_lshl hx hb dX2_nearest_32 rfl ?_
      refine lv_ladd hx hb dX2_nearest_33 ?_
      refine lv_lconst (v := 1) hx hb dX2_nearest_34 (by decide) ?_
      refine lv_iload_n hx hb dX2_nearest_35 rfl (lv_at hl 2 rfl) ?_
      refine lv_lshl hx hb dX2_nearest_36 rfl ?_
      refine lv_lsub hx hb dX2_nearest_37 ?_
      exact W.lret (v := (((((f_X2_top a0) + a2).toInt64) <<< (a1.toInt64 &&& 63)) + (a0 <<< ((a1 - (f_X2_top a0)).toInt64 &&& 63))) - ((1 : Int64) <<< (a1.toInt64 &&& 63))) hx hb hr (fun t ht hW => ⟨congrArg (fun z => Outcome.returned (some (Value.long z))) (by unfold f_X2_nearest; rw [if_neg c_1, if_neg c_2]), ht⟩) (fun _ h => nomatch h) dX2_nearest_38
  · refine lv_lconst (v := 0) hx hb dX2_nearest_6 (by decide) ?_
    exact W.lret (v := (0 : Int64)) hx hb hr (fun t ht hW => ⟨congrArg (fun z => Outcome.returned (some (Value.long z))) (by unfold f_X2_nearest; rw [if_pos c_1]), ht⟩) (fun _ h => nomatch h) dX2_nearest_7
def f_X2_asSingle (a0 : Int64) : Int64 := (if 0 ≤ (lg_cmp a0 (0 : Int64)) then f_X2_nearest a0 (23 : Int32) (127 : Int32) else (f_X2_nearest (-a0) (23 : Int32) (127 : Int32)) - (2147483648 : Int64))
set_option maxHeartbeats 4000000 in
set_option maxRecDepth 100000 in
theorem c_X2_asSingle (l : Launch) (H0 : Heap) (a0 : Int64) : pu l yX2_asSingle wsX2_asSingle ({ frames := 2, cells := 0, slots := 0, locals := 53 }) [.long a0] (fun _ => True) H0 (some (.long (f_X2_asSingle a0))) := by
  refine Met.ofW (cc := cX2_asSingle) (maxL := 4) (ret := (some .long)) (by decide) rfl ?_
  intro p e s m args below meth c s₁ B hml hv
  obtain ⟨rfl, hH, -⟩ := hv
  have hx := B.exec
  have hb := B.bytes
  have hr := B.returns
  have hts := atoms_spec (ws := wsX2_asSingle) B.pre
  have hown : s.vm.findClass RX2 = some m.cls := findClass_of_methodNamed B.named
  have hlocks := B.notSynchronized
  subst hH
  have hl := lv_entry ([.long a0]) (n := 4) (Nat.le_of_ble_eq_true rfl)
  rw [lg_entry_eq]
  generalize (lg_sl ([.long a0]) ++ List.replicate (4 - (lg_sl ([.long a0])).length) Slot.unset).toArray = ls at hl ⊢
  have hl : lv_has ls 4 [(0, .long a0)] := hl
  refine lv_lload_n hx hb dX2_asSingle_0 rfl (lv_at hl 0 rfl) ?_
  refine lv_lconst (v := 0) hx hb dX2_asSingle_1 (by decide) ?_
  refine W.lcmp hx hb dX2_asSingle_2 ?_
  refine lv_if_ge (tgt := 11) hx hb dX2_asSingle_3 (by decide) (fun c_1 => ?_) (fun c_1 => ?_)
  · refine lv_lload_n hx hb dX2_asSingle_11 rfl (lv_at hl 0 rfl) ?_
    refine lv_bipush (v := 23) hx hb dX2_asSingle_12 (by decide) ?_
    refine lv_bipush (v := 127) hx hb dX2_asSingle_14 (by decide) ?_
    refine pu_S (As := [.long a0, .int (23 : Int32), .int (127 : Int32)]) (rest := []) ⟨hx, hb, hml, hown, hts⟩ (c_X2_nearest l s.heap a0 (23 : Int32) (127 : Int32)) puK_T trivial (va_cwS 3 hts gX2_asSingle_X2_nearest rfl rfl rfl (by decide +kernel) ⟨Nat.le_of_ble_eq_true rfl, Nat.le_of_ble_eq_true rfl⟩) rfl hl.1 rfl (Nat.le_of_ble_eq_true rfl) dX2_asSingle_16 ⟨Nat.zero_le _, Nat.zero_le _⟩ ?_
    refine W.eq (g2 := F0 m 19 ls [.long (f_X2_nearest a0 (23 : Int32) (127 : Int32))]) rfl ?_
    refine lv_lstore_n (lv' := [(2, .long (f_X2_nearest a0 (23 : Int32) (127 : Int32))), (0, .long a0)]) hx hb dX2_asSingle_19 rfl hl (by decide) rfl (fun ls hl => ?_)
    refine lv_lload_n hx hb dX2_asSingle_20 rfl (lv_at hl 1 rfl) ?_
    refine lv_lconst (v := 0) hx hb dX2_asSingle_21 (by decide) ?_
    refine W.lcmp hx hb dX2_asSingle_22 ?_
    refine lv_if_ge (tgt := 34) hx hb dX2_asSingle_23 (by decide) (fun z_9 => ?_) (fun z_9 => absurd c_1 z_9)
    refine lv_lload_n hx hb dX2_asSingle_34 rfl (lv_at hl 0 rfl) ?_
    exact W.lret (v := f_X2_nearest a0 (23 : Int32) (127 : Int32)) hx hb hr (fun t ht hW => ⟨congrArg (fun z => Outcome.returned (some (Value.long z))) (by unfold f_X2_asSingle; rw [if_pos c_1]), ht⟩) (fun _ h => nomatch h) dX2_asSingle_35
  · refine lv_lload_n hx hb dX2_asSingle_6 rfl (lv_at hl 0 rfl) ?_
    refine lv_lneg hx hb dX2_asSingle_7 ?_
    refine lv_goto (tgt := 12) hx hb dX2_asSingle_8 (by decide) ?_
    refine lv_bipush (v := 23) hx hb dX2_asSingle_12 (by decide) ?_
    refine lv_bipush (v := 127) hx hb dX2_asSingle_14 (by decide) ?_
    refine pu_S (As := [.long (-a0), .int (23 : Int32), .int (127 : Int32)]) (rest := []) ⟨hx, hb, hml, hown, hts⟩ (c_X2_nearest l s.heap (-a0) (23 : Int32) (127 : Int32)) puK_T trivial (va_cwS 3 hts gX2_asSingle_X2_nearest rfl rfl rfl (by decide +kernel) ⟨Nat.le_of_ble_eq_true rfl, Nat.le_of_ble_eq_true rfl⟩) rfl hl.1 rfl (Nat.le_of_ble_eq_true rfl) dX2_asSingle_16 ⟨Nat.zero_le _, Nat.zero_le _⟩ ?_
    refine W.eq (g2 := F0 m 19 ls [.long (f_X2_nearest (-a0) (23 : Int32) (127 : Int32))]) rfl ?_
    refine lv_lstore_n (lv' := [(2, .long (f_X2_nearest (-a0) (23 : Int32) (127 : Int32))), (0, .long a0)]) hx hb dX2_asSingle_19 rfl hl (by decide) rfl (fun ls hl => ?_)
    refine lv_lload_n hx hb dX2_asSingle_20 rfl (lv_at hl 1 rfl) ?_
    refine lv_lconst (v := 0) hx hb dX2_asSingle_21 (by decide) ?_
    refine W.lcmp hx hb dX2_asSingle_22 ?_
    refine lv_if_ge (tgt := 34) hx hb dX2_asSingle_23 (by decide) (fun z_9 => absurd z_9 c_1) (fun z_9 => ?_)
    refine lv_lload_n hx hb dX2_asSingle_26 rfl (lv_at hl 0 rfl) ?_
    refine lv_ldc2 (v := 2147483648) hx hb hown (hts (.constantLong RX2 87 2147483648) (by decide +kernel)) dX2_asSingle_27 ?_
    refine lv_lsub hx hb dX2_asSingle_30 ?_
    refine lv_goto (tgt := 35) hx hb dX2_asSingle_31 (by decide) ?_
    exact W.lret (v := (f_X2_nearest (-a0) (23 : Int32) (127 : Int32)) - (2147483648 : Int64)) hx hb hr (fun t ht hW => ⟨congrArg (fun z => Outcome.returned (some (Value.long z))) (by unfold f_X2_asSingle; rw [if_neg c_1]), ht⟩) (fun _ h => nomatch h) dX2_asSingle_35
def f_X2_asDouble (a0 : Int64) : Int64 := (if 0 ≤ (lg_cmp a0 (0 : Int64)) then f_X2_nearest a0 (52 : Int32) (1023 : Int32) else (f_X2_nearest (-a0) (52 : Int32) (1023 : Int32)) ||| (-9223372036854775808 : Int64))
set_option maxHeartbeats 4000000 in
set_option maxRecDepth 100000 in
theorem c_X2_asDouble (l : Launch) (H0 : Heap) (a0 : Int64) : pu l yX2_asDouble wsX2_asDouble ({ frames := 2, cells := 0, slots := 0, locals := 53 }) [.long a0] (fun _ => True) H0 (some (.long (f_X2_asDouble a0))) := by
  refine Met.ofW (cc := cX2_asDouble) (maxL := 4) (ret := (some .long)) (by decide) rfl ?_
  intro p e s m args below meth c s₁ B hml hv
  obtain ⟨rfl, hH, -⟩ := hv
  have hx := B.exec
  have hb := B.bytes
  have hr := B.returns
  have hts := atoms_spec (ws := wsX2_asDouble) B.pre
  have hown : s.vm.findClass RX2 = some m.cls := findClass_of_methodNamed B.named
  have hlocks := B.notSynchronized
  subst hH
  have hl := lv_entry ([.long a0]) (n := 4) (Nat.le_of_ble_eq_true rfl)
  rw [lg_entry_eq]
  generalize (lg_sl ([.long a0]) ++ List.replicate (4 - (lg_sl ([.long a0])).length) Slot.unset).toArray = ls at hl ⊢
  have hl : lv_has ls 4 [(0, .long a0)] := hl
  refine lv_lload_n hx hb dX2_asDouble_0 rfl (lv_at hl 0 rfl) ?_
  refine lv_lconst (v := 0) hx hb dX2_asDouble_1 (by decide) ?_
  refine W.lcmp hx hb dX2_asDouble_2 ?_
  refine lv_if_ge (tgt := 11) hx hb dX2_asDouble_3 (by decide) (fun c_1 => ?_) (fun c_1 => ?_)
  · refine lv_lload_n hx hb dX2_asDouble_11 rfl (lv_at hl 0 rfl) ?_
    refine lv_bipush (v := 52) hx hb dX2_asDouble_12 (by decide) ?_
    refine lv_sipush (v := 1023) hx hb dX2_asDouble_14 (by decide) ?_
    refine pu_S (As := [.long a0, .int (52 : Int32), .int (1023 : Int32)]) (rest := []) ⟨hx, hb, hml, hown, hts⟩ (c_X2_nearest l s.heap a0 (52 : Int32) (1023 : Int32)) puK_T trivial (va_cwS 3 hts gX2_asDouble_X2_nearest rfl rfl rfl (by decide +kernel) ⟨Nat.le_of_ble_eq_true rfl, Nat.le_of_ble_eq_true rfl⟩) rfl hl.1 rfl (Nat.le_of_ble_eq_true rfl) dX2_asDouble_17 ⟨Nat.zero_le _, Nat.zero_le _⟩ ?_
    refine W.eq (g2 := F0 m 20 ls [.long (f_X2_nearest a0 (52 : Int32) (1023 : Int32))]) rfl ?_
    refine lv_lstore_n (lv' := [(2, .long (f_X2_nearest a0 (52 : Int32) (1023 : Int32))), (0, .long a0)]) hx hb dX2_asDouble_20 rfl hl (by decide) rfl (fun ls hl => ?_)
    refine lv_lload_n hx hb dX2_asDouble_21 rfl (lv_at hl 1 rfl) ?_
    refine lv_lconst (v := 0) hx hb dX2_asDouble_22 (by decide) ?_
    refine W.lcmp hx hb dX2_asDouble_23 ?_
    refine lv_if_ge (tgt := 35) hx hb dX2_asDouble_24 (by decide) (fun z_9 => ?_) (fun z_9 => absurd c_1 z_9)
    refine lv_lload_n hx hb dX2_asDouble_35 rfl (lv_at hl 0 rfl) ?_
    exact W.lret (v := f_X2_nearest a0 (52 : Int32) (1023 : Int32)) hx hb hr (fun t ht hW => ⟨congrArg (fun z => Outcome.returned (some (Value.long z))) (by unfold f_X2_asDouble; rw [if_pos c_1]), ht⟩) (fun _ h => nomatch h) dX2_asDouble_36
  · refine lv_lload_n hx hb dX2_asDouble_6 rfl (lv_at hl 0 rfl) ?_
    refine lv_lneg hx hb dX2_asDouble_7 ?_
    refine lv_goto (tgt := 12) hx hb dX2_asDouble_8 (by decide) ?_
    refine lv_bipush (v := 52) hx hb dX2_asDouble_12 (by decide) ?_
    refine lv_sipush (v := 1023) hx hb dX2_asDouble_14 (by decide) ?_
    refine pu_S (As := [.long (-a0), .int (52 : Int32), .int (1023 : Int32)]) (rest := []) ⟨hx, hb, hml, hown, hts⟩ (c_X2_nearest l s.heap (-a0) (52 : Int32) (1023 : Int32)) puK_T trivial (va_cwS 3 hts gX2_asDouble_X2_nearest rfl rfl rfl (by decide +kernel) ⟨Nat.le_of_ble_eq_true rfl, Nat.le_of_ble_eq_true rfl⟩) rfl hl.1 rfl (Nat.le_of_ble_eq_true rfl) dX2_asDouble_17 ⟨Nat.zero_le _, Nat.zero_le _⟩ ?_
    refine W.eq (g2 := F0 m 20 ls [.long (f_X2_nearest (-a0) (52 : Int32) (1023 : Int32))]) rfl ?_
    refine lv_lstore_n (lv' := [(2, .long (f_X2_nearest (-a0) (52 : Int32) (1023 : Int32))), (0, .long a0)]) hx hb dX2_asDouble_20 rfl hl (by decide) rfl (fun ls hl => ?_)
    refine lv_lload_n hx hb dX2_asDouble_21 rfl (lv_at hl 1 rfl) ?_
    refine lv_lconst (v := 0) hx hb dX2_asDouble_22 (by decide) ?_
    refine W.lcmp hx hb dX2_asDouble_23 ?_
    refine lv_if_ge (tgt := 35) hx hb dX2_asDouble_24 (by decide) (fun z_9 => absurd z_9 c_1) (fun z_9 => ?_)
    refine lv_lload_n hx hb dX2_asDouble_27 rfl (lv_at hl 0 rfl) ?_
    refine lv_ldc2 (v := (-9223372036854775808)) hx hb hown (hts (.constantLong RX2 89 (-9223372036854775808)) (by decide +kernel)) dX2_asDouble_28 ?_
    refine lv_lor hx hb dX2_asDouble_31 ?_
    refine lv_goto (tgt := 36) hx hb dX2_asDouble_32 (by decide) ?_
    exact W.lret (v := (f_X2_nearest (-a0) (52 : Int32) (1023 : Int32)) ||| (-9223372036854775808 : Int64)) hx hb hr (fun t ht hW => ⟨congrArg (fun z => Outcome.returned (some (Value.long z))) (by unfold f_X2_asDouble; rw [if_neg c_1]), ht⟩) (fun _ h => nomatch h) dX2_asDouble_36
def f_X2_widened (a0 : Int64) : Int64 := (if 0 ≤ (lg_cmp a0 (0 : Int64)) then (if (lg_cmp ((a0 &&& (2147483647 : Int64)) >>> ((23 : Int32).toInt64 &&& 63)) (255 : Int64)) = 0 then (0 : Int64) ||| (9218868437227405312 : Int64) else (if (lg_cmp (a0 &&& (2147483647 : Int64)) (0 : Int64)) = 0 then (0 : Int64) else (if (lg_cmp ((a0 &&& (2147483647 : Int64)) >>> ((23 : Int32).toInt64 &&& 63)) (0 : Int64)) ≤ 0 then (0 : Int64) ||| ((((((f_X2_top ((a0 &&& (2147483647 : Int64)) &&& (8388607 : Int64))) + (874 : Int32)).toInt64) <<< ((52 : Int32).toInt64 &&& 63)) + (((a0 &&& (2147483647 : Int64)) &&& (8388607 : Int64)) <<< (((52 : Int32) - (f_X2_top ((a0 &&& (2147483647 : Int64)) &&& (8388607 : Int64)))).toInt64 &&& 63))) - (4503599627370496 : Int64)) else (0 : Int64) ||| (((((a0 &&& (2147483647 : Int64)) >>> ((23 : Int32).toInt64 &&& 63)) + (896 : Int64)) <<< ((52 : Int32).toInt64 &&& 63)) + (((a0 &&& (2147483647 : Int64)) &&& (8388607 : Int64)) <<< ((29 : Int32).toInt64 &&& 63)))))) else (if (lg_cmp ((a0 &&& (2147483647 : Int64)) >>> ((23 : Int32).toInt64 &&& 63)) (255 : Int64)) = 0 then (-9223372036854775808 : Int64) ||| (9218868437227405312 : Int64) else (if (lg_cmp (a0 &&& (2147483647 : Int64)) (0 : Int64)) = 0 then (-9223372036854775808 : Int64) else (if (lg_cmp ((a0 &&& (2147483647 : Int64)) >>> ((23 : Int32).toInt64 &&& 63)) (0 : Int64)) ≤ 0 then (-9223372036854775808 : Int64) ||| ((((((f_X2_top ((a0 &&& (2147483647 : Int64)) &&& (8388607 : Int64))) + (874 : Int32)).toInt64) <<< ((52 : Int32).toInt64 &&& 63)) + (((a0 &&& (2147483647 : Int64)) &&& (8388607 : Int64)) <<< (((52 : Int32) - (f_X2_top ((a0 &&& (2147483647 : Int64)) &&& (8388607 : Int64)))).toInt64 &&& 63))) - (4503599627370496 : Int64)) else (-9223372036854775808 : Int64) ||| (((((a0 &&& (2147483647 : Int64)) >>> ((23 : Int32).toInt64 &&& 63)) + (896 : Int64)) <<< ((52 : Int32).toInt64 &&& 63)) + (((a0 &&& (2147483647 : Int64)) &&& (8388607 : Int64)) <<< ((29 : Int32).toInt64 &&& 63)))))))
set_option maxHeartbeats 4000000 in
set_option maxRecDepth 100000 in
theorem c_X2_widened (l : Launch) (H0 : Heap) (a0 : Int64) : pu l yX2_widened wsX2_widened ({ frames := 1, cells := 0, slots := 0, locals := 22 }) [.long a0] (fun _ => True) H0 (some (.long (f_X2_widened a0))) := by
  refine Met.ofW (cc := cX2_widened) (maxL := 11) (ret := (some .long)) (by decide) rfl ?_
  intro p e s m args below meth c s₁ B hml hv
  obtain ⟨rfl, hH, -⟩ := hv
  have hx := B.exec
  have hb := B.bytes
  have hr := B.returns
  have hts := atoms_spec (ws := wsX2_widened) B.pre
  have hown : s.vm.findClass RX2 = some m.cls := findClass_of_methodNamed B.named
  have hlocks := B.notSynchronized
  subst hH
  have hl := lv_entry ([.long a0]) (n := 11) (Nat.le_of_ble_eq_true rfl)
  rw [lg_entry_eq]
  generalize (lg_sl ([.long a0]) ++ List.replicate (11 - (lg_sl ([.long a0])).length) Slot.unset).toArray = ls at hl ⊢
  have hl : lv_has ls 11 [(0, .long a0)] := hl
  refine lv_lload_n hx hb dX2_widened_0 rfl (lv_at hl 0 rfl) ?_
  refine lv_ldc2 (v := 2147483647) hx hb hown (hts (.constantLong RX2 55 2147483647) (by decide +kernel)) dX2_widened_1 ?_
  refine lv_land hx hb dX2_widened_4 ?_
  refine lv_lstore_n (lv' := [(2, .long (a0 &&& (2147483647 : Int64))), (0, .long a0)]) hx hb dX2_widened_5 rfl hl (by decide) rfl (fun ls hl => ?_)
  refine lv_lload_n hx hb dX2_widened_6 rfl (lv_at hl 1 rfl) ?_
  refine lv_lconst (v := 0) hx hb dX2_widened_7 (by decide) ?_
  refine W.lcmp hx hb dX2_widened_8 ?_
  refine lv_if_ge (tgt := 18) hx hb dX2_widened_9 (by decide) (fun c_1 => ?_) (fun c_1 => ?_)
  · refine lv_lconst (v := 0) hx hb dX2_widened_18 (by decide) ?_
    refine lv_lstore (lv' := [(4, .long (0 : Int64)), (2, .long (a0 &&& (2147483647 : Int64))), (0, .long a0)]) hx hb dX2_widened_19 hl (by decide) rfl (fun ls hl => ?_)
    refine lv_lload_n hx hb dX2_widened_21 rfl (lv_at hl 1 rfl) ?_
    refine lv_bipush (v := 23) hx hb dX2_widened_22 (by decide) ?_
    refine lv_lshr hx hb dX2_widened_24 rfl ?_
    refine lv_lstore (lv' := [(6, .long ((a0 &&& (2147483647 : Int64)) >>> ((23 : Int32).toInt64 &&& 63))), (4, .long (0 : Int64)), (2, .long (a0 &&& (2147483647 : Int64))), (0, .long a0)]) hx hb dX2_widened_25 hl (by decide) rfl (fun ls hl => ?_)
    refine lv_lload_n hx hb dX2_widened_27 rfl (lv_at hl 2 rfl) ?_
    refine lv_ldc2 (v := 8388607) hx hb hown (hts (.constantLong RX2 121 8388607) (by decide +kernel)) dX2_widened_28 ?_
    refine lv_land hx hb dX2_widened_31 ?_
    refine lv_lstore (lv' := [(8, .long ((a0 &&& (2147483647 : Int64)) &&& (8388607 : Int64))), (6, .long ((a0 &&& (2147483647 : Int64)) >>> ((23 : Int32).toInt64 &&& 63))), (4, .long (0 : Int64)), (2, .long (a0 &&& (2147483647 : Int64))), (0, .long a0)]) hx hb dX2_widened_32 hl (by decide) rfl (fun ls hl => ?_)
    refine lv_lload hx hb dX2_widened_34 (lv_at hl 1 rfl) ?_
    refine lv_ldc2 (v := 255) hx hb hown (hts (.constantLong RX2 123 255) (by decide +kernel)) dX2_widened_36 ?_
    refine W.lcmp hx hb dX2_widened_39 ?_
    refine lv_if_ne (tgt := 50) hx hb dX2_widened_40 (by decide) (fun c_2 => ?_) (fun c_2 => ?_)
    · refine lv_lload_n hx hb dX2_widened_50 rfl (lv_at hl 3 rfl) ?_
      refine lv_lconst (v := 0) hx hb dX2_widened_51 (by decide) ?_
      refine W.lcmp hx hb dX2_widened_52 ?_
      refine lv_if_ne (tgt := 59) hx hb dX2_widened_53 (by decide) (fun c_3 => ?_) (fun c_3 => ?_)
      · refine lv_lload hx hb dX2_widened_59 (lv_at hl 1 rfl) ?_
        refine lv_lconst (v := 0) hx hb dX2_widened_61 (by decide) ?_
        refine W.lcmp hx hb dX2_widened_62 ?_
        refine lv_if_le (tgt := 85) hx hb dX2_widened_63 (by decide) (fun c_4 => ?_) (fun c_4 => ?_)
        · refine lv_lload hx hb dX2_widened_85 (lv_at hl 0 rfl) ?_
          refine pu_S (As := [.long ((a0 &&& (2147483647 : Int64)) &&& (8388607 : Int64))]) (rest := []) ⟨hx, hb, hml, hown, hts⟩ (c_X2_top l s.heap ((a0 &&& (2147483647 : Int64)) &&& (8388607 : Int64))) puK_T trivial (va_cwS 1 hts gX2_widened_X2_top rfl rfl rfl (by decide +kernel) ⟨Nat.le_of_ble_eq_true rfl, Nat.le_of_ble_eq_true rfl⟩) rfl hl.1 rfl (Nat.le_of_ble_eq_true rfl) dX2_widened_87 ⟨Nat.zero_le _, Nat.zero_le _⟩ ?_
          refine W.eq (g2 := F0 m 90 ls [.int (f_X2_top ((a0 &&& (2147483647 : Int64)) &&& (8388607 : Int64)))]) rfl ?_
          refine lv_istore (lv' := [(10, .int (f_X2_top ((a0 &&& (2147483647 : Int64)) &&& (8388607 : Int64)))), (8, .long ((a0 &&& (2147483647 : Int64)) &&& (8388607 : Int64))), (6, .long ((a0 &&& (2147483647 : Int64)) >>> ((23 : Int32).toInt64 &&& 63))), (4, .long (0 : Int64)), (2, .long (a0 &&& (2147483647 : Int64))), (0, .long a0)]) hx hb dX2_widened_90 hl (by decide) rfl (fun ls hl => ?_)
          refine lv_lload hx hb dX2_widened_92 (lv_at hl 3 rfl) ?_
          refine lv_iload hx hb dX2_widened_94 (lv_at hl 0 rfl) ?_
          refine lv_sipush (v := 874) hx hb dX2_widened_96 (by decide) ?_
          refine lv_iadd hx hb dX2_widened_99 ?_
          refine lv_i2l hx hb dX2_widened_100 rfl ?_
          refine lv_bipush (v := 52) hx hb dX2_widened_101 (by decide) ?_
          refine lv_lshl hx hb dX2_widened_103 rfl ?_
          refine lv_lload hx hb dX2_widened_104 (lv_at hl 1 rfl) ?_
          refine lv_bipush (v := 52) hx hb dX2_widened_106 (by decide) ?_
          refine lv_iload hx hb dX2_widened_108 (lv_at hl 0 rfl) ?_
          refine lv_isub hx hb dX2_widened_110 ?_
          refine lv_lshl hx hb dX2_widened_111 rfl ?_
          refine lv_ladd hx hb dX2_widened_112 ?_
          refine lv_ldc2 (v := 4503599627370496) hx hb hown (hts (.constantLong RX2 127 4503599627370496) (by decide +kernel)) dX2_widened_113 ?_
          refine lv_lsub hx hb dX2_widened_116 ?_
          refine lv_lor hx hb dX2_widened_117 ?_
          exact W.lret (v := (0 : Int64) ||| ((((((f_X2_top ((a0 &&& (2147483647 : Int64)) &&& (8388607 : Int64))) + (874 : Int32)).toInt64) <<< ((52 : Int32).toInt64 &&& 63)) + (((a0 &&& (2147483647 : Int64)) &&& (8388607 : Int64)) <<< (((52 : Int32) - (f_X2_top ((a0 &&& (2147483647 : Int64)) &&& (8388607 : Int64)))).toInt64 &&& 63))) - (4503599627370496 : Int64))) hx hb hr (fun t ht hW => ⟨congrArg (fun z => Outcome.returned (some (Value.long z))) (by unfold f_X2_widened; rw [if_pos c_1, if_neg c_2, if_neg c_3, if_pos c_4]), ht⟩) (fun _ h => nomatch h) dX2_widened_118
        · refine lv_lload hx hb dX2_widened_66 (lv_at hl 2 rfl) ?_
          refine lv_lload hx hb dX2_widened_68 (lv_at hl 1 rfl) ?_
          refine lv_ldc2 (v := 896) hx hb hown (hts (.constantLong RX2 125 896) (by decide +kernel)) dX2_widened_70 ?_
          refine lv_ladd hx hb dX2_widened_73 ?_
          refine lv_bipush (v := 52) hx hb dX2_widened_74 (by decide) ?_
          refine lv_lshl hx hb dX2_widened_76 rfl ?_
          refine lv_lload hx hb dX2_widened_77 (lv_at hl 0 rfl) ?_
          refine lv_bipush (v := 29) hx hb dX2_widened_79 (by decide) ?_
          refine lv_lshl hx hb dX2_widened_81 rfl ?_
          refine lv_ladd hx hb dX2_widened_82 ?_
          refine lv_lor hx hb dX2_widened_83 ?_
          exact W.lret (v := (0 : Int64) ||| (((((a0 &&& (2147483647 : Int64)) >>> ((23 : Int32).toInt64 &&& 63)) + (896 : Int64)) <<< ((52 : Int32).toInt64 &&& 63)) + (((a0 &&& (2147483647 : Int64)) &&& (8388607 : Int64)) <<< ((29 : Int32).toInt64 &&& 63)))) hx hb hr (fun t ht hW => ⟨congrArg (fun z => Outcome.returned (some (Value.long z))) (by unfold f_X2_widened; rw [if_pos c_1, if_neg c_2, if_neg c_3, if_neg c_4]), ht⟩) (fun _ h => nomatch h) dX2_widened_84
      · refine lv_lload hx hb dX2_widened_56 (lv_at hl 2 rfl) ?_
        exact W.lret (v := (0 : Int64)) hx hb hr (fun t ht hW => ⟨congrArg (fun z => Outcome.returned (some (Value.long z))) (by unfold f_X2_widened; rw [if_pos c_1, if_neg c_2, if_pos c_3]), ht⟩) (fun _ h => nomatch h) dX2_widened_58
    · refine lv_lload hx hb dX2_widened_43 (lv_at hl 2 rfl) ?_
      refine lv_ldc2 (v := 9218868437227405312) hx hb hown (hts (.constantLong RX2 61 9218868437227405312) (by decide +kernel)) dX2_widened_45 ?_
      refine lv_lor hx hb dX2_widened_48 ?_
      exact W.lret (v := (0 : Int64) ||| (9218868437227405312 : Int64)) hx hb hr (fun t ht hW => ⟨congrArg (fun z => Outcome.returned (some (Value.long z))) (by unfold f_X2_widened; rw [if_pos c_1, if_pos c_2]), ht⟩) (fun _ h => nomatch h) dX2_widened_49
  · refine lv_ldc2 (v := (-9223372036854775808)) hx hb hown (hts (.constantLong RX2 89 (-9223372036854775808)) (by decide +kernel)) dX2_widened_12 ?_
    refine lv_goto (tgt := 19) hx hb dX2_widened_15 (by decide) ?_
    refine lv_lstore (lv' := [(4, .long (-9223372036854775808 : Int64)), (2, .long (a0 &&& (2147483647 : Int64))), (0, .long a0)]) hx hb dX2_widened_19 hl (by decide) rfl (fun ls hl => ?_)
    refine lv_lload_n hx hb dX2_widened_21 rfl (lv_at hl 1 rfl) ?_
    refine lv_bipush (v := 23) hx hb dX2_widened_22 (by decide) ?_
    refine lv_lshr hx hb dX2_widened_24 rfl ?_
    refine lv_lstore (lv' := [(6, .long ((a0 &&& (2147483647 : Int64)) >>> ((23 : Int32).toInt64 &&& 63))), (4, .long (-9223372036854775808 : Int64)), (2, .long (a0 &&& (2147483647 : Int64))), (0, .long a0)]) hx hb dX2_widened_25 hl (by decide) rfl (fun ls hl => ?_)
    refine lv_lload_n hx hb dX2_widened_27 rfl (lv_at hl 2 rfl) ?_
    refine lv_ldc2 (v := 8388607) hx hb hown (hts (.constantLong RX2 121 8388607) (by decide +kernel)) dX2_widened_28 ?_
    refine lv_land hx hb dX2_widened_31 ?_
    refine lv_lstore (lv' := [(8, .long ((a0 &&& (2147483647 : Int64)) &&& (8388607 : Int64))), (6, .long ((a0 &&& (2147483647 : Int64)) >>> ((23 : Int32).toInt64 &&& 63))), (4, .long (-9223372036854775808 : Int64)), (2, .long (a0 &&& (2147483647 : Int64))), (0, .long a0)]) hx hb dX2_widened_32 hl (by decide) rfl (fun ls hl => ?_)
    refine lv_lload hx hb dX2_widened_34 (lv_at hl 1 rfl) ?_
    refine lv_ldc2 (v := 255) hx hb hown (hts (.constantLong RX2 123 255) (by decide +kernel)) dX2_widened_36 ?_
    refine W.lcmp hx hb dX2_widened_39 ?_
    refine lv_if_ne (tgt := 50) hx hb dX2_widened_40 (by decide) (fun c_5 => ?_) (fun c_5 => ?_)
    · refine lv_lload_n hx hb dX2_widened_50 rfl (lv_at hl 3 rfl) ?_
      refine lv_lconst (v := 0) hx hb dX2_widened_51 (by decide) ?_
      refine W.lcmp hx hb dX2_widened_52 ?_
      refine lv_if_ne (tgt := 59) hx hb dX2_widened_53 (by decide) (fun c_6 => ?_) (fun c_6 => ?_)
      · refine lv_lload hx hb dX2_widened_59 (lv_at hl 1 rfl) ?_
        refine lv_lconst (v := 0) hx hb dX2_widened_61 (by decide) ?_
        refine W.lcmp hx hb dX2_widened_62 ?_
        refine lv_if_le (tgt := 85) hx hb dX2_widened_63 (by decide) (fun c_7 => ?_) (fun c_7 => ?_)
        · refine lv_lload hx hb dX2_widened_85 (lv_at hl 0 rfl) ?_
          refine pu_S (As := [.long ((a0 &&& (2147483647 : Int64)) &&& (8388607 : Int64))]) (rest := []) ⟨hx, hb, hml, hown, hts⟩ (c_X2_top l s.heap ((a0 &&& (2147483647 : Int64)) &&& (8388607 : Int64))) puK_T trivial (va_cwS 1 hts gX2_widened_X2_top rfl rfl rfl (by decide +kernel) ⟨Nat.le_of_ble_eq_true rfl, Nat.le_of_ble_eq_true rfl⟩) rfl hl.1 rfl (Nat.le_of_ble_eq_true rfl) dX2_widened_87 ⟨Nat.zero_le _, Nat.zero_le _⟩ ?_
          refine W.eq (g2 := F0 m 90 ls [.int (f_X2_top ((a0 &&& (2147483647 : Int64)) &&& (8388607 : Int64)))]) rfl ?_
          refine lv_istore (lv' := [(10, .int (f_X2_top ((a0 &&& (2147483647 : Int64)) &&& (8388607 : Int64)))), (8, .long ((a0 &&& (2147483647 : Int64)) &&& (8388607 : Int64))), (6, .long ((a0 &&& (2147483647 : Int64)) >>> ((23 : Int32).toInt64 &&& 63))), (4, .long (-9223372036854775808 : Int64)), (2, .long (a0 &&& (2147483647 : Int64))), (0, .long a0)]) hx hb dX2_widened_90 hl (by decide) rfl (fun ls hl => ?_)
          refine lv_lload hx hb dX2_widened_92 (lv_at hl 3 rfl) ?_
          refine lv_iload hx hb dX2_widened_94 (lv_at hl 0 rfl) ?_
          refine lv_sipush (v := 874) hx hb dX2_widened_96 (by decide) ?_
          refine lv_iadd hx hb dX2_widened_99 ?_
          refine lv_i2l hx hb dX2_widened_100 rfl ?_
          refine lv_bipush (v := 52) hx hb dX2_widened_101 (by decide) ?_
          refine lv_lshl hx hb dX2_widened_103 rfl ?_
          refine lv_lload hx hb dX2_widened_104 (lv_at hl 1 rfl) ?_
          refine lv_bipush (v := 52) hx hb dX2_widened_106 (by decide) ?_
          refine lv_iload hx hb dX2_widened_108 (lv_at hl 0 rfl) ?_
          refine lv_isub hx hb dX2_widened_110 ?_
          refine lv_lshl hx hb dX2_widened_111 rfl ?_
          refine lv_ladd hx hb dX2_widened_112 ?_
          refine lv_ldc2 (v := 4503599627370496) hx hb hown (hts (.constantLong RX2 127 4503599627370496) (by decide +kernel)) dX2_widened_113 ?_
          refine lv_lsub hx hb dX2_widened_116 ?_
          refine lv_lor hx hb dX2_widened_117 ?_
          exact W.lret (v := (-9223372036854775808 : Int64) ||| ((((((f_X2_top ((a0 &&& (2147483647 : Int64)) &&& (8388607 : Int64))) + (874 : Int32)).toInt64) <<< ((52 : Int32).toInt64 &&& 63)) + (((a0 &&& (2147483647 : Int64)) &&& (8388607 : Int64)) <<< (((52 : Int32) - (f_X2_top ((a0 &&& (2147483647 : Int64)) &&& (8388607 : Int64)))).toInt64 &&& 63))) - (4503599627370496 : Int64))) hx hb hr (fun t ht hW => ⟨congrArg (fun z => Outcome.returned (some (Value.long z))) (by unfold f_X2_widened; rw [if_neg c_1, if_neg c_5, if_neg c_6, if_pos c_7]), ht⟩) (fun _ h => nomatch h) dX2_widened_118
        · refine lv_lload hx hb dX2_widened_66 (lv_at hl 2 rfl) ?_
          refine lv_lload hx hb dX2_widened_68 (lv_at hl 1 rfl) ?_
          refine lv_ldc2 (v := 896) hx hb hown (hts (.constantLong RX2 125 896) (by decide +kernel)) dX2_widened_70 ?_
          refine lv_ladd hx hb dX2_widened_73 ?_
          refine lv_bipush (v := 52) hx hb dX2_widened_74 (by decide) ?_
          refine lv_lshl hx hb dX2_widened_76 rfl ?_
          refine lv_lload hx hb dX2_widened_77 (lv_at hl 0 rfl) ?_
          refine lv_bipush (v := 29) hx hb dX2_widened_79 (by decide) ?_
          refine lv_lshl hx hb dX2_widened_81 rfl ?_
          refine lv_ladd hx hb dX2_widened_82 ?_
          refine lv_lor hx hb dX2_widened_83 ?_
          exact W.lret (v := (-9223372036854775808 : Int64) ||| (((((a0 &&& (2147483647 : Int64)) >>> ((23 : Int32).toInt64 &&& 63)) + (896 : Int64)) <<< ((52 : Int32).toInt64 &&& 63)) + (((a0 &&& (2147483647 : Int64)) &&& (8388607 : Int64)) <<< ((29 : Int32).toInt64 &&& 63)))) hx hb hr (fun t ht hW => ⟨congrArg (fun z => Outcome.returned (some (Value.long z))) (by unfold f_X2_widened; rw [if_neg c_1, if_neg c_5, if_neg c_6, if_neg c_7]), ht⟩) (fun _ h => nomatch h) dX2_widened_84
      · refine lv_lload hx hb dX2_widened_56 (lv_at hl 2 rfl) ?_
        exact W.lret (v := (-9223372036854775808 : Int64)) hx hb hr (fun t ht hW => ⟨congrArg (fun z => Outcome.returned (some (Value.long z))) (by unfold f_X2_widened; rw [if_neg c_1, if_neg c_5, if_pos c_6]), ht⟩) (fun _ h => nomatch h) dX2_widened_58
    · refine lv_lload hx hb dX2_widened_43 (lv_at hl 2 rfl) ?_
      refine lv_ldc2 (v := 9218868437227405312) hx hb hown (hts (.constantLong RX2 61 9218868437227405312) (by decide +kernel)) dX2_widened_45 ?_
      refine lv_lor hx hb dX2_widened_48 ?_
      exact W.lret (v := (-9223372036854775808 : Int64) ||| (9218868437227405312 : Int64)) hx hb hr (fun t ht hW => ⟨congrArg (fun z => Outcome.returned (some (Value.long z))) (by unfold f_X2_widened; rw [if_neg c_1, if_pos c_5]), ht⟩) (fun _ h => nomatch h) dX2_widened_49
def f_X2_handed (a0 : Int64) (a1 : Int32) (a2 : Int32) : Int64 := (if a1 = a2 then a0 else (if a2 = (1 : Int32) then a0 else (if a1 = (2 : Int32) then f_X2_widened a0 else (if a2 = (2 : Int32) then f_X2_asSingle a0 else f_X2_asDouble a0))))
set_option maxHeartbeats 4000000 in
set_option maxRecDepth 100000 in
theorem c_X2_handed (l : Launch) (H0 : Heap) (a0 : Int64) (a1 : Int32) (a2 : Int32) : pu l yX2_handed wsX2_handed ({ frames := 3, cells := 0, slots := 0, locals := 76 }) [.long a0, .int a1, .int a2] (fun _ => True) H0 (some (.long (f_X2_handed a0 a1 a2))) := by
  refine Met.ofW (cc := cX2_handed) (maxL := 4) (ret := (some .long)) (by decide) rfl ?_
  intro p e s m args below meth c s₁ B hml hv
  obtain ⟨rfl, hH, -⟩ := hv
  have hx := B.exec
  have hb := B.bytes
  have hr := B.returns
  have hts := atoms_spec (ws := wsX2_handed) B.pre
  have hown : s.vm.findClass RX2 = some m.cls := findClass_of_methodNamed B.named
  have hlocks := B.notSynchronized
  subst hH
  have hl := lv_entry ([.long a0, .int a1, .int a2]) (n := 4) (Nat.le_of_ble_eq_true rfl)
  rw [lg_entry_eq]
  generalize (lg_sl ([.long a0, .int a1, .int a2]) ++ List.replicate (4 - (lg_sl ([.long a0, .int a1, .int a2])).length) Slot.unset).toArray = ls at hl ⊢
  have hl : lv_has ls 4 [(0, .long a0), (2, .int a1), (3, .int a2)] := hl
  refine lv_iload_n hx hb dX2_handed_0 rfl (lv_at hl 1 rfl) ?_
  refine lv_iload_n hx hb dX2_handed_1 rfl (lv_at hl 2 rfl) ?_
  refine lv_icmp_eq (tgt := 10) hx hb dX2_handed_2 (by decide) (fun c_1 => ?_) (fun c_1 => ?_)
  · refine lv_lload_n hx hb dX2_handed_10 rfl (lv_at hl 0 rfl) ?_
    exact W.lret (v := a0) hx hb hr (fun t ht hW => ⟨congrArg (fun z => Outcome.returned (some (Value.long z))) (by unfold f_X2_handed; rw [if_pos c_1]), ht⟩) (fun _ h => nomatch h) dX2_handed_11
  · refine lv_iload_n hx hb dX2_handed_5 rfl (lv_at hl 2 rfl) ?_
    refine lv_iconst (v := 1) hx hb dX2_handed_6 (by decide) ?_
    refine lv_icmp_ne (tgt := 12) hx hb dX2_handed_7 (by decide) (fun c_2 => ?_) (fun c_2 => ?_)
    · refine lv_iload_n hx hb dX2_handed_12 rfl (lv_at hl 1 rfl) ?_
      refine lv_iconst (v := 2) hx hb dX2_handed_13 (by decide) ?_
      refine lv_icmp_ne (tgt := 22) hx hb dX2_handed_14 (by decide) (fun c_3 => ?_) (fun c_3 => ?_)
      · refine lv_iload_n hx hb dX2_handed_22 rfl (lv_at hl 2 rfl) ?_
        refine lv_iconst (v := 2) hx hb dX2_handed_23 (by decide) ?_
        refine lv_icmp_ne (tgt := 34) hx hb dX2_handed_24 (by decide) (fun c_4 => ?_) (fun c_4 => ?_)
        · refine lv_lload_n hx hb dX2_handed_34 rfl (lv_at hl 0 rfl) ?_
          refine pu_S (As := [.long a0]) (rest := []) ⟨hx, hb, hml, hown, hts⟩ (c_X2_asDouble l s.heap a0) puK_T trivial (va_cwS 1 hts gX2_handed_X2_asDouble rfl rfl rfl (by decide +kernel) ⟨Nat.le_of_ble_eq_true rfl, Nat.le_of_ble_eq_true rfl⟩) rfl hl.1 rfl (Nat.le_of_ble_eq_true rfl) dX2_handed_35 ⟨Nat.zero_le _, Nat.zero_le _⟩ ?_
          refine W.eq (g2 := F0 m 38 ls [.long (f_X2_asDouble a0)]) rfl ?_
          exact W.lret (v := f_X2_asDouble a0) hx hb hr (fun t ht hW => ⟨congrArg (fun z => Outcome.returned (some (Value.long z))) (by unfold f_X2_handed; rw [if_neg c_1, if_neg c_2, if_neg c_3, if_neg c_4]), ht⟩) (fun _ h => nomatch h) dX2_handed_38
        · refine lv_lload_n hx hb dX2_handed_27 rfl (lv_at hl 0 rfl) ?_
          refine pu_S (As := [.long a0]) (rest := []) ⟨hx, hb, hml, hown, hts⟩ (c_X2_asSingle l s.heap a0) puK_T trivial (va_cwS 1 hts gX2_handed_X2_asSingle rfl rfl rfl (by decide +kernel) ⟨Nat.le_of_ble_eq_true rfl, Nat.le_of_ble_eq_true rfl⟩) rfl hl.1 rfl (Nat.le_of_ble_eq_true rfl) dX2_handed_28 ⟨Nat.zero_le _, Nat.zero_le _⟩ ?_
          refine W.eq (g2 := F0 m 31 ls [.long (f_X2_asSingle a0)]) rfl ?_
          refine lv_goto (tgt := 38) hx hb dX2_handed_31 (by decide) ?_
          exact W.lret (v := f_X2_asSingle a0) hx hb hr (fun t ht hW => ⟨congrArg (fun z => Outcome.returned (some (Value.long z))) (by unfold f_X2_handed; rw [if_neg c_1, if_neg c_2, if_neg c_3, if_pos c_4]), ht⟩) (fun _ h => nomatch h) dX2_handed_38
      · refine lv_lload_n hx hb dX2_handed_17 rfl (lv_at hl 0 rfl) ?_
        refine pu_S (As := [.long a0]) (rest := []) ⟨hx, hb, hml, hown, hts⟩ (c_X2_widened l s.heap a0) puK_T trivial (va_cwS 1 hts gX2_handed_X2_widened rfl rfl rfl (by decide +kernel) ⟨Nat.le_of_ble_eq_true rfl, Nat.le_of_ble_eq_true rfl⟩) rfl hl.1 rfl (Nat.le_of_ble_eq_true rfl) dX2_handed_18 ⟨Nat.zero_le _, Nat.zero_le _⟩ ?_
        refine W.eq (g2 := F0 m 21 ls [.long (f_X2_widened a0)]) rfl ?_
        exact W.lret (v := f_X2_widened a0) hx hb hr (fun t ht hW => ⟨congrArg (fun z => Outcome.returned (some (Value.long z))) (by unfold f_X2_handed; rw [if_neg c_1, if_neg c_2, if_pos c_3]), ht⟩) (fun _ h => nomatch h) dX2_handed_21
    · refine lv_lload_n hx hb dX2_handed_10 rfl (lv_at hl 0 rfl) ?_
      exact W.lret (v := a0) hx hb hr (fun t ht hW => ⟨congrArg (fun z => Outcome.returned (some (Value.long z))) (by unfold f_X2_handed; rw [if_neg c_1, if_pos c_2]), ht⟩) (fun _ h => nomatch h) dX2_handed_11
