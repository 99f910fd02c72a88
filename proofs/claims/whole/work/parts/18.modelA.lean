def f_X2_thrown (x : MS)  : Int32 := mth x
set_option maxHeartbeats 4000000 in
set_option maxRecDepth 100000 in
theorem c_X2_thrown (l : Launch) (H0 : Heap) (D : va_G) (cI cJ cZ cG : ClassId) (m0 : Nat) (a : Nat → Nat) (x : MS)   (hP : va_P D vwCl (MW cI cJ cZ m0 a x) H0) : pu l yX2_thrown wsX2_thrown ({ frames := 0, cells := 0, slots := 0, locals := 0 }) [.ref m0] (KW D cI cJ cZ cG) H0 (some (.int (f_X2_thrown x ))) := by
  refine Met.ofW (cc := cX2_thrown) (maxL := 1) (ret := (some .int)) (by decide) rfl ?_
  intro p e s m args below meth c s₁ B hml hv
  obtain ⟨rfl, hH, hKW⟩ := hv
  have hx := B.exec
  have hb := B.bytes
  have hr := B.returns
  have hts := atoms_spec (ws := wsX2_thrown) B.pre
  have hown : s.vm.findClass RX2 = some m.cls := findClass_of_methodNamed B.named
  have hlocks := B.notSynchronized
  subst hH
  have hl := lv_entry ([.ref m0]) (n := 1) (Nat.le_of_ble_eq_true rfl)
  rw [lg_entry_eq]
  generalize (lg_sl ([.ref m0]) ++ List.replicate (1 - (lg_sl ([.ref m0])).length) Slot.unset).toArray = ls at hl ⊢
  have hl : lv_has ls 1 [(0, .ref m0)] := hl
  have hK := hKW.1
  have hinX2 : ∀ w ∈ u_ws RX2 TX2 14, w ∈ wsX2_thrown := by decide +kernel
  have hP : va_P D vwCl [(m0, .inr (2, [.int (mth x), .ref (a 1), .ref (a 2), .ref (a 3), .ref (a 4), .ref (a 5), .ref (a 6), .ref (a 7), .ref (a 8), .ref (a 9), .ref (a 10), .ref (a 11), .ref (a 12), .ref (a 13)])), ((a 1), .inl (cZ, 12, .inl (mT x))), ((a 2), .inl (cI, 12, .inl (mK x))), ((a 3), .inl (cJ, 12, .inr (.inl (mV x)))), ((a 4), .inl (cI, 12, .inl (mS x))), ((a 5), .inl (cI, 12, .inl (mR x))), ((a 6), .inl (cI, 12, .inl (mW x))), ((a 7), .inl (cZ, 12, .inl (mM x))), ((a 8), .inl (cJ, 12, .inr (.inl (mH x)))), ((a 9), .inl (cJ, 12, .inr (.inl (mL x)))), ((a 10), .inl (cI, 96, .inl (mO x))), ((a 11), .inl (cI, 96, .inl (mP x))), ((a 12), .inl (cJ, 96, .inr (.inl (mB x)))), ((a 13), .inl (cI, 96, .inl (mG x)))] s.heap := hP
  refine lv_aload_n hx hb dX2_thrown_0 rfl (lv_at hl 0 rfl) ?_
  refine va_get (D := D) (ci := 2) (v := .int (mth x)) (C := RX2) (T := TX2) (N := 14) hx hb hts hinX2 hown hK hP 0 rfl rfl 0 (by decide) (hts (.fieldLink RX2 51 "GaugeBoardModel" "thrown" "I") (by decide +kernel)) (fun _ h9 => h9) rfl dX2_thrown_1 ?_
  exact W.iret (v := mth x) hx hb hr (fun t ht hW => ⟨congrArg (fun z => Outcome.returned (some (Value.int z))) (rfl), ht⟩) (fun _ h => nomatch h) dX2_thrown_4
def f_X2_isThere (x : MS) (b0 : Int32) : Int32 := (if b0 < 0 then (0 : Int32) else (if (12 : Int32) ≤ b0 then (0 : Int32) else (if ((mT x) b0.toNatClampNeg) = 0 then (0 : Int32) else (1 : Int32))))
set_option maxHeartbeats 4000000 in
set_option maxRecDepth 100000 in
theorem c_X2_isThere (l : Launch) (H0 : Heap) (D : va_G) (cI cJ cZ cG : ClassId) (m0 : Nat) (a : Nat → Nat) (x : MS) (b0 : Int32)  (hP : va_P D vwCl (MW cI cJ cZ m0 a x) H0) : pu l yX2_isThere wsX2_isThere ({ frames := 0, cells := 0, slots := 0, locals := 0 }) [.ref m0, .int b0] (KW D cI cJ cZ cG) H0 (some (.int (f_X2_isThere x b0))) := by
  refine Met.ofW (cc := cX2_isThere) (maxL := 2) (ret := (some .boolean)) (by decide) rfl ?_
  intro p e s m args below meth c s₁ B hml hv
  obtain ⟨rfl, hH, hKW⟩ := hv
  have hx := B.exec
  have hb := B.bytes
  have hr := B.returns
  have hts := atoms_spec (ws := wsX2_isThere) B.pre
  have hown : s.vm.findClass RX2 = some m.cls := findClass_of_methodNamed B.named
  have hlocks := B.notSynchronized
  subst hH
  have hl := lv_entry ([.ref m0, .int b0]) (n := 2) (Nat.le_of_ble_eq_true rfl)
  rw [lg_entry_eq]
  generalize (lg_sl ([.ref m0, .int b0]) ++ List.replicate (2 - (lg_sl ([.ref m0, .int b0])).length) Slot.unset).toArray = ls at hl ⊢
  have hl : lv_has ls 2 [(0, .ref m0), (1, .int b0)] := hl
  have hK := hKW.1
  have hinX2 : ∀ w ∈ u_ws RX2 TX2 14, w ∈ wsX2_isThere := by decide +kernel
  have hP : va_P D vwCl [(m0, .inr (2, [.int (mth x), .ref (a 1), .ref (a 2), .ref (a 3), .ref (a 4), .ref (a 5), .ref (a 6), .ref (a 7), .ref (a 8), .ref (a 9), .ref (a 10), .ref (a 11), .ref (a 12), .ref (a 13)])), ((a 1), .inl (cZ, 12, .inl (mT x))), ((a 2), .inl (cI, 12, .inl (mK x))), ((a 3), .inl (cJ, 12, .inr (.inl (mV x)))), ((a 4), .inl (cI, 12, .inl (mS x))), ((a 5), .inl (cI, 12, .inl (mR x))), ((a 6), .inl (cI, 12, .inl (mW x))), ((a 7), .inl (cZ, 12, .inl (mM x))), ((a 8), .inl (cJ, 12, .inr (.inl (mH x)))), ((a 9), .inl (cJ, 12, .inr (.inl (mL x)))), ((a 10), .inl (cI, 96, .inl (mO x))), ((a 11), .inl (cI, 96, .inl (mP x))), ((a 12), .inl (cJ, 96, .inr (.inl (mB x)))), ((a 13), .inl (cI, 96, .inl (mG x)))] s.heap := hP
  refine lv_iload_n hx hb dX2_isThere_0 rfl (lv_at hl 1 rfl) ?_
  refine lv_if_lt (tgt := 23) hx hb dX2_isThere_1 (by decide) (fun c_1 => ?_) (fun c_1 => ?_)
  · refine lv_iconst (v := 0) hx hb dX2_isThere_23 (by decide) ?_
    exact W.zret (v := (0 : Int32)) hx hb hr rfl (fun t ht hW => ⟨congrArg (fun z => Outcome.returned (some (Value.int z))) (by unfold f_X2_isThere; rw [if_pos c_1]), ht⟩) (fun _ h => nomatch h) dX2_isThere_24
  · refine lv_iload_n hx hb dX2_isThere_4 rfl (lv_at hl 1 rfl) ?_
    refine lv_bipush (v := 12) hx hb dX2_isThere_5 (by decide) ?_
    refine lv_icmp_ge (tgt := 23) hx hb dX2_isThere_7 (by decide) (fun c_2 => ?_) (fun c_2 => ?_)
    · refine lv_iconst (v := 0) hx hb dX2_isThere_23 (by decide) ?_
      exact W.zret (v := (0 : Int32)) hx hb hr rfl (fun t ht hW => ⟨congrArg (fun z => Outcome.returned (some (Value.int z))) (by unfold f_X2_isThere; rw [if_neg c_1, if_pos c_2]), ht⟩) (fun _ h => nomatch h) dX2_isThere_24
    · refine lv_aload_n hx hb dX2_isThere_10 rfl (lv_at hl 0 rfl) ?_
      refine va_get (D := D) (ci := 2) (v := .ref (a 1)) (C := RX2) (T := TX2) (N := 14) hx hb hts hinX2 hown hK hP 0 rfl rfl 1 (by decide) (hts (.fieldLink RX2 7 "GaugeBoardModel" "there" "[Z") (by decide +kernel)) (fun _ h9 => h9) rfl dX2_isThere_11 ?_
      refine lv_iload_n hx hb dX2_isThere_14 rfl (lv_at hl 1 rfl) ?_
      refine va_zald hx hb hK hP 1 2 rfl rfl (in12 c_1 c_2) dX2_isThere_15 ?_
      refine lv_if_eq (tgt := 23) hx hb dX2_isThere_16 (by decide) (fun c_3 => ?_) (fun c_3 => ?_)
      · refine lv_iconst (v := 0) hx hb dX2_isThere_23 (by decide) ?_
        exact W.zret (v := (0 : Int32)) hx hb hr rfl (fun t ht hW => ⟨congrArg (fun z => Outcome.returned (some (Value.int z))) (by unfold f_X2_isThere; rw [if_neg c_1, if_neg c_2, if_pos c_3]), ht⟩) (fun _ h => nomatch h) dX2_isThere_24
      · refine lv_iconst (v := 1) hx hb dX2_isThere_19 (by decide) ?_
        refine lv_goto (tgt := 24) hx hb dX2_isThere_20 (by decide) ?_
        exact W.zret (v := (1 : Int32)) hx hb hr rfl (fun t ht hW => ⟨congrArg (fun z => Outcome.returned (some (Value.int z))) (by unfold f_X2_isThere; rw [if_neg c_1, if_neg c_2, if_neg c_3]), ht⟩) (fun _ h => nomatch h) dX2_isThere_24
theorem in_iT {x : MS} {g : Int32} (h : ¬ (f_X2_isThere x g) = 0) : vp_in g 12 := by
  unfold f_X2_isThere at h
  by_cases h1 : g < 0
  · rw [if_pos h1] at h
    exact absurd rfl h
  · by_cases h2 : (12 : Int32) ≤ g
    · rw [if_neg h1, if_pos h2] at h
      exact absurd rfl h
    · exact in12 h1 h2
def f_X2_done (x : MS) (b0 : Int32) (b1 : Int32) (b2 : Int64) : Int64 := (if ((mP x) (((8 : Int32) * b0) + b1).toNatClampNeg) = (1 : Int32) then (if ((mO x) (((8 : Int32) * b0) + b1).toNatClampNeg) = 0 then f_X2_sizeOf b2 ((mK x) b0.toNatClampNeg) else (if ((mO x) (((8 : Int32) * b0) + b1).toNatClampNeg) = 1 then (if (f_X2_isAbove ((mB x) (((8 : Int32) * b0) + b1).toNatClampNeg) b2 ((mK x) b0.toNatClampNeg)) = 0 then b2 else (mB x) (((8 : Int32) * b0) + b1).toNatClampNeg) else (if ((mO x) (((8 : Int32) * b0) + b1).toNatClampNeg) = 2 then (if (f_X2_isAbove b2 ((mB x) (((8 : Int32) * b0) + b1).toNatClampNeg) ((mK x) b0.toNatClampNeg)) = 0 then b2 else (mB x) (((8 : Int32) * b0) + b1).toNatClampNeg) else (if ((mO x) (((8 : Int32) * b0) + b1).toNatClampNeg) = 3 then f_X2_shown b2 ((mK x) b0.toNatClampNeg) else (if ((mO x) (((8 : Int32) * b0) + b1).toNatClampNeg) = 4 then f_X2_like b2 ((mB x) (((8 : Int32) * b0) + b1).toNatClampNeg) ((mK x) b0.toNatClampNeg) else f_X2_wholeOf b2 ((mO x) (((8 : Int32) * b0) + b1).toNatClampNeg)))))) else (if ((mP x) (((8 : Int32) * b0) + b1).toNatClampNeg) = (2 : Int32) then (if ((mO x) (((8 : Int32) * b0) + b1).toNatClampNeg) = 0 then f_X2_sizeOf b2 ((mK x) b0.toNatClampNeg) else (if ((mO x) (((8 : Int32) * b0) + b1).toNatClampNeg) = 1 then (if (f_X2_isAbove ((mV x) ((mG x) (((8 : Int32) * b0) + b1).toNatClampNeg).toNatClampNeg) b2 ((mK x) b0.toNatClampNeg)) = 0 then b2 else (mV x) ((mG x) (((8 : Int32) * b0) + b1).toNatClampNeg).toNatClampNeg) else (if ((mO x) (((8 : Int32) * b0) + b1).toNatClampNeg) = 2 then (if (f_X2_isAbove b2 ((mV x) ((mG x) (((8 : Int32) * b0) + b1).toNatClampNeg).toNatClampNeg) ((mK x) b0.toNatClampNeg)) = 0 then b2 else (mV x) ((mG x) (((8 : Int32) * b0) + b1).toNatClampNeg).toNatClampNeg) else (if ((mO x) (((8 : Int32) * b0) + b1).toNatClampNeg) = 3 then f_X2_shown b2 ((mK x) b0.toNatClampNeg) else (if ((mO x) (((8 : Int32) * b0) + b1).toNatClampNeg) = 4 then f_X2_like b2 ((mV x) ((mG x) (((8 : Int32) * b0) + b1).toNatClampNeg).toNatClampNeg) ((mK x) b0.toNatClampNeg) else f_X2_wholeOf b2 ((mO x) (((8 : Int32) * b0) + b1).toNatClampNeg)))))) else (if ((mO x) (((8 : Int32) * b0) + b1).toNatClampNeg) = 0 then f_X2_sizeOf b2 ((mK x) b0.toNatClampNeg) else (if ((mO x) (((8 : Int32) * b0) + b1).toNatClampNeg) = 1 then (if (f_X2_isAbove (0 : Int64) b2 ((mK x) b0.toNatClampNeg)) = 0 then b2 else (0 : Int64)) else (if ((mO x) (((8 : Int32) * b0) + b1).toNatClampNeg) = 2 then (if (f_X2_isAbove b2 (0 : Int64) ((mK x) b0.toNatClampNeg)) = 0 then b2 else (0 : Int64)) else (if ((mO x) (((8 : Int32) * b0) + b1).toNatClampNeg) = 3 then f_X2_shown b2 ((mK x) b0.toNatClampNeg) else (if ((mO x) (((8 : Int32) * b0) + b1).toNatClampNeg) = 4 then f_X2_like b2 (0 : Int64) ((mK x) b0.toNatClampNeg) else f_X2_wholeOf b2 ((mO x) (((8 : Int32) * b0) + b1).toNatClampNeg))))))))
set_option maxHeartbeats 4000000 in
set_option maxRecDepth 100000 in
theorem c_X2_done (l : Launch) (H0 : Heap) (D : va_G) (cI cJ cZ cG : ClassId) (m0 : Nat) (a : Nat → Nat) (x : MS) (b0 : Int32) (b1 : Int32) (b2 : Int64) (hg : vp_in b0 12) (hs : vp_in b1 8) (hsrc : mP x ((8 : Int32) * b0 + b1).toNatClampNeg = 2 → vp_in (mG x ((8 : Int32) * b0 + b1).toNatClampNeg) 12) (hP : va_P D vwCl (MW cI cJ cZ m0 a x) H0) : pu l yX2_done wsX2_done ({ frames := 2, cells := 0, slots := 0, locals := 48 }) [.ref m0, .int b0, .int b1, .long b2] (KW D cI cJ cZ cG) H0 (some (.long (f_X2_done x b0 b1 b2))) := by
  refine Met.ofW (cc := cX2_done) (maxL := 8) (ret := (some .long)) (by decide) rfl ?_
  intro p e s m args below meth c s₁ B hml hv
  obtain ⟨rfl, hH, hKW⟩ := hv
  have hx := B.exec
  have hb := B.bytes
  have hr := B.returns
  have hts := atoms_spec (ws := wsX2_done) B.pre
  have hown : s.vm.findClass RX2 = some m.cls := findClass_of_methodNamed B.named
  have hlocks := B.notSynchronized
  subst hH
  have hl := lv_entry ([.ref m0, .int b0, .int b1, .long b2]) (n := 8) (Nat.le_of_ble_eq_true rfl)
  rw [lg_entry_eq]
  generalize (lg_sl ([.ref m0, .int b0, .int b1, .long b2]) ++ List.replicate (8 - (lg_sl ([.ref m0, .int b0, .int b1, .long b2])).length) Slot.unset).toArray = ls at hl ⊢
  have hl : lv_has ls 8 [(0, .ref m0), (1, .int b0), (2, .int b1), (3, .long b2)] := hl
  have hK := hKW.1
  have hinX2 : ∀ w ∈ u_ws RX2 TX2 14, w ∈ wsX2_done := by decide +kernel
  have hP : va_P D vwCl [(m0, .inr (2, [.int (mth x), .ref (a 1), .ref (a 2), .ref (a 3), .ref (a 4), .ref (a 5), .ref (a 6), .ref (a 7), .ref (a 8), .ref (a 9), .ref (a 10), .ref (a 11), .ref (a 12), .ref (a 13)])), ((a 1), .inl (cZ, 12, .inl (mT x))), ((a 2), .inl (cI, 12, .inl (mK x))), ((a 3), .inl (cJ, 12, .inr (.inl (mV x)))), ((a 4), .inl (cI, 12, .inl (mS x))), ((a 5), .inl (cI, 12, .inl (mR x))), ((a 6), .inl (cI, 12, .inl (mW x))), ((a 7), .inl (cZ, 12, .inl (mM x))), ((a 8), .inl (cJ, 12, .inr (.inl (mH x)))), ((a 9), .inl (cJ, 12, .inr (.inl (mL x)))), ((a 10), .inl (cI, 96, .inl (mO x))), ((a 11), .inl (cI, 96, .inl (mP x))), ((a 12), .inl (cJ, 96, .inr (.inl (mB x)))), ((a 13), .inl (cI, 96, .inl (mG x)))] s.heap := hP
  refine lv_bipush (v := 8) hx hb dX2_done_0 (by decide) ?_
  refine lv_iload_n hx hb dX2_done_2 rfl (lv_at hl 1 rfl) ?_
  refine lv_imul hx hb dX2_done_3 ?_
  refine lv_iload_n hx hb dX2_done_4 rfl (lv_at hl 2 rfl) ?_
  refine lv_iadd hx hb dX2_done_5 ?_
  refine lv_istore (lv' := [(5, .int (((8 : Int32) * b0) + b1)), (0, .ref m0), (1, .int b0), (2, .int b1), (3, .long b2)]) hx hb dX2_done_6 hl (by decide) rfl (fun ls hl => ?_)
  refine lv_aload_n hx hb dX2_done_8 rfl (lv_at hl 1 rfl) ?_
  refine va_get (D := D) (ci := 2) (v := .ref (a 11)) (C := RX2) (T := TX2) (N := 14) hx hb hts hinX2 hown hK hP 0 rfl rfl 11 (by decide) (hts (.fieldLink RX2 42 "GaugeBoardModel" "operandOf" "[I") (by decide +kernel)) (fun _ h9 => h9) rfl dX2_done_9 ?_
  refine lv_iload hx hb dX2_done_12 (lv_at hl 0 rfl) ?_
  refine va_iald hx hb hK hP 11 0 rfl rfl (in96 hg hs) dX2_done_14 ?_
  refine lv_iconst (v := 1) hx hb dX2_done_15 (by decide) ?_
  refine lv_icmp_ne (tgt := 29) hx hb dX2_done_16 (by decide) (fun c_1 => ?_) (fun c_1 => ?_)
  · refine lv_aload_n hx hb dX2_done_29 rfl (lv_at hl 1 rfl) ?_
    refine va_get (D := D) (ci := 2) (v := .ref (a 11)) (C := RX2) (T := TX2) (N := 14) hx hb hts hinX2 hown hK hP 0 rfl rfl 11 (by decide) (hts (.fieldLink RX2 42 "GaugeBoardModel" "operandOf" "[I") (by decide +kernel)) (fun _ h9 => h9) rfl dX2_done_30 ?_
    refine lv_iload hx hb dX2_done_33 (lv_at hl 0 rfl) ?_
    refine va_iald hx hb hK hP 11 0 rfl rfl (in96 hg hs) dX2_done_35 ?_
    refine lv_iconst (v := 2) hx hb dX2_done_36 (by decide) ?_
    refine lv_icmp_ne (tgt := 55) hx hb dX2_done_37 (by decide) (fun c_2 => ?_) (fun c_2 => ?_)
    · refine lv_lconst (v := 0) hx hb dX2_done_55 (by decide) ?_
      refine lv_lstore (lv' := [(6, .long (0 : Int64)), (5, .int (((8 : Int32) * b0) + b1)), (0, .ref m0), (1, .int b0), (2, .int b1), (3, .long b2)]) hx hb dX2_done_56 hl (by decide) rfl (fun ls hl => ?_)
      refine lv_aload_n hx hb dX2_done_58 rfl (lv_at hl 2 rfl) ?_
      refine va_get (D := D) (ci := 2) (v := .ref (a 10)) (C := RX2) (T := TX2) (N := 14) hx hb hts hinX2 hown hK hP 0 rfl rfl 10 (by decide) (hts (.fieldLink RX2 39 "GaugeBoardModel" "sortOf" "[I") (by decide +kernel)) (fun _ h9 => h9) rfl dX2_done_59 ?_
      refine lv_iload hx hb dX2_done_62 (lv_at hl 1 rfl) ?_
      refine va_iald hx hb hK hP 10 0 rfl rfl (in96 hg hs) dX2_done_64 ?_
      by_cases c_3 : ((mO x) (((8 : Int32) * b0) + b1).toNatClampNeg) = 0
      · refine lv_tableIn (off := 35) (tgt := 100) hx hb dX2_done_65 (by rw [c_3]; decide) (by rw [c_3]; decide) (by rw [c_3]; decide) (by decide) ?_
        refine lv_lload_n hx hb dX2_done_100 rfl (lv_at hl 5 rfl) ?_
        refine lv_aload_n hx hb dX2_done_101 rfl (lv_at hl 2 rfl) ?_
        refine va_get (D := D) (ci := 2) (v := .ref (a 2)) (C := RX2) (T := TX2) (N := 14) hx hb hts hinX2 hown hK hP 0 rfl rfl 2 (by decide) (hts (.fieldLink RX2 13 "GaugeBoardModel" "kind" "[I") (by decide +kernel)) (fun _ h9 => h9) rfl dX2_done_102 ?_
        refine lv_iload_n hx hb dX2_done_105 rfl (lv_at hl 3 rfl) ?_
        refine va_iald hx hb hK hP 2 0 rfl rfl hg dX2_done_106 ?_
        refine pu_S (As := [.long b2, .int ((mK x) b0.toNatClampNeg)]) (rest := []) ⟨hx, hb, hml, hown, hts⟩ (c_X2_sizeOf l s.heap b2 ((mK x) b0.toNatClampNeg)) puK_T trivial (va_cwS 2 hts gX2_done_X2_sizeOf rfl rfl rfl (by decide +kernel) ⟨Nat.le_of_ble_eq_true rfl, Nat.le_of_ble_eq_true rfl⟩) rfl hl.1 rfl (Nat.le_of_ble_eq_true rfl) dX2_done_107 ⟨Nat.zero_le _, Nat.zero_le _⟩ ?_
        refine W.eq (g2 := F0 m 110 ls [.long (f_X2_sizeOf b2 ((mK x) b0.toNatClampNeg))]) rfl ?_
        exact W.lret (v := f_X2_sizeOf b2 ((mK x) b0.toNatClampNeg)) hx hb hr (fun t ht hW => ⟨congrArg (fun z => Outcome.returned (some (Value.long z))) (by unfold f_X2_done; rw [if_neg c_1, if_neg c_2, if_pos c_3]), ht⟩) (fun _ h => nomatch h) dX2_done_110
      by_cases c_4 : ((mO x) (((8 : Int32) * b0) + b1).toNatClampNeg) = 1
      · refine lv_tableIn (off := 46) (tgt := 111) hx hb dX2_done_65 (by rw [c_4]; decide) (by rw [c_4]; decide) (by rw [c_4]; decide) (by decide) ?_
        refine lv_lload hx hb dX2_done_111 (lv_at hl 0 rfl) ?_
        refine lv_lload_n hx hb dX2_done_113 rfl (lv_at hl 5 rfl) ?_
        refine lv_aload_n hx hb dX2_done_114 rfl (lv_at hl 2 rfl) ?_
        refine va_get (D := D) (ci := 2) (v := .ref (a 2)) (C := RX2) (T := TX2) (N := 14) hx hb hts hinX2 hown hK hP 0 rfl rfl 2 (by decide) (hts (.fieldLink RX2 13 "GaugeBoardModel" "kind" "[I") (by decide +kernel)) (fun _ h9 => h9) rfl dX2_done_115 ?_
        refine lv_iload_n hx hb dX2_done_118 rfl (lv_at hl 3 rfl) ?_
        refine va_iald hx hb hK hP 2 0 rfl rfl hg dX2_done_119 ?_
        refine pu_S (As := [.long (0 : Int64), .long b2, .int ((mK x) b0.toNatClampNeg)]) (rest := []) ⟨hx, hb, hml, hown, hts⟩ (c_X2_isAbove l s.heap (0 : Int64) b2 ((mK x) b0.toNatClampNeg)) puK_T trivial (va_cwS 3 hts gX2_done_X2_isAbove rfl rfl rfl (by decide +kernel) ⟨Nat.le_of_ble_eq_true rfl, Nat.le_of_ble_eq_true rfl⟩) rfl hl.1 rfl (Nat.le_of_ble_eq_true rfl) dX2_done_120 ⟨Nat.zero_le _, Nat.zero_le _⟩ ?_
        refine W.eq (g2 := F0 m 123 ls [.int (f_X2_isAbove (0 : Int64) b2 ((mK x) b0.toNatClampNeg))]) rfl ?_
        refine lv_if_eq (tgt := 131) hx hb dX2_done_123 (by decide) (fun c_5 => ?_) (fun c_5 => ?_)
        · refine lv_lload_n hx hb dX2_done_131 rfl (lv_at hl 5 rfl) ?_
          exact W.lret (v := b2) hx hb hr (fun t ht hW => ⟨congrArg (fun z => Outcome.returned (some (Value.long z))) (by unfold f_X2_done; rw [if_neg c_1, if_neg c_2, if_neg c_3, if_pos c_4, if_pos c_5]), ht⟩) (fun _ h => nomatch h) dX2_done_132
        · refine lv_lload hx hb dX2_done_126 (lv_at hl 0 rfl) ?_
          refine lv_goto (tgt := 132) hx hb dX2_done_128 (by decide) ?_
          exact W.lret (v := (0 : Int64)) hx hb hr (fun t ht hW => ⟨congrArg (fun z => Outcome.returned (some (Value.long z))) (by unfold f_X2_done; rw [if_neg c_1, if_neg c_2, if_neg c_3, if_pos c_4, if_neg c_5]), ht⟩) (fun _ h => nomatch h) dX2_done_132
      by_cases c_6 : ((mO x) (((8 : Int32) * b0) + b1).toNatClampNeg) = 2
      · refine lv_tableIn (off := 68) (tgt := 133) hx hb dX2_done_65 (by rw [c_6]; decide) (by rw [c_6]; decide) (by rw [c_6]; decide) (by decide) ?_
        refine lv_lload_n hx hb dX2_done_133 rfl (lv_at hl 5 rfl) ?_
        refine lv_lload hx hb dX2_done_134 (lv_at hl 0 rfl) ?_
        refine lv_aload_n hx hb dX2_done_136 rfl (lv_at hl 2 rfl) ?_
        refine va_get (D := D) (ci := 2) (v := .ref (a 2)) (C := RX2) (T := TX2) (N := 14) hx hb hts hinX2 hown hK hP 0 rfl rfl 2 (by decide) (hts (.fieldLink RX2 13 "GaugeBoardModel" "kind" "[I") (by decide +kernel)) (fun _ h9 => h9) rfl dX2_done_137 ?_
        refine lv_iload_n hx hb dX2_done_140 rfl (lv_at hl 3 rfl) ?_
        refine va_iald hx hb hK hP 2 0 rfl rfl hg dX2_done_141 ?_
        refine pu_S (As := [.long b2, .long (0 : Int64), .int ((mK x) b0.toNatClampNeg)]) (rest := []) ⟨hx, hb, hml, hown, hts⟩ (c_X2_isAbove l s.heap b2 (0 : Int64) ((mK x) b0.toNatClampNeg)) puK_T trivial (va_cwS 3 hts gX2_done_X2_isAbove rfl rfl rfl (by decide +kernel) ⟨Nat.le_of_ble_eq_true rfl, Nat.le_of_ble_eq_true rfl⟩) rfl hl.1 rfl (Nat.le_of_ble_eq_true rfl) dX2_done_142 ⟨Nat.zero_le _, Nat.zero_le _⟩ ?_
        refine W.eq (g2 := F0 m 145 ls [.int (f_X2_isAbove b2 (0 : Int64) ((mK x) b0.toNatClampNeg))]) rfl ?_
        refine lv_if_eq (tgt := 153) hx hb dX2_done_145 (by decide) (fun c_7 => ?_) (fun c_7 => ?_)
        · refine lv_lload_n hx hb dX2_done_153 rfl (lv_at hl 5 rfl) ?_
          exact W.lret (v := b2) hx hb hr (fun t ht hW => ⟨congrArg (fun z => Outcome.returned (some (Value.long z))) (by unfold f_X2_done; rw [if_neg c_1, if_neg c_2, if_neg c_3, if_neg c_4, if_pos c_6, if_pos c_7]), ht⟩) (fun _ h => nomatch h) dX2_done_154
        · refine lv_lload hx hb dX2_done_148 (lv_at hl 0 rfl) ?_
          refine lv_goto (tgt := 154) hx hb dX2_done_150 (by decide) ?_
          exact W.lret (v := (0 : Int64)) hx hb hr (fun t ht hW => ⟨congrArg (fun z => Outcome.returned (some (Value.long z))) (by unfold f_X2_done; rw [if_neg c_1, if_neg c_2, if_neg c_3, if_neg c_4, if_pos c_6, if_neg c_7]), ht⟩) (fun _ h => nomatch h) dX2_done_154
      by_cases c_8 : ((mO x) (((8 : Int32) * b0) + b1).toNatClampNeg) = 3
      · refine lv_tableIn (off := 90) (tgt := 155) hx hb dX2_done_65 (by rw [c_8]; decide) (by rw [c_8]; decide) (by rw [c_8]; decide) (by decide) ?_
        refine lv_lload_n hx hb dX2_done_155 rfl (lv_at hl 5 rfl) ?_
        refine lv_aload_n hx hb dX2_done_156 rfl (lv_at hl 2 rfl) ?_
        refine va_get (D := D) (ci := 2) (v := .ref (a 2)) (C := RX2) (T := TX2) (N := 14) hx hb hts hinX2 hown hK hP 0 rfl rfl 2 (by decide) (hts (.fieldLink RX2 13 "GaugeBoardModel" "kind" "[I") (by decide +kernel)) (fun _ h9 => h9) rfl dX2_done_157 ?_
        refine lv_iload_n hx hb dX2_done_160 rfl (lv_at hl 3 rfl) ?_
        refine va_iald hx hb hK hP 2 0 rfl rfl hg dX2_done_161 ?_
        refine pu_S (As := [.long b2, .int ((mK x) b0.toNatClampNeg)]) (rest := []) ⟨hx, hb, hml, hown, hts⟩ (c_X2_shown l s.heap b2 ((mK x) b0.toNatClampNeg)) puK_T trivial (va_cwS 2 hts gX2_done_X2_shown rfl rfl rfl (by decide +kernel) ⟨Nat.le_of_ble_eq_true rfl, Nat.le_of_ble_eq_true rfl⟩) rfl hl.1 rfl (Nat.le_of_ble_eq_true rfl) dX2_done_162 ⟨Nat.zero_le _, Nat.zero_le _⟩ ?_
        refine W.eq (g2 := F0 m 165 ls [.long (f_X2_shown b2 ((mK x) b0.toNatClampNeg))]) rfl ?_
        exact W.lret (v := f_X2_shown b2 ((mK x) b0.toNatClampNeg)) hx hb hr (fun t ht hW => ⟨congrArg (fun z => Outcome.returned (some (Value.long z))) (by unfold f_X2_done; rw [if_neg c_1, if_neg c_2, if_neg c_3, if_neg c_4, if_neg c_6, if_pos c_8]), ht⟩) (fun _ h => nomatch h) dX2_done_165
      by_cases c_9 : ((mO x) (((8 : Int32) * b0) + b1).toNatClampNeg) = 4
      · refine lv_tableIn (off := 101) (tgt := 166) hx hb dX2_done_65 (by rw [c_9]; decide) (by rw [c_9]; decide) (by rw [c_9]; decide) (by decide) ?_
        refine lv_lload_n hx hb dX2_done_166 rfl (lv_at hl 5 rfl) ?_
        refine lv_lload hx hb dX2_done_167 (lv_at hl 0 rfl) ?_
        refine lv_aload_n hx hb dX2_done_169 rfl (lv_at hl 2 rfl) ?_
        refine va_get (D := D) (ci := 2) (v := .ref (a 2)) (C := RX2) (T := TX2) (N := 14) hx hb hts hinX2 hown hK hP 0 rfl rfl 2 (by decide) (hts (.fieldLink RX2 13 "GaugeBoardModel" "kind" "[I") (by decide +kernel)) (fun _ h9 => h9) rfl dX2_done_170 ?_
        refine lv_iload_n hx hb dX2_done_173 rfl (lv_at hl 3 rfl) ?_
        refine va_iald hx hb hK hP 2 0 rfl rfl hg dX2_done_174 ?_
        refine pu_S (As := [.long b2, .long (0 : Int64), .int ((mK x) b0.toNatClampNeg)]) (rest := []) ⟨hx, hb, hml, hown, hts⟩ (c_X2_like l s.heap b2 (0 : Int64) ((mK x) b0.toNatClampNeg)) puK_T trivial (va_cwS 3 hts gX2_done_X2_like rfl rfl rfl (by decide +kernel) ⟨Nat.le_of_ble_eq_true rfl, Nat.le_of_ble_eq_true rfl⟩) rfl hl.1 rfl (Nat.le_of_ble_eq_true rfl) dX2_done_175 ⟨Nat.zero_le _, Nat.zero_le _⟩ ?_
        refine W.eq (g2 := F0 m 178 ls [.long (f_X2_like b2 (0 : Int64) ((mK x) b0.toNatClampNeg))]) rfl ?_
        exact W.lret (v := f_X2_like b2 (0 : Int64) ((mK x) b0.toNatClampNeg)) hx hb hr (fun t ht hW => ⟨congrArg (fun z => Outcome.returned (some (Value.long z))) (by unfold f_X2_done; rw [if_neg c_1, if_neg c_2, if_neg c_3, if_neg c_4, if_neg c_6, if_neg c_8, if_pos c_9]), ht⟩) (fun _ h => nomatch h) dX2_done_178
      have h_sw : ((mO x) (((8 : Int32) * b0) + b1).toNatClampNeg).toInt < 0 ∨ 4 < ((mO x) (((8 : Int32) * b0) + b1).toNatClampNeg).toInt := by
        have n0 := lv_neT (k := 0) (a := 0) c_3 (by decide)
        have n1 := lv_neT (k := 1) (a := 1) c_4 (by decide)
        have n2 := lv_neT (k := 2) (a := 2) c_6 (by decide)
        have n3 := lv_neT (k := 3) (a := 3) c_8 (by decide)
        have n4 := lv_neT (k := 4) (a := 4) c_9 (by decide)
        omega
      refine lv_tableOut (tgt := 179) hx hb dX2_done_65 h_sw (by decide) ?_
      refine lv_lload_n hx hb dX2_done_179 rfl (lv_at hl 5 rfl) ?_
      refine lv_aload_n hx hb dX2_done_180 rfl (lv_at hl 2 rfl) ?_
      refine va_get (D := D) (ci := 2) (v := .ref (a 10)) (C := RX2) (T := TX2) (N := 14) hx hb hts hinX2 hown hK hP 0 rfl rfl 10 (by decide) (hts (.fieldLink RX2 39 "GaugeBoardModel" "sortOf" "[I") (by decide +kernel)) (fun _ h9 => h9) rfl dX2_done_181 ?_
      refine lv_iload hx hb dX2_done_184 (lv_at hl 1 rfl) ?_
      refine va_iald hx hb hK hP 10 0 rfl rfl (in96 hg hs) dX2_done_186 ?_
      refine pu_S (As := [.long b2, .int ((mO x) (((8 : Int32) * b0) + b1).toNatClampNeg)]) (rest := []) ⟨hx, hb, hml, hown, hts⟩ (c_X2_wholeOf l s.heap b2 ((mO x) (((8 : Int32) * b0) + b1).toNatClampNeg)) puK_T trivial (va_cwS 2 hts gX2_done_X2_wholeOf rfl rfl rfl (by decide +kernel) ⟨Nat.le_of_ble_eq_true rfl, Nat.le_of_ble_eq_true rfl⟩) rfl hl.1 rfl (Nat.le_of_ble_eq_true rfl) dX2_done_187 ⟨Nat.zero_le _, Nat.zero_le _⟩ ?_
      refine W.eq (g2 := F0 m 190 ls [.long (f_X2_wholeOf b2 ((mO x) (((8 : Int32) * b0) + b1).toNatClampNeg))]) rfl ?_
      exact W.lret (v := f_X2_wholeOf b2 ((mO x) (((8 : Int32) * b0) + b1).toNatClampNeg)) hx hb hr (fun t ht hW => ⟨congrArg (fun z => Outcome.returned (some (Value.long z))) (by unfold f_X2_done; rw [if_neg c_1, if_neg c_2, if_neg c_3, if_neg c_4, if_neg c_6, if_neg c_8, if_neg c_9]), ht⟩) (fun _ h => nomatch h) dX2_done_190
    · refine lv_aload_n hx hb dX2_done_40 rfl (lv_at hl 1 rfl) ?_
      refine va_get (D := D) (ci := 2) (v := .ref (a 3)) (C := RX2) (T := TX2) (N := 14) hx hb hts hinX2 hown hK hP 0 rfl rfl 3 (by decide) (hts (.fieldLink RX2 17 "GaugeBoardModel" "value" "[J") (by decide +kernel)) (fun _ h9 => h9) rfl dX2_done_41 ?_
      refine lv_aload_n hx hb dX2_done_44 rfl (lv_at hl 1 rfl) ?_
      refine va_get (D := D) (ci := 2) (v := .ref (a 13)) (C := RX2) (T := TX2) (N := 14) hx hb hts hinX2 hown hK hP 0 rfl rfl 13 (by decide) (hts (.fieldLink RX2 48 "GaugeBoardModel" "gaugeOf" "[I") (by decide +kernel)) (fun _ h9 => h9) rfl dX2_done_45 ?_
      refine lv_iload hx hb dX2_done_48 (lv_at hl 0 rfl) ?_
      refine va_iald hx hb hK hP 13 0 rfl rfl (in96 hg hs) dX2_done_50 ?_
      refine va_lald hx hb hK hP 3 1 rfl rfl (hsrc c_2) dX2_done_51 ?_
      refine lv_goto (tgt := 56) hx hb dX2_done_52 (by decide) ?_
      refine lv_lstore (lv' := [(6, .long ((mV x) ((mG x) (((8 : Int32) * b0) + b1).toNatClampNeg).toNatClampNeg)), (5, .int (((8 : Int32) * b0) + b1)), (0, .ref m0), (1, .int b0), (2, .int b1), (3, .long b2)]) hx hb dX2_done_56 hl (by decide) rfl (fun ls hl => ?_)
      refine lv_aload_n hx hb dX2_done_58 rfl (lv_at hl 2 rfl) ?_
      refine va_get (D := D) (ci := 2) (v := .ref (a 10)) (C := RX2) (T := TX2) (N := 14) hx hb hts hinX2 hown hK hP 0 rfl rfl 10 (by decide) (hts (.fieldLink RX2 39 "GaugeBoardModel" "sortOf" "[I") (by decide +kernel)) (fun _ h9 => h9) rfl dX2_done_59 ?_
      refine lv_iload hx hb dX2_done_62 (lv_at hl 1 rfl) ?_
      refine va_iald hx hb hK hP 10 0 rfl rfl (in96 hg hs) dX2_done_64 ?_
      by_cases c_10 : ((mO x) (((8 : Int32) * b0) + b1).toNatClampNeg) = 0
      · refine lv_tableIn (off := 35) (tgt := 100) hx hb dX2_done_65 (by rw [c_10]; decide) (by rw [c_10]; decide) (by rw [c_10]; decide) (by decide) ?_
        refine lv_lload_n hx hb dX2_done_100 rfl (lv_at hl 5 rfl) ?_
        refine lv_aload_n hx hb dX2_done_101 rfl (lv_at hl 2 rfl) ?_
        refine va_get (D := D) (ci := 2) (v := .ref (a 2)) (C := RX2) (T := TX2) (N := 14) hx hb hts hinX2 hown hK hP 0 rfl rfl 2 (by decide) (hts (.fieldLink RX2 13 "GaugeBoardModel" "kind" "[I") (by decide +kernel)) (fun _ h9 => h9) rfl dX2_done_102 ?_
        refine lv_iload_n hx hb dX2_done_105 rfl (lv_at hl 3 rfl) ?_
        refine va_iald hx hb hK hP 2 0 rfl rfl hg dX2_done_106 ?_
        refine pu_S (As := [.long b2, .int ((mK x) b0.toNatClampNeg)]) (rest := []) ⟨hx, hb, hml, hown, hts⟩ (c_X2_sizeOf l s.heap b2 ((mK x) b0.toNatClampNeg)) puK_T trivial (va_cwS 2 hts gX2_done_X2_sizeOf rfl rfl rfl (by decide +kernel) ⟨Nat.le_of_ble_eq_true rfl, Nat.le_of_ble_eq_true rfl⟩) rfl hl.1 rfl (Nat.le_of_ble_eq_true rfl) dX2_done_107 ⟨Nat.zero_le _, Nat.zero_le _⟩ ?_
        refine W.eq (g2 := F0 m 110 ls [.long (f_X2_sizeOf b2 ((mK x) b0.toNatClampNeg))]) rfl ?_
        exact W.lret (v := f_X2_sizeOf b2 ((mK x) b0.toNatClampNeg)) hx hb hr (fun t ht hW => ⟨congrArg (fun z => Outcome.returned (some (Value.long z))) (by unfold f_X2_done; rw [if_neg c_1, if_pos c_2, if_pos c_10]), ht⟩) (fun _ h => nomatch h) dX2_done_110
      by_cases c_11 : ((mO x) (((8 : Int32) * b0) + b1).toNatClampNeg) = 1
      · refine lv_tableIn (off := 46) (tgt := 111) hx hb dX2_done_65 (by rw [c_11]; decide) (by rw [c_11]; decide) (by rw [c_11]; decide) (by decide) ?_
        refine lv_lload hx hb dX2_done_111 (lv_at hl 0 rfl) ?_
        refine lv_lload_n hx hb dX2_done_113 rfl (lv_at hl 5 rfl) ?_
        refine lv_aload_n hx hb dX2_done_114 rfl (lv_at hl 2 rfl) ?_
        refine va_get (D := D) (ci := 2) (v := .ref (a 2)) (C := RX2) (T := TX2) (N := 14) hx hb hts hinX2 hown hK hP 0 rfl rfl 2 (by decide) (hts (.fieldLink RX2 13 "GaugeBoardModel" "kind" "[I") (by decide +kernel)) (fun _ h9 => h9) rfl dX2_done_115 ?_
        refine lv_iload_n hx hb dX2_done_118 rfl (lv_at hl 3 rfl) ?_
        refine va_iald hx hb hK hP 2 0 rfl rfl hg dX2_done_119 ?_
        refine pu_S (As := [.long ((mV x) ((mG x) (((8 : Int32) * b0) + b1).toNatClampNeg).toNatClampNeg), .long b2, .int ((mK x) b0.toNatClampNeg)]) (rest := []) ⟨hx, hb, hml, hown, hts⟩ (c_X2_isAbove l s.heap ((mV x) ((mG x) (((8 : Int32) * b0) + b1).toNatClampNeg).toNatClampNeg) b2 ((mK x) b0.toNatClampNeg)) puK_T trivial (va_cwS 3 hts gX2_done_X2_isAbove rfl rfl rfl (by decide +kernel) ⟨Nat.le_of_ble_eq_true rfl, Nat.le_of_ble_eq_true rfl⟩) rfl hl.1 rfl (Nat.le_of_ble_eq_true rfl) dX2_done_120 ⟨Nat.zero_le _, Nat.zero_le _⟩ ?_
        refine W.eq (g2 := F0 m 123 ls [.int (f_X2_isAbove ((mV x) ((mG x) (((8 : Int32) * b0) + b1).toNatClampNeg).toNatClampNeg) b2 ((mK x) b0.toNatClampNeg))]) rfl ?_
        refine lv_if_eq (tgt := 131) hx hb dX2_done_123 (by decide) (fun c_12 => ?_) (fun c_12 => ?_)
        · refine lv_lload_n hx hb dX2_done_131 rfl (lv_at hl 5 rfl) ?_
          exact W.lret (v := b2) hx hb hr (fun t ht hW => ⟨congrArg (fun z => Outcome.returned (some (Value.long z))) (by unfold f_X2_done; rw [if_neg c_1, if_pos c_2, if_neg c_10, if_pos c_11, if_pos c_12]), ht⟩) (fun _ h => nomatch h) dX2_done_132
        · refine lv_lload hx hb dX2_done_126 (lv_at hl 0 rfl) ?_
          refine lv_goto (tgt := 132) hx hb dX2_done_128 (by decide) ?_
          exact W.lret (v := (mV x) ((mG x) (((8 : Int32) * b0) + b1).toNatClampNeg).toNatClampNeg) hx hb hr (fun t ht hW => ⟨congrArg (fun z => Outcome.returned (some (Value.long z))) (by unfold f_X2_done; rw [if_neg c_1, if_pos c_2, if_neg c_10, if_pos c_11, if_neg c_12]), ht⟩) (fun _ h => nomatch h) dX2_done_132
      by_cases c_13 : ((mO x) (((8 : Int32) * b0) + b1).toNatClampNeg) = 2
      · refine lv_tableIn (off := 68) (tgt := 133) hx hb dX2_done_65 (by rw [c_13]; decide) (by rw [c_13]; decide) (by rw [c_13]; decide) (by decide) ?_
        refine lv_lload_n hx hb dX2_done_133 rfl (lv_at hl 5 rfl) ?_
        refine lv_lload hx hb dX2_done_134 (lv_at hl 0 rfl) ?_
        refine lv_aload_n hx hb dX2_done_136 rfl (lv_at hl 2 rfl) ?_
        refine va_get (D := D) (ci := 2) (v := .ref (a 2)) (C := RX2) (T := TX2) (N := 14) hx hb hts hinX2 hown hK hP 0 rfl rfl 2 (by decide) (hts (.fieldLink RX2 13 "GaugeBoardModel" "kind" "[I") (by decide +kernel)) (fun _ h9 => h9) rfl dX2_done_137 ?_
        refine lv_iload_n hx hb dX2_done_140 rfl (lv_at hl 3 rfl) ?_
        refine va_iald hx hb hK hP 2 0 rfl rfl hg dX2_done_141 ?_
        refine pu_S (As := [.long b2, .long ((mV x) ((mG x) (((8 : Int32) * b0) + b1).toNatClampNeg).toNatClampNeg), .int ((mK x) b0.toNatClampNeg)]) (rest := []) ⟨hx, hb, hml, hown, hts⟩ (c_X2_isAbove l s.heap b2 ((mV x) ((mG x) (((8 : Int32) * b0) + b1).toNatClampNeg).toNatClampNeg) ((mK x) b0.toNatClampNeg)) puK_T trivial (va_cwS 3 hts gX2_done_X2_isAbove rfl rfl rfl (by decide +kernel) ⟨Nat.le_of_ble_eq_true rfl, Nat.le_of_ble_eq_true rfl⟩) rfl hl.1 rfl (Nat.le_of_ble_eq_true rfl) dX2_done_142 ⟨Nat.zero_le _, Nat.zero_le _⟩ ?_
        refine W.eq (g2 := F0 m 145 ls [.int (f_X2_isAbove b2 ((mV x) ((mG x) (((8 : Int32) * b0) + b1).toNatClampNeg).toNatClampNeg) ((mK x) b0.toNatClampNeg))]) rfl ?_
        refine lv_if_eq (tgt := 153) hx hb dX2_done_145 (by decide) (fun c_14 => ?_) (fun c_14 => ?_)
        · refine lv_lload_n hx hb dX2_done_153 rfl (lv_at hl 5 rfl) ?_
          exact W.lret (v := b2) hx hb hr (fun t ht hW => ⟨congrArg (fun z => Outcome.returned (some (Value.long z))) (by unfold f_X2_done; rw [if_neg c_1, if_pos c_2, if_neg c_10, if_neg c_11, if_pos c_13, if_pos c_14]), ht⟩) (fun _ h => nomatch h) dX2_done_154
        · refine lv_lload hx hb dX2_done_148 (lv_at hl 0 rfl) ?_
          refine lv_goto (tgt := 154) hx hb dX2_done_150 (by decide) ?_
          exact W.lret (v := (mV x) ((mG x) (((8 : Int32) * b0) + b1).toNatClampNeg).toNatClampNeg) hx hb hr (fun t ht hW => ⟨congrArg (fun z => Outcome.returned (some (Value.long z))) (by unfold f_X2_done; rw [if_neg c_1, if_pos c_2, if_neg c_10, if_neg c_11, if_pos c_13, if_neg c_14]), ht⟩) (fun _ h => nomatch h) dX2_done_154
      by_cases c_15 : ((mO x) (((8 : Int32) * b0) + b1).toNatClampNeg) = 3
      · refine lv_tableIn (off := 90) (tgt := 155) hx hb dX2_done_65 (by rw [c_15]; decide) (by rw [c_15]; decide) (by rw [c_15]; decide) (by decide) ?_
        refine lv_lload_n hx hb dX2_done_155 rfl (lv_at hl 5 rfl) ?_
        refine lv_aload_n hx hb dX2_done_156 rfl (lv_at hl 2 rfl) ?_
        refine va_get (D := D) (ci := 2) (v := .ref (a 2)) (C := RX2) (T := TX2) (N := 14) hx hb hts hinX2 hown hK hP 0 rfl rfl 2 (by decide) (hts (.fieldLink RX2 13 "GaugeBoardModel" "kind" "[I") (by decide +kernel)) (fun _ h9 => h9) rfl dX2_done_157 ?_
        refine lv_iload_n hx hb dX2_done_160 rfl (lv_at hl 3 rfl) ?_
        refine va_iald hx hb hK hP 2 0 rfl rfl hg dX2_done_161 ?_
        refine pu_S (As := [.long b2, .int ((mK x) b0.toNatClampNeg)]) (rest := []) ⟨hx, hb, hml, hown, hts⟩ (c_X2_shown l s.heap b2 ((mK x) b0.toNatClampNeg)) puK_T trivial (va_cwS 2 hts gX2_done_X2_shown rfl rfl rfl (by decide +kernel) ⟨Nat.le_of_ble_eq_true rfl, Nat.le_of_ble_eq_true rfl⟩) rfl hl.1 rfl (Nat.le_of_ble_eq_true rfl) dX2_done_162 ⟨Nat.zero_le _, Nat.zero_le _⟩ ?_
        refine W.eq (g2 := F0 m 165 ls [.long (f_X2_shown b2 ((mK x) b0.toNatClampNeg))]) rfl ?_
        exact W.lret (v := f_X2_shown b2 ((mK x) b0.toNatClampNeg)) hx hb hr (fun t ht hW => ⟨congrArg (fun z => Outcome.returned (some (Value.long z))) (by unfold f_X2_done; rw [if_neg c_1, if_pos c_2, if_neg c_10, if_neg c_11, if_neg c_13, if_pos c_15]), ht⟩) (fun _ h => nomatch h) dX2_done_165
      by_cases c_16 : ((mO x) (((8 : Int32) * b0) + b1).toNatClampNeg) = 4
      · refine lv_tableIn (off := 101) (tgt := 166) hx hb dX2_done_65 (by rw [c_16]; decide) (by rw [c_16]; decide) (by rw [c_16]; decide) (by decide) ?_
        refine lv_lload_n hx hb dX2_done_166 rfl (lv_at hl 5 rfl) ?_
        refine lv_lload hx hb dX2_done_167 (lv_at hl 0 rfl) ?_
        refine lv_aload_n hx hb dX2_done_169 rfl (lv_at hl 2 rfl) ?_
        refine va_get (D := D) (ci := 2) (v := .ref (a 2)) (C := RX2) (T := TX2) (N := 14) hx hb hts hinX2 hown hK hP 0 rfl rfl 2 (by decide) (hts (.fieldLink RX2 13 "GaugeBoardModel" "kind" "[I") (by decide +kernel)) (fun _ h9 => h9) rfl dX2_done_170 ?_
        refine lv_iload_n hx hb dX2_done_173 rfl (lv_at hl 3 rfl) ?_
        refine va_iald hx hb hK hP 2 0 rfl rfl hg dX2_done_174 ?_
        refine pu_S (As := [.long b2, .long ((mV x) ((mG x) (((8 : Int32) * b0) + b1).toNatClampNeg).toNatClampNeg), .int ((mK x) b0.toNatClampNeg)]) (rest := []) ⟨hx, hb, hml, hown, hts⟩ (c_X2_like l s.heap b2 ((mV x) ((mG x) (((8 : Int32) * b0) + b1).toNatClampNeg).toNatClampNeg) ((mK x) b0.toNatClampNeg)) puK_T trivial (va_cwS 3 hts gX2_done_X2_like rfl rfl rfl (by decide +kernel) ⟨Nat.le_of_ble_eq_true rfl, Nat.le_of_ble_eq_true rfl⟩) rfl hl.1 rfl (Nat.le_of_ble_eq_true rfl) dX2_done_175 ⟨Nat.zero_le _, Nat.zero_le _⟩ ?_
        refine W.eq (g2 := F0 m 178 ls [.long (f_X2_like b2 ((mV x) ((mG x) (((8 : Int32) * b0) + b1).toNatClampNeg).toNatClampNeg) ((mK x) b0.toNatClampNeg))]) rfl ?_
        exact W.lret (v := f_X2_like b2 ((mV x) ((mG x) (((8 : Int32) * b0) + b1).toNatClampNeg).toNatClampNeg) ((mK x) b0.toNatClampNeg)) hx hb hr (fun t ht hW => ⟨congrArg (fun z => Outcome.returned (some (Value.long z))) (by unfold f_X2_done; rw [if_neg c_1, if_pos c_2, if_neg c_10, if_neg c_11, if_neg c_13, if_neg c_15, if_pos c_16]), ht⟩) (fun _ h => nomatch h) dX2_done_178
      have h_sw : ((mO x) (((8 : Int32) * b0) + b1).toNatClampNeg).toInt < 0 ∨ 4 < ((mO x) (((8 : Int32) * b0) + b1).toNatClampNeg).toInt := by
        have n0 := lv_neT (k := 0) (a := 0) c_10 (by decide)
        have n1 := lv_neT (k := 1) (a := 1) c_11 (by decide)
        have n2 := lv_neT (k := 2) (a := 2) c_13 (by decide)
        have n3 := lv_neT (k := 3) (a := 3) c_15 (by decide)
        have n4 := lv_neT (k := 4) (a := 4) c_16 (by decide)
        omega
      refine lv_tableOut (tgt := 179) hx hb dX2_done_65 h_sw (by decide) ?_
      refine lv_lload_n hx hb dX2_done_179 rfl (lv_at hl 5 rfl) ?_
      refine lv_aload_n hx hb dX2_done_180 rfl (lv_at hl 2 rfl) ?_
      refine va_get (D := D) (ci := 2) (v := .ref (a 10)) (C := RX2) (T := TX2) (N := 14) hx hb hts hinX2 hown hK hP 0 rfl rfl 10 (by decide) (hts (.fieldLink RX2 39 "GaugeBoardModel" "sortOf" "[I") (by decide +kernel)) (fun _ h9 => h9) rfl dX2_done_181 ?_
      refine lv_iload hx hb dX2_done_184 (lv_at hl 1 rfl) ?_
      refine va_iald hx hb hK hP 10 0 rfl rfl (in96 hg hs) dX2_done_186 ?_
      refine pu_S (As := [.long b2, .int ((mO x) (((8 : Int32) * b0) + b1).toNatClampNeg)]) (rest := []) ⟨hx, hb, hml, hown, hts⟩ (c_X2_wholeOf l s.heap b2 ((mO x) (((8 : Int32) * b0) + b1).toNatClampNeg)) puK_T trivial (va_cwS 2 hts gX2_done_X2_wholeOf rfl rfl rfl (by decide +kernel) ⟨Nat.le_of_ble_eq_true rfl, Nat.le_of_ble_eq_true rfl⟩) rfl hl.1 rfl (Nat.le_of_ble_eq_true rfl) dX2_done_187 ⟨Nat.zero_le _, Nat.zero_le _⟩ ?_
      refine W.eq (g2 := F0 m 190 ls [.long (f_X2_wholeOf b2 ((mO x) (((8 : Int32) * b0) + b1).toNatClampNeg))]) rfl ?_
      exact W.lret (v := f_X2_wholeOf b2 ((mO x) (((8 : Int32) * b0) + b1).toNatClampNeg)) hx hb hr (fun t ht hW => ⟨congrArg (fun z => Outcome.returned (some (Value.long z))) (by unfold f_X2_done; rw [if_neg c_1, if_pos c_2, if_neg c_10, if_neg c_11, if_neg c_13, if_neg c_15, if_neg c_16]), ht⟩) (fun _ h => nomatch h) dX2_done_190
  · refine lv_aload_n hx hb dX2_done_19 rfl (lv_at hl 1 rfl) ?_
    refine va_get (D := D) (ci := 2) (v := .ref (a 12)) (C := RX2) (T := TX2) (N := 14) hx hb hts hinX2 hown hK hP 0 rfl rfl 12 (by decide) (hts (.fieldLink RX2 45 "GaugeBoardModel" "bitsOf" "[J") (by decide +kernel)) (fun _ h9 => h9) rfl dX2_done_20 ?_
    refine lv_iload hx hb dX2_done_23 (lv_at hl 0 rfl) ?_
    refine va_lald hx hb hK hP 12 1 rfl rfl (in96 hg hs) dX2_done_25 ?_
    refine lv_goto (tgt := 56) hx hb dX2_done_26 (by decide) ?_
    refine lv_lstore (lv' := [(6, .long ((mB x) (((8 : Int32) * b0) + b1).toNatClampNeg)), (5, .int (((8 : Int32) * b0) + b1)), (0, .ref m0), (1, .int b0), (2, .int b1), (3, .long b2)]) hx hb dX2_done_56 hl (by decide) rfl (fun ls hl => ?_)
    refine lv_aload_n hx hb dX2_done_58 rfl (lv_at hl 2 rfl) ?_
    refine va_get (D := D) (ci := 2) (v := .ref (a 10)) (C := RX2) (T := TX2) (N := 14) hx hb hts hinX2 hown hK hP 0 rfl rfl 10 (by decide) (hts (.fieldLink RX2 39 "GaugeBoardModel" "sortOf" "[I") (by decide +kernel)) (fun _ h9 => h9) rfl dX2_done_59 ?_
    refine lv_iload hx hb dX2_done_62 (lv_at hl 1 rfl) ?_
    refine va_iald hx hb hK hP 10 0 rfl rfl (in96 hg hs) dX2_done_64 ?_
    by_cases c_17 : ((mO x) (((8 : Int32) * b0) + b1).toNatClampNeg) = 0
    · refine lv_tableIn (off := 35) (tgt := 100) hx hb dX2_done_65 (by rw [c_17]; decide) (by rw [c_17]; decide) (by rw [c_17]; decide) (by decide) ?_
      refine lv_lload_n hx hb dX2_done_100 rfl (lv_at hl 5 rfl) ?_
      refine lv_aload_n hx hb dX2_done_101 rfl (lv_at hl 2 rfl) ?_
      refine va_get (D := D) (ci := 2) (v := .ref (a 2)) (C := RX2) (T := TX2) (N := 14) hx hb hts hinX2 hown hK hP 0 rfl rfl 2 (by decide) (hts (.fieldLink RX2 13 "GaugeBoardModel" "kind" "[I") (by decide +kernel)) (fun _ h9 => h9) rfl dX2_done_102 ?_
      refine lv_iload_n hx hb dX2_done_105 rfl (lv_at hl 3 rfl) ?_
      refine va_iald hx hb hK hP 2 0 rfl rfl hg dX2_done_106 ?_
      refine pu_S (As := [.long b2, .int ((mK x) b0.toNatClampNeg)]) (rest := []) ⟨hx, hb, hml, hown, hts⟩ (c_X2_sizeOf l s.heap b2 ((mK x) b0.toNatClampNeg)) puK_T trivial (va_cwS 2 hts gX2_done_X2_sizeOf rfl rfl rfl (by decide +kernel) ⟨Nat.le_of_ble_eq_true rfl, Nat.le_of_ble_eq_true rfl⟩) rfl hl.1 rfl (Nat.le_of_ble_eq_true rfl) dX2_done_107 ⟨Nat.zero_le _, Nat.zero_le _⟩ ?_
      refine W.eq (g2 := F0 m 110 ls [.long (f_X2_sizeOf b2 ((mK x) b0.toNatClampNeg))]) rfl ?_
      exact W.lret (v := f_X2_sizeOf b2 ((mK x) b0.toNatClampNeg)) hx hb hr (fun t ht hW => ⟨congrArg (fun z => Outcome.returned (some (Value.long z))) (by unfold f_X2_done; rw [if_pos c_1, if_pos c_17]), ht⟩) (fun _ h => nomatch h) dX2_done_110
    by_cases c_18 : ((mO x) (((8 : Int32) * b0) + b1).toNatClampNeg) = 1
    · refine lv_tableIn (off := 46) (tgt := 111) hx hb dX2_done_65 (by rw [c_18]; decide) (by rw [c_18]; decide) (by rw [c_18]; decide) (by decide) ?_
      refine lv_lload hx hb dX2_done_111 (lv_at hl 0 rfl) ?_
      refine lv_lload_n hx hb dX2_done_113 rfl (lv_at hl 5 rfl) ?_
      refine lv_aload_n hx hb dX2_done_114 rfl (lv_at hl 2 rfl) ?_
      refine va_get (D := D) (ci := 2) (v := .ref (a 2)) (C := RX2) (T := TX2) (N := 14) hx hb hts hinX2 hown hK hP 0 rfl rfl 2 (by decide) (hts (.fieldLink RX2 13 "GaugeBoardModel" "kind" "[I") (by decide +kernel)) (fun _ h9 => h9) rfl dX2_done_115 ?_
      refine lv_iload_n hx hb dX2_done_118 rfl (lv_at hl 3 rfl) ?_
      refine va_iald hx hb hK hP 2 0 rfl rfl hg dX2_done_119 ?_
      refine pu_S (As := [.long ((mB x) (((8 : Int32) * b0) + b1).toNatClampNeg), .long b2, .int ((mK x) b0.toNatClampNeg)]) (rest := []) ⟨hx, hb, hml, hown, hts⟩ (c_X2_isAbove l s.heap ((mB x) (((8 : Int32) * b0) + b1).toNatClampNeg) b2 ((mK x) b0.toNatClampNeg)) puK_T trivial (va_cwS 3 hts gX2_done_X2_isAbove rfl rfl rfl (by decide +kernel) ⟨Nat.le_of_ble_eq_true rfl, Nat.le_of_ble_eq_true rfl⟩) rfl hl.1 rfl (Nat.le_of_ble_eq_true rfl) dX2_done_120 ⟨Nat.zero_le _, Nat.zero_le _⟩ ?_
      refine W.eq (g2 := F0 m 123 ls [.int (f_X2_isAbove ((mB x) (((8 : Int32) * b0) + b1).toNatClampNeg) b2 ((mK x) b0.toNatClampNeg))]) rfl ?_
      refine lv_if_eq (tgt := 131) hx hb dX2_done_123 (by decide) (fun c_19 => ?_) (fun c_19 => ?_)
      · refine lv_lload_n hx hb dX2_done_131 rfl (lv_at hl 5 rfl) ?_
        exact W.lret (v := b2) hx hb hr (fun t ht hW => ⟨congrArg (fun z => Outcome.returned (some (Value.long z))) (by unfold f_X2_done; rw [if_pos c_1, if_neg c_17, if_pos c_18, if_pos c_19]), ht⟩) (fun _ h => nomatch h) dX2_done_132
      · refine lv_lload hx hb dX2_done_126 (lv_at hl 0 rfl) ?_
        refine lv_goto (tgt := 132) hx hb dX2_done_128 (by decide) ?_
        exact W.lret (v := (mB x) (((8 : Int32) * b0) + b1).toNatClampNeg) hx hb hr (fun t ht hW => ⟨congrArg (fun z => Outcome.returned (some (Value.long z))) (by unfold f_X2_done; rw [if_pos c_1, if_neg c_17, if_pos c_18, if_neg c_19]), ht⟩) (fun _ h => nomatch h) dX2_done_132
    by_cases c_20 : ((mO x) (((8 : Int32) * b0) + b1).toNatClampNeg) = 2
    · refine lv_tableIn (off := 68) (tgt := 133) hx hb dX2_done_65 (by rw [c_20]; decide) (by rw [c_20]; decide) (by rw [c_20]; decide) (by decide) ?_
      refine lv_lload_n hx hb dX2_done_133 rfl (lv_at hl 5 rfl) ?_
      refine lv_lload hx hb dX2_done_134 (lv_at hl 0 rfl) ?_
      refine lv_aload_n hx hb dX2_done_136 rfl (lv_at hl 2 rfl) ?_
      refine va_get (D := D) (ci := 2) (v := .ref (a 2)) (C := RX2) (T := TX2) (N := 14) hx hb hts hinX2 hown hK hP 0 rfl rfl 2 (by decide) (hts (.fieldLink RX2 13 "GaugeBoardModel" "kind" "[I") (by decide +kernel)) (fun _ h9 => h9) rfl dX2_done_137 ?_
      refine lv_iload_n hx hb dX2_done_140 rfl (lv_at hl 3 rfl) ?_
      refine va_iald hx hb hK hP 2 0 rfl rfl hg dX2_done_141 ?_
      refine pu_S (As := [.long b2, .long ((mB x) (((8 : Int32) * b0) + b1).toNatClampNeg), .int ((mK x) b0.toNatClampNeg)]) (rest := []) ⟨hx, hb, hml, hown, hts⟩ (c_X2_isAbove l s.heap b2 ((mB x) (((8 : Int32) * b0) + b1).toNatClampNeg) ((mK x) b0.toNatClampNeg)) puK_T trivial (va_cwS 3 hts gX2_done_X2_isAbove rfl rfl rfl (by decide +kernel) ⟨Nat.le_of_ble_eq_true rfl, Nat.le_of_ble_eq_true rfl⟩) rfl hl.1 rfl (Nat.le_of_ble_eq_true rfl) dX2_done_142 ⟨Nat.zero_le _, Nat.zero_le _⟩ ?_
      refine W.eq (g2 := F0 m 145 ls [.int (f_X2_isAbove b2 ((mB x) (((8 : Int32) * b0) + b1).toNatClampNeg) ((mK x) b0.toNatClampNeg))]) rfl ?_
      refine lv_if_eq (tgt := 153) hx hb dX2_done_145 (by decide) (fun c_21 => ?_) (fun c_21 => ?_)
      · refine lv_lload_n hx hb dX2_done_153 rfl (lv_at hl 5 rfl) ?_
        exact W.lret (v := b2) hx hb hr (fun t ht hW => ⟨congrArg (fun z => Outcome.returned (some (Value.long z))) (by unfold f_X2_done; rw [if_pos c_1, if_neg c_17, if_neg c_18, if_pos c_20, if_pos c_21]), ht⟩) (fun _ h => nomatch h) dX2_done_154
      · refine lv_lload hx hb dX2_done_148 (lv_at hl 0 rfl) ?_
        refine lv_goto (tgt := 154) hx hb dX2_done_150 (by decide) ?_
        exact W.lret (v := (mB x) (((8 : Int32) * b0) + b1).toNatClampNeg) hx hb hr (fun t ht hW => ⟨congrArg (fun z => Outcome.returned (some (Value.long z))) (by unfold f_X2_done; rw [if_pos c_1, if_neg c_17, if_neg c_18, if_pos c_20, if_neg c_21]), ht⟩) (fun _ h => nomatch h) dX2_done_154
    by_cases c_22 : ((mO x) (((8 : Int32) * b0) + b1).toNatClampNeg) = 3
    · refine lv_tableIn (off := 90) (tgt := 155) hx hb dX2_done_65 (by rw [c_22]; decide) (by rw [c_22]; decide) (by rw [c_22]; decide) (by decide) ?_
      refine lv_lload_n hx hb dX2_done_155 rfl (lv_at hl 5 rfl) ?_
      refine lv_aload_n hx hb dX2_done_156 rfl (lv_at hl 2 rfl) ?_
      refine va_get (D := D) (ci := 2) (v := .ref (a 2)) (C := RX2) (T := TX2) (N := 14) hx hb hts hinX2 hown hK hP 0 rfl rfl 2 (by decide) (hts (.fieldLink RX2 13 "GaugeBoardModel" "kind" "[I") (by decide +kernel)) (fun _ h9 => h9) rfl dX2_done_157 ?_
      refine lv_iload_n hx hb dX2_done_160 rfl (lv_at hl 3 rfl) ?_
      refine va_iald hx hb hK hP 2 0 rfl rfl hg dX2_done_161 ?_
      refine pu_S (As := [.long b2, .int ((mK x) b0.toNatClampNeg)]) (rest := []) ⟨hx, hb, hml, hown, hts⟩ (c_X2_shown l s.heap b2 ((mK x) b0.toNatClampNeg)) puK_T trivial (va_cwS 2 hts gX2_done_X2_shown rfl rfl rfl (by decide +kernel) ⟨Nat.le_of_ble_eq_true rfl, Nat.le_of_ble_eq_true rfl⟩) rfl hl.1 rfl (Nat.le_of_ble_eq_true rfl) dX2_done_162 ⟨Nat.zero_le _, Nat.zero_le _⟩ ?_
      refine W.eq (g2 := F0 m 165 ls [.long (f_X2_shown b2 ((mK x) b0.toNatClampNeg))]) rfl ?_
      exact W.lret (v := f_X2_shown b2 ((mK x) b0.toNatClampNeg)) hx hb hr (fun t ht hW => ⟨congrArg (fun z => Outcome.returned (some (Value.long z))) (by unfold f_X2_done; rw [if_pos c_1, if_neg c_17, if_neg c_18, if_neg c_20, if_pos c_22]), ht⟩) (fun _ h => nomatch h) dX2_done_165
    by_cases c_23 : ((mO x) (((8 : Int32) * b0) + b1).toNatClampNeg) = 4
    · refine lv_tableIn (off := 101) (tgt := 166) hx hb dX2_done_65 (by rw [c_23]; decide) (by rw [c_23]; decide) (by rw [c_23]; decide) (by decide) ?_
      refine lv_lload_n hx hb dX2_done_166 rfl (lv_at hl 5 rfl) ?_
      refine lv_lload hx hb dX2_done_167 (lv_at hl 0 rfl) ?_
      refine lv_aload_n hx hb dX2_done_169 rfl (lv_at hl 2 rfl) ?_
      refine va_get (D := D) (ci := 2) (v := .ref (a 2)) (C := RX2) (T := TX2) (N := 14) hx hb hts hinX2 hown hK hP 0 rfl rfl 2 (by decide) (hts (.fieldLink RX2 13 "GaugeBoardModel" "kind" "[I") (by decide +kernel)) (fun _ h9 => h9) rfl dX2_done_170 ?_
      refine lv_iload_n hx hb dX2_done_173 rfl (lv_at hl 3 rfl) ?_
      refine va_iald hx hb hK hP 2 0 rfl rfl hg dX2_done_174 ?_
      refine pu_S (As := [.long b2, .long ((mB x) (((8 : Int32) * b0) + b1).toNatClampNeg), .int ((mK x) b0.toNatClampNeg)]) (rest := []) ⟨hx, hb, hml, hown, hts⟩ (c_X2_like l s.heap b2 ((mB x) (((8 : Int32) * b0) + b1).toNatClampNeg) ((mK x) b0.toNatClampNeg)) puK_T trivial (va_cwS 3 hts gX2_done_X2_like rfl rfl rfl (by decide +kernel) ⟨Nat.le_of_ble_eq_true rfl, Nat.le_of_ble_eq_true rfl⟩) rfl hl.1 rfl (Nat.le_of_ble_eq_true rfl) dX2_done_175 ⟨Nat.zero_le _, Nat.zero_le _⟩ ?_
      refine W.eq (g2 := F0 m 178 ls [.long (f_X2_like b2 ((mB x) (((8 : Int32) * b0) + b1).toNatClampNeg) ((mK x) b0.toNatClampNeg))]) rfl ?_
      exact W.lret (v := f_X2_like b2 ((mB x) (((8 : Int32) * b0) + b1).toNatClampNeg) ((mK x) b0.toNatClampNeg)) hx hb hr (fun t ht hW => ⟨congrArg (fun z => Outcome.returned (some (Value.long z))) (by unfold f_X2_done; rw [if_pos c_1, if_neg c_17, if_neg c_18, if_neg c_20, if_neg c_22, if_pos c_23]), ht⟩) (fun _ h => nomatch h) dX2_done_178
    have h_sw : ((mO x) (((8 : Int32) * b0) + b1).toNatClampNeg).toInt < 0 ∨ 4 < ((mO x) (((8 : Int32) * b0) + b1).toNatClampNeg).toInt := by
      have n0 := lv_neT (k := 0) (a := 0) c_17 (by decide)
      have n1 := lv_neT (k := 1) (a := 1) c_18 (by decide)
      have n2 := lv_neT (k := 2) (a := 2) c_20 (by decide)
      have n3 := lv_neT (k := 3) (a := 3) c_22 (by decide)
      have n4 := lv_neT (k := 4) (a := 4) c_23 (by decide)
      omega
    refine lv_tableOut (tgt := 179) hx hb dX2_done_65 h_sw (by decide) ?_
    refine lv_lload_n hx hb dX2_done_179 rfl (lv_at hl 5 rfl) ?_
    refine lv_aload_n hx hb dX2_done_180 rfl (lv_at hl 2 rfl) ?_
    refine va_get (D := D) (ci := 2) (v := .ref (a 10)) (C := RX2) (T := TX2) (N := 14) hx hb hts hinX2 hown hK hP 0 rfl rfl 10 (by decide) (hts (.fieldLink RX2 39 "GaugeBoardModel" "sortOf" "[I") (by decide +kernel)) (fun _ h9 => h9) rfl dX2_done_181 ?_
    refine lv_iload hx hb dX2_done_184 (lv_at hl 1 rfl) ?_
    refine va_iald hx hb hK hP 10 0 rfl rfl (in96 hg hs) dX2_done_186 ?_
    refine pu_S (As := [.long b2, .int ((mO x) (((8 : Int32) * b0) + b1).toNatClampNeg)]) (rest := []) ⟨hx, hb, hml, hown, hts⟩ (c_X2_wholeOf l s.heap b2 ((mO x) (((8 : Int32) * b0) + b1).toNatClampNeg)) puK_T trivial (va_cwS 2 hts gX2_done_X2_wholeOf rfl rfl rfl (by decide +kernel) ⟨Nat.le_of_ble_eq_true rfl, Nat.le_of_ble_eq_true rfl⟩) rfl hl.1 rfl (Nat.le_of_ble_eq_true rfl) dX2_done_187 ⟨Nat.zero_le _, Nat.zero_le _⟩ ?_
    refine W.eq (g2 := F0 m 190 ls [.long (f_X2_wholeOf b2 ((mO x) (((8 : Int32) * b0) + b1).toNatClampNeg))]) rfl ?_
    exact W.lret (v := f_X2_wholeOf b2 ((mO x) (((8 : Int32) * b0) + b1).toNatClampNeg)) hx hb hr (fun t ht hW => ⟨congrArg (fun z => Outcome.returned (some (Value.long z))) (by unfold f_X2_done; rw [if_pos c_1, if_neg c_17, if_neg c_18, if_neg c_20, if_neg c_22, if_neg c_23]), ht⟩) (fun _ h => nomatch h) dX2_done_190
def F_X2_adds (x : MS) (b0 : Int32) (b1 : Int32) (b2 : Int32) (b3 : Int64) (b4 : Int32) : Int32 × MS := (if ((mS x) b0.toNatClampNeg) = (8 : Int32) then ((0 : Int32), ((3 : Int32), mT x, mK x, mV x, mS x, mR x, mW x, mM x, mH x, mL x, mO x, mP x, mB x, mG x)) else ((upd (mS x) b0.toNatClampNeg (((mS x) b0.toNatClampNeg) + (1 : Int32))) b0.toNatClampNeg, (mth x, mT x, mK x, mV x, upd (mS x) b0.toNatClampNeg (((mS x) b0.toNatClampNeg) + (1 : Int32)), mR x, mW x, mM x, mH x, mL x, upd (mO x) (((8 : Int32) * b0) + ((mS x) b0.toNatClampNeg)).toNatClampNeg b1, upd (mP x) (((8 : Int32) * b0) + ((mS x) b0.toNatClampNeg)).toNatClampNeg b2, vp_updL (mB x) (((8 : Int32) * b0) + ((mS x) b0.toNatClampNeg)).toNatClampNeg b3, upd (mG x) (((8 : Int32) * b0) + ((mS x) b0.toNatClampNeg)).toNatClampNeg b4)))
set_option maxHeartbeats 4000000 in
set_option maxRecDepth 100000 in
theorem c_X2_adds (l : Launch) (H0 : Heap) (D : va_G) (cI cJ cZ cG : ClassId) (m0 : Nat) (a : Nat → Nat) (x : MS) (b0 : Int32) (b1 : Int32) (b2 : Int32) (b3 : Int64) (b4 : Int32) (hg : vp_in b0 12) (hc : vp_in (mS x b0.toNatClampNeg) 9) (hP : va_P D vwCl (MW cI cJ cZ m0 a x) H0) (hD0 : va_D (fun _ => True) (MW cI cJ cZ m0 a x)) : wr l yX2_adds wsX2_adds ({ frames := 0, cells := 0, slots := 0, locals := 0 }) [.ref m0, .int b0, .int b1, .int b2, .long b3, .int b4] (KW D cI cJ cZ cG) H0 (some (.int (F_X2_adds x b0 b1 b2 b3 b4).1)) D (MW cI cJ cZ m0 a x) (fun w => w = MW cI cJ cZ m0 a (F_X2_adds x b0 b1 b2 b3 b4).2) 0 0 := by
  refine Met.ofW (cc := cX2_adds) (maxL := 8) (ret := (some .int)) (by decide) rfl ?_
  intro p e s m args below meth c s₁ B hml hv
  obtain ⟨rfl, hH, hKW⟩ := hv
  have hx := B.exec
  have hb := B.bytes
  have hr := B.returns
  have hts := atoms_spec (ws := wsX2_adds) B.pre
  have hown : s.vm.findClass RX2 = some m.cls := findClass_of_methodNamed B.named
  have hlocks := B.notSynchronized
  subst hH
  have hl := lv_entry ([.ref m0, .int b0, .int b1, .int b2, .long b3, .int b4]) (n := 8) (Nat.le_of_ble_eq_true rfl)
  rw [lg_entry_eq]
  generalize (lg_sl ([.ref m0, .int b0, .int b1, .int b2, .long b3, .int b4]) ++ List.replicate (8 - (lg_sl ([.ref m0, .int b0, .int b1, .int b2, .long b3, .int b4])).length) Slot.unset).toArray = ls at hl ⊢
  have hl : lv_has ls 8 [(0, .ref m0), (1, .int b0), (2, .int b1), (3, .int b2), (4, .long b3), (6, .int b4)] := hl
  have hK := hKW.1
  have hinX2 : ∀ w ∈ u_ws RX2 TX2 14, w ∈ wsX2_adds := by decide +kernel
  have hD := hD0.self (sz := s.heap.size)
  generalize hAe : va_A (MW cI cJ cZ m0 a x) s.heap.size = A at hD ⊢
  have hA : ∀ q : Nat, s.heap.size ≤ q → A q := fun q h => by rw [← hAe]; exact Or.inr h
  have hS : va_S A s.heap s.heap [] := va_S.rf
  have hP : va_P D vwCl [(m0, .inr (2, [.int (mth x), .ref (a 1), .ref (a 2), .ref (a 3), .ref (a 4), .ref (a 5), .ref (a 6), .ref (a 7), .ref (a 8), .ref (a 9), .ref (a 10), .ref (a 11), .ref (a 12), .ref (a 13)])), ((a 1), .inl (cZ, 12, .inl (mT x))), ((a 2), .inl (cI, 12, .inl (mK x))), ((a 3), .inl (cJ, 12, .inr (.inl (mV x)))), ((a 4), .inl (cI, 12, .inl (mS x))), ((a 5), .inl (cI, 12, .inl (mR x))), ((a 6), .inl (cI, 12, .inl (mW x))), ((a 7), .inl (cZ, 12, .inl (mM x))), ((a 8), .inl (cJ, 12, .inr (.inl (mH x)))), ((a 9), .inl (cJ, 12, .inr (.inl (mL x)))), ((a 10), .inl (cI, 96, .inl (mO x))), ((a 11), .inl (cI, 96, .inl (mP x))), ((a 12), .inl (cJ, 96, .inr (.inl (mB x)))), ((a 13), .inl (cI, 96, .inl (mG x)))] s.heap := hP
  have hD : va_D A [(m0, .inr (2, [.int (mth x), .ref (a 1), .ref (a 2), .ref (a 3), .ref (a 4), .ref (a 5), .ref (a 6), .ref (a 7), .ref (a 8), .ref (a 9), .ref (a 10), .ref (a 11), .ref (a 12), .ref (a 13)])), ((a 1), .inl (cZ, 12, .inl (mT x))), ((a 2), .inl (cI, 12, .inl (mK x))), ((a 3), .inl (cJ, 12, .inr (.inl (mV x)))), ((a 4), .inl (cI, 12, .inl (mS x))), ((a 5), .inl (cI, 12, .inl (mR x))), ((a 6), .inl (cI, 12, .inl (mW x))), ((a 7), .inl (cZ, 12, .inl (mM x))), ((a 8), .inl (cJ, 12, .inr (.inl (mH x)))), ((a 9), .inl (cJ, 12, .inr (.inl (mL x)))), ((a 10), .inl (cI, 96, .inl (mO x))), ((a 11), .inl (cI, 96, .inl (mP x))), ((a 12), .inl (cJ, 96, .inr (.inl (mB x)))), ((a 13), .inl (cI, 96, .inl (mG x)))] := hD
  refine lv_aload_n hx hb dX2_adds_0 rfl (lv_at hl 0 rfl) ?_
  refine va_get (D := D) (ci := 2) (v := .ref (a 4)) (C := RX2) (T := TX2) (N := 14) hx hb hts hinX2 hown hK hP 0 rfl rfl 4 (by decide) (hts (.fieldLink RX2 21 "GaugeBoardModel" "steps" "[I") (by decide +kernel)) (fun _ h9 => h9) rfl dX2_adds_1 ?_
  refine lv_iload_n hx hb dX2_adds_4 rfl (lv_at hl 1 rfl) ?_
  refine va_iald hx hb hK hP 4 0 rfl rfl hg dX2_adds_5 ?_
  refine lv_bipush (v := 8) hx hb dX2_adds_6 (by decide) ?_
  refine lv_icmp_ne (tgt := 18) hx hb dX2_adds_8 (by decide) (fun c_1 => ?_) (fun c_1 => ?_)
  · refine lv_bipush (v := 8) hx hb dX2_adds_18 (by decide) ?_
    refine lv_iload_n hx hb dX2_adds_20 rfl (lv_at hl 1 rfl) ?_
    refine lv_imul hx hb dX2_adds_21 ?_
    refine lv_aload_n hx hb dX2_adds_22 rfl (lv_at hl 0 rfl) ?_
    refine va_get (D := D) (ci := 2) (v := .ref (a 4)) (C := RX2) (T := TX2) (N := 14) hx hb hts hinX2 hown hK hP 0 rfl rfl 4 (by decide) (hts (.fieldLink RX2 21 "GaugeBoardModel" "steps" "[I") (by decide +kernel)) (fun _ h9 => h9) rfl dX2_adds_23 ?_
    refine lv_iload_n hx hb dX2_adds_26 rfl (lv_at hl 1 rfl) ?_
    refine va_iald hx hb hK hP 4 0 rfl rfl hg dX2_adds_27 ?_
    refine lv_iadd hx hb dX2_adds_28 ?_
    refine lv_istore (lv' := [(7, .int (((8 : Int32) * b0) + ((mS x) b0.toNatClampNeg))), (0, .ref m0), (1, .int b0), (2, .int b1), (3, .int b2), (4, .long b3), (6, .int b4)]) hx hb dX2_adds_29 hl (by decide) rfl (fun ls hl => ?_)
    refine lv_aload_n hx hb dX2_adds_31 rfl (lv_at hl 1 rfl) ?_
    refine va_get (D := D) (ci := 2) (v := .ref (a 10)) (C := RX2) (T := TX2) (N := 14) hx hb hts hinX2 hown hK hP 0 rfl rfl 10 (by decide) (hts (.fieldLink RX2 39 "GaugeBoardModel" "sortOf" "[I") (by decide +kernel)) (fun _ h9 => h9) rfl dX2_adds_32 ?_
    refine lv_iload hx hb dX2_adds_35 (lv_at hl 0 rfl) ?_
    refine lv_iload_n hx hb dX2_adds_37 rfl (lv_at hl 3 rfl) ?_
    refine va_iast hx hb hK hP hD hS 10 0 rfl rfl (in96 hg (in8 hc c_1)) dX2_adds_38 (fun H locs hP hD hS => ?_)
    have hP : va_P D vwCl [(m0, .inr (2, [.int (mth x), .ref (a 1), .ref (a 2), .ref (a 3), .ref (a 4), .ref (a 5), .ref (a 6), .ref (a 7), .ref (a 8), .ref (a 9), .ref (a 10), .ref (a 11), .ref (a 12), .ref (a 13)])), ((a 1), .inl (cZ, 12, .inl (mT x))), ((a 2), .inl (cI, 12, .inl (mK x))), ((a 3), .inl (cJ, 12, .inr (.inl (mV x)))), ((a 4), .inl (cI, 12, .inl (mS x))), ((a 5), .inl (cI, 12, .inl (mR x))), ((a 6), .inl (cI, 12, .inl (mW x))), ((a 7), .inl (cZ, 12, .inl (mM x))), ((a 8), .inl (cJ, 12, .inr (.inl (mH x)))), ((a 9), .inl (cJ, 12, .inr (.inl (mL x)))), ((a 10), .inl (cI, 96, .inl (upd (mO x) (((8 : Int32) * b0) + ((mS x) b0.toNatClampNeg)).toNatClampNeg b1))), ((a 11), .inl (cI, 96, .inl (mP x))), ((a 12), .inl (cJ, 96, .inr (.inl (mB x)))), ((a 13), .inl (cI, 96, .inl (mG x)))] H := hP
    have hD : va_D A [(m0, .inr (2, [.int (mth x), .ref (a 1), .ref (a 2), .ref (a 3), .ref (a 4), .ref (a 5), .ref (a 6), .ref (a 7), .ref (a 8), .ref (a 9), .ref (a 10), .ref (a 11), .ref (a 12), .ref (a 13)])), ((a 1), .inl (cZ, 12, .inl (mT x))), ((a 2), .inl (cI, 12, .inl (mK x))), ((a 3), .inl (cJ, 12, .inr (.inl (mV x)))), ((a 4), .inl (cI, 12, .inl (mS x))), ((a 5), .inl (cI, 12, .inl (mR x))), ((a 6), .inl (cI, 12, .inl (mW x))), ((a 7), .inl (cZ, 12, .inl (mM x))), ((a 8), .inl (cJ, 12, .inr (.inl (mH x)))), ((a 9), .inl (cJ, 12, .inr (.inl (mL x)))), ((a 10), .inl (cI, 96, .inl (upd (mO x) (((8 : Int32) * b0) + ((mS x) b0.toNatClampNeg)).toNatClampNeg b1))), ((a 11), .inl (cI, 96, .inl (mP x))), ((a 12), .inl (cJ, 96, .inr (.inl (mB x)))), ((a 13), .inl (cI, 96, .inl (mG x)))] := hD
    refine lv_aload_n hx hb dX2_adds_39 rfl (lv_at hl 1 rfl) ?_
    refine va_get (D := D) (ci := 2) (v := .ref (a 11)) (C := RX2) (T := TX2) (N := 14) hx hb hts hinX2 hown hK hP 0 rfl rfl 11 (by decide) (hts (.fieldLink RX2 42 "GaugeBoardModel" "operandOf" "[I") (by decide +kernel)) (fun _ h9 => h9) rfl dX2_adds_40 ?_
    refine lv_iload hx hb dX2_adds_43 (lv_at hl 0 rfl) ?_
    refine lv_iload_n hx hb dX2_adds_45 rfl (lv_at hl 4 rfl) ?_
    refine va_iast hx hb hK hP hD hS 11 0 rfl rfl (in96 hg (in8 hc c_1)) dX2_adds_46 (fun H locs hP hD hS => ?_)
    have hP : va_P D vwCl [(m0, .inr (2, [.int (mth x), .ref (a 1), .ref (a 2), .ref (a 3), .ref (a 4), .ref (a 5), .ref (a 6), .ref (a 7), .ref (a 8), .ref (a 9), .ref (a 10), .ref (a 11), .ref (a 12), .ref (a 13)])), ((a 1), .inl (cZ, 12, .inl (mT x))), ((a 2), .inl (cI, 12, .inl (mK x))), ((a 3), .inl (cJ, 12, .inr (.inl (mV x)))), ((a 4), .inl (cI, 12, .inl (mS x))), ((a 5), .inl (cI, 12, .inl (mR x))), ((a 6), .inl (cI, 12, .inl (mW x))), ((a 7), .inl (cZ, 12, .inl (mM x))), ((a 8), .inl (cJ, 12, .inr (.inl (mH x)))), ((a 9), .inl (cJ, 12, .inr (.inl (mL x)))), ((a 10), .inl (cI, 96, .inl (upd (mO x) (((8 : Int32) * b0) + ((mS x) b0.toNatClampNeg)).toNatClampNeg b1))), ((a 11), .inl (cI, 96, .inl (upd (mP x) (((8 : Int32) * b0) + ((mS x) b0.toNatClampNeg)).toNatClampNeg b2))), ((a 12), .inl (cJ, 96, .inr (.inl (mB x)))), ((a 13), .inl (cI, 96, .inl (mG x)))] H := hP
    have hD : va_D A [(m0, .inr (2, [.int (mth x), .ref (a 1), .ref (a 2), .ref (a 3), .ref (a 4), .ref (a 5), .ref (a 6), .ref (a 7), .ref (a 8), .ref (a 9), .ref (a 10), .ref (a 11), .ref (a 12), .ref (a 13)])), ((a 1), .inl (cZ, 12, .inl (mT x))), ((a 2), .inl (cI, 12, .inl (mK x))), ((a 3), .inl (cJ, 12, .inr (.inl (mV x)))), ((a 4), .inl (cI, 12, .inl (mS x))), ((a 5), .inl (cI, 12, .inl (mR x))), ((a 6), .inl (cI, 12, .inl (mW x))), ((a 7), .inl (cZ, 12, .inl (mM x))), ((a 8), .inl (cJ, 12, .inr (.inl (mH x)))), ((a 9), .inl (cJ, 12, .inr (.inl (mL x)))), ((a 10), .inl (cI, 96, .inl (upd (mO x) (((8 : Int32) * b0) + ((mS x) b0.toNatClampNeg)).toNatClampNeg b1))), ((a 11), .inl (cI, 96, .inl (upd (mP x) (((8 : Int32) * b0) + ((mS x) b0.toNatClampNeg)).toNatClampNeg b2))), ((a 12), .inl (cJ, 96, .inr (.inl (mB x)))), ((a 13), .inl (cI, 96, .inl (mG x)))] := hD
    refine lv_aload_n hx hb dX2_adds_47 rfl (lv_at hl 1 rfl) ?_
    refine va_get (D := D) (ci := 2) (v := .ref (a 12)) (C := RX2) (T := TX2) (N := 14) hx hb hts hinX2 hown hK hP 0 rfl rfl 12 (by decide) (hts (.fieldLink RX2 45 "GaugeBoardModel" "bitsOf" "[J") (by decide +kernel)) (fun _ h9 => h9) rfl dX2_adds_48 ?_
    refine lv_iload hx hb dX2_adds_51 (lv_at hl 0 rfl) ?_
    refine lv_lload hx hb dX2_adds_53 (lv_at hl 5 rfl) ?_
    refine va_last hx hb hK hP hD hS 12 1 rfl rfl (in96 hg (in8 hc c_1)) dX2_adds_55 (fun H locs hP hD hS => ?_)
    have hP : va_P D vwCl [(m0, .inr (2, [.int (mth x), .ref (a 1), .ref (a 2), .ref (a 3), .ref (a 4), .ref (a 5), .ref (a 6), .ref (a 7), .ref (a 8), .ref (a 9), .ref (a 10), .ref (a 11), .ref (a 12), .ref (a 13)])), ((a 1), .inl (cZ, 12, .inl (mT x))), ((a 2), .inl (cI, 12, .inl (mK x))), ((a 3), .inl (cJ, 12, .inr (.inl (mV x)))), ((a 4), .inl (cI, 12, .inl (mS x))), ((a 5), .inl (cI, 12, .inl (mR x))), ((a 6), .inl (cI, 12, .inl (mW x))), ((a 7), .inl (cZ, 12, .inl (mM x))), ((a 8), .inl (cJ, 12, .inr (.inl (mH x)))), ((a 9), .inl (cJ, 12, .inr (.inl (mL x)))), ((a 10), .inl (cI, 96, .inl (upd (mO x) (((8 : Int32) * b0) + ((mS x) b0.toNatClampNeg)).toNatClampNeg b1))), ((a 11), .inl (cI, 96, .inl (upd (mP x) (((8 : Int32) * b0) + ((mS x) b0.toNatClampNeg)).toNatClampNeg b2))), ((a 12), .inl (cJ, 96, .inr (.inl (vp_updL (mB x) (((8 : Int32) * b0) + ((mS x) b0.toNatClampNeg)).toNatClampNeg b3)))), ((a 13), .inl (cI, 96, .inl (mG x)))] H := hP
    have hD : va_D A [(m0, .inr (2, [.int (mth x), .ref (a 1), .ref (a 2), .ref (a 3), .ref (a 4), .ref (a 5), .ref (a 6), .ref (a 7), .ref (a 8), .ref (a 9), .ref (a 10), .ref (a 11), .ref (a 12), .ref (a 13)])), ((a 1), .inl (cZ, 12, .inl (mT x))), ((a 2), .inl (cI, 12, .inl (mK x))), ((a 3), .inl (cJ, 12, .inr (.inl (mV x)))), ((a 4), .inl (cI, 12, .inl (mS x))), ((a 5), .inl (cI, 12, .inl (mR x))), ((a 6), .inl (cI, 12, .inl (mW x))), ((a 7), .inl (cZ, 12, .inl (mM x))), ((a 8), .inl (cJ, 12, .inr (.inl (mH x)))), ((a 9), .inl (cJ, 12, .inr (.inl (mL x)))), ((a 10), .inl (cI, 96, .inl (upd (mO x) (((8 : Int32) * b0) + ((mS x) b0.toNatClampNeg)).toNatClampNeg b1))), ((a 11), .inl (cI, 96, .inl (upd (mP x) (((8 : Int32) * b0) + ((mS x) b0.toNatClampNeg)).toNatClampNeg b2))), ((a 12), .inl (cJ, 96, .inr (.inl (vp_updL (mB x) (((8 : Int32) * b0) + ((mS x) b0.toNatClampNeg)).toNatClampNeg b3)))), ((a 13), .inl (cI, 96, .inl (mG x)))] := hD
    refine lv_aload_n hx hb dX2_adds_56 rfl (lv_at hl 1 rfl) ?_
    refine va_get (D := D) (ci := 2) (v := .ref (a 13)) (C := RX2) (T := TX2) (N := 14) hx hb hts hinX2 hown hK hP 0 rfl rfl 13 (by decide) (hts (.fieldLink RX2 48 "GaugeBoardModel" "gaugeOf" "[I") (by decide +kernel)) (fun _ h9 => h9) rfl dX2_adds_57 ?_
    refine lv_iload hx hb dX2_adds_60 (lv_at hl 0 rfl) ?_
    refine lv_iload hx hb dX2_adds_62 (lv_at hl 6 rfl) ?_
    refine va_iast hx hb hK hP hD hS 13 0 rfl rfl (in96 hg (in8 hc c_1)) dX2_adds_64 (fun H locs hP hD hS => ?_)
    have hP : va_P D vwCl [(m0, .inr (2, [.int (mth x), .ref (a 1), .ref (a 2), .ref (a 3), .ref (a 4), .ref (a 5), .ref (a 6), .ref (a 7), .ref (a 8), .ref (a 9), .ref (a 10), .ref (a 11), .ref (a 12), .ref (a 13)])), ((a 1), .inl (cZ, 12, .inl (mT x))), ((a 2), .inl (cI, 12, .inl (mK x))), ((a 3), .inl (cJ, 12, .inr (.inl (mV x)))), ((a 4), .inl (cI, 12, .inl (mS x))), ((a 5), .inl (cI, 12, .inl (mR x))), ((a 6), .inl (cI, 12, .inl (mW x))), ((a 7), .inl (cZ, 12, .inl (mM x))), ((a 8), .inl (cJ, 12, .inr (.inl (mH x)))), ((a 9), .inl (cJ, 12, .inr (.inl (mL x)))), ((a 10), .inl (cI, 96, .inl (upd (mO x) (((8 : Int32) * b0) + ((mS x) b0.toNatClampNeg)).toNatClampNeg b1))), ((a 11), .inl (cI, 96, .inl (upd (mP x) (((8 : Int32) * b0) + ((mS x) b0.toNatClampNeg)).toNatClampNeg b2))), ((a 12), .inl (cJ, 96, .inr (.inl (vp_updL (mB x) (((8 : Int32) * b0) + ((mS x) b0.toNatClampNeg)).toNatClampNeg b3)))), ((a 13), .inl (cI, 96, .inl (upd (mG x) (((8 : Int32) * b0) + ((mS x) b0.toNatClampNeg)).toNatClampNeg b4)))] H := hP
    have hD : va_D A [(m0, .inr (2, [.int (mth x), .ref (a 1), .ref (a 2), .ref (a 3), .ref (a 4), .ref (a 5), .ref (a 6), .ref (a 7), .ref (a 8), .ref (a 9), .ref (a 10), .ref (a 11), .ref (a 12), .ref (a 13)])), ((a 1), .inl (cZ, 12, .inl (mT x))), ((a 2), .inl (cI, 12, .inl (mK x))), ((a 3), .inl (cJ, 12, .inr (.inl (mV x)))), ((a 4), .inl (cI, 12, .inl (mS x))), ((a 5), .inl (cI, 12, .inl (mR x))), ((a 6), .inl (cI, 12, .inl (mW x))), ((a 7), .inl (cZ, 12, .inl (mM x))), ((a 8), .inl (cJ, 12, .inr (.inl (mH x)))), ((a 9), .inl (cJ, 12, .inr (.inl (mL x)))), ((a 10), .inl (cI, 96, .inl (upd (mO x) (((8 : Int32) * b0) + ((mS x) b0.toNatClampNeg)).toNatClampNeg b1))), ((a 11), .inl (cI, 96, .inl (upd (mP x) (((8 : Int32) * b0) + ((mS x) b0.toNatClampNeg)).toNatClampNeg b2))), ((a 12), .inl (cJ, 96, .inr (.inl (vp_updL (mB x) (((8 : Int32) * b0) + ((mS x) b0.toNatClampNeg)).toNatClampNeg b3)))), ((a 13), .inl (cI, 96, .inl (upd (mG x) (((8 : Int32) * b0) + ((mS x) b0.toNatClampNeg)).toNatClampNeg b4)))] := hD
    refine lv_aload_n hx hb dX2_adds_65 rfl (lv_at hl 1 rfl) ?_
    refine va_get (D := D) (ci := 2) (v := .ref (a 4)) (C := RX2) (T := TX2) (N := 14) hx hb hts hinX2 hown hK hP 0 rfl rfl 4 (by decide) (hts (.fieldLink RX2 21 "GaugeBoardModel" "steps" "[I") (by decide +kernel)) (fun _ h9 => h9) rfl dX2_adds_66 ?_
    refine lv_iload_n hx hb dX2_adds_69 rfl (lv_at hl 2 rfl) ?_
    refine lv_dup2_11 hx hb dX2_adds_70 rfl rfl ?_
    refine va_iald hx hb hK hP 4 0 rfl rfl hg dX2_adds_71 ?_
    refine lv_iconst (v := 1) hx hb dX2_adds_72 (by decide) ?_
    refine lv_iadd hx hb dX2_adds_73 ?_
    refine va_iast hx hb hK hP hD hS 4 0 rfl rfl hg dX2_adds_74 (fun H locs hP hD hS => ?_)
    have hP : va_P D vwCl [(m0, .inr (2, [.int (mth x), .ref (a 1), .ref (a 2), .ref (a 3), .ref (a 4), .ref (a 5), .ref (a 6), .ref (a 7), .ref (a 8), .ref (a 9), .ref (a 10), .ref (a 11), .ref (a 12), .ref (a 13)])), ((a 1), .inl (cZ, 12, .inl (mT x))), ((a 2), .inl (cI, 12, .inl (mK x))), ((a 3), .inl (cJ, 12, .inr (.inl (mV x)))), ((a 4), .inl (cI, 12, .inl (upd (mS x) b0.toNatClampNeg (((mS x) b0.toNatClampNeg) + (1 : Int32))))), ((a 5), .inl (cI, 12, .inl (mR x))), ((a 6), .inl (cI, 12, .inl (mW x))), ((a 7), .inl (cZ, 12, .inl (mM x))), ((a 8), .inl (cJ, 12, .inr (.inl (mH x)))), ((a 9), .inl (cJ, 12, .inr (.inl (mL x)))), ((a 10), .inl (cI, 96, .inl (upd (mO x) (((8 : Int32) * b0) + ((mS x) b0.toNatClampNeg)).toNatClampNeg b1))), ((a 11), .inl (cI, 96, .inl (upd (mP x) (((8 : Int32) * b0) + ((mS x) b0.toNatClampNeg)).toNatClampNeg b2))), ((a 12), .inl (cJ, 96, .inr (.inl (vp_updL (mB x) (((8 : Int32) * b0) + ((mS x) b0.toNatClampNeg)).toNatClampNeg b3)))), ((a 13), .inl (cI, 96, .inl (upd (mG x) (((8 : Int32) * b0) + ((mS x) b0.toNatClampNeg)).toNatClampNeg b4)))] H := hP
    have hD : va_D A [(m0, .inr (2, [.int (mth x), .ref (a 1), .ref (a 2), .ref (a 3), .ref (a 4), .ref (a 5), .ref (a 6), .ref (a 7), .ref (a 8), .ref (a 9), .ref (a 10), .ref (a 11), .ref (a 12), .ref (a 13)])), ((a 1), .inl (cZ, 12, .inl (mT x))), ((a 2), .inl (cI, 12, .inl (mK x))), ((a 3), .inl (cJ, 12, .inr (.inl (mV x)))), ((a 4), .inl (cI, 12, .inl (upd (mS x) b0.toNatClampNeg (((mS x) b0.toNatClampNeg) + (1 : Int32))))), ((a 5), .inl (cI, 12, .inl (mR x))), ((a 6), .inl (cI, 12, .inl (mW x))), ((a 7), .inl (cZ, 12, .inl (mM x))), ((a 8), .inl (cJ, 12, .inr (.inl (mH x)))), ((a 9), .inl (cJ, 12, .inr (.inl (mL x)))), ((a 10), .inl (cI, 96, .inl (upd (mO x) (((8 : Int32) * b0) + ((mS x) b0.toNatClampNeg)).toNatClampNeg b1))), ((a 11), .inl (cI, 96, .inl (upd (mP x) (((8 : Int32) * b0) + ((mS x) b0.toNatClampNeg)).toNatClampNeg b2))), ((a 12), .inl (cJ, 96, .inr (.inl (vp_updL (mB x) (((8 : Int32) * b0) + ((mS x) b0.toNatClampNeg)).toNatClampNeg b3)))), ((a 13), .inl (cI, 96, .inl (upd (mG x) (((8 : Int32) * b0) + ((mS x) b0.toNatClampNeg)).toNatClampNeg b4)))] := hD
    refine lv_aload_n hx hb dX2_adds_75 rfl (lv_at hl 1 rfl) ?_
    refine va_get (D := D) (ci := 2) (v := .ref (a 4)) (C := RX2) (T := TX2) (N := 14) hx hb hts hinX2 hown hK hP 0 rfl rfl 4 (by decide) (hts (.fieldLink RX2 21 "GaugeBoardModel" "steps" "[I") (by decide +kernel)) (fun _ h9 => h9) rfl dX2_adds_76 ?_
    refine lv_iload_n hx hb dX2_adds_79 rfl (lv_at hl 2 rfl) ?_
    refine va_iald hx hb hK hP 4 0 rfl rfl hg dX2_adds_80 ?_
    have hF : F_X2_adds x b0 b1 b2 b3 b4 = ((upd (mS x) b0.toNatClampNeg (((mS x) b0.toNatClampNeg) + (1 : Int32))) b0.toNatClampNeg, (mth x, mT x, mK x, mV x, upd (mS x) b0.toNatClampNeg (((mS x) b0.toNatClampNeg) + (1 : Int32)), mR x, mW x, mM x, mH x, mL x, upd (mO x) (((8 : Int32) * b0) + ((mS x) b0.toNatClampNeg)).toNatClampNeg b1, upd (mP x) (((8 : Int32) * b0) + ((mS x) b0.toNatClampNeg)).toNatClampNeg b2, vp_updL (mB x) (((8 : Int32) * b0) + ((mS x) b0.toNatClampNeg)).toNatClampNeg b3, upd (mG x) (((8 : Int32) * b0) + ((mS x) b0.toNatClampNeg)).toNatClampNeg b4)) := by
      unfold F_X2_adds; rw [if_neg c_1]
    exact W.iret (v := (upd (mS x) b0.toNatClampNeg (((mS x) b0.toNatClampNeg) + (1 : Int32))) b0.toNatClampNeg) hx hb hr (fun t ht hW => ⟨by rw [hF], MW cI cJ cZ m0 a (mth x, mT x, mK x, mV x, upd (mS x) b0.toNatClampNeg (((mS x) b0.toNatClampNeg) + (1 : Int32)), mR x, mW x, mM x, mH x, mL x, upd (mO x) (((8 : Int32) * b0) + ((mS x) b0.toNatClampNeg)).toNatClampNeg b1, upd (mP x) (((8 : Int32) * b0) + ((mS x) b0.toNatClampNeg)).toNatClampNeg b2, vp_updL (mB x) (((8 : Int32) * b0) + ((mS x) b0.toNatClampNeg)).toNatClampNeg b3, upd (mG x) (((8 : Int32) * b0) + ((mS x) b0.toNatClampNeg)).toNatClampNeg b4), by rw [hF], by rw [ht]; exact hP, hD, (hS.F ht).1, (hS.F ht).2⟩) hS.2.2 dX2_adds_81
  · refine lv_aload_n hx hb dX2_adds_11 rfl (lv_at hl 0 rfl) ?_
    refine lv_iconst (v := 3) hx hb dX2_adds_12 (by decide) ?_
    refine va_put (D := D) (ci := 2) (v := .int (3 : Int32)) (ty := .int) (C := RX2) (T := TX2) (N := 14) hx hb hts hinX2 tyX2 tyX2_ok nmX2 hown hK hP hD hS 0 rfl rfl 0 (by decide) (hts (.fieldLink RX2 51 "GaugeBoardModel" "thrown" "I") (by decide +kernel)) (fun _ h9 => h9) rfl (by decide +kernel) rfl rfl (Nat.le_of_ble_eq_true rfl) dX2_adds_13 (fun H locs hP hD hS => ?_)
    have hP : va_P D vwCl [(m0, .inr (2, [.int (3 : Int32), .ref (a 1), .ref (a 2), .ref (a 3), .ref (a 4), .ref (a 5), .ref (a 6), .ref (a 7), .ref (a 8), .ref (a 9), .ref (a 10), .ref (a 11), .ref (a 12), .ref (a 13)])), ((a 1), .inl (cZ, 12, .inl (mT x))), ((a 2), .inl (cI, 12, .inl (mK x))), ((a 3), .inl (cJ, 12, .inr (.inl (mV x)))), ((a 4), .inl (cI, 12, .inl (mS x))), ((a 5), .inl (cI, 12, .inl (mR x))), ((a 6), .inl (cI, 12, .inl (mW x))), ((a 7), .inl (cZ, 12, .inl (mM x))), ((a 8), .inl (cJ, 12, .inr (.inl (mH x)))), ((a 9), .inl (cJ, 12, .inr (.inl (mL x)))), ((a 10), .inl (cI, 96, .inl (mO x))), ((a 11), .inl (cI, 96, .inl (mP x))), ((a 12), .inl (cJ, 96, .inr (.inl (mB x)))), ((a 13), .inl (cI, 96, .inl (mG x)))] H := hP
    have hD : va_D A [(m0, .inr (2, [.int (3 : Int32), .ref (a 1), .ref (a 2), .ref (a 3), .ref (a 4), .ref (a 5), .ref (a 6), .ref (a 7), .ref (a 8), .ref (a 9), .ref (a 10), .ref (a 11), .ref (a 12), .ref (a 13)])), ((a 1), .inl (cZ, 12, .inl (mT x))), ((a 2), .inl (cI, 12, .inl (mK x))), ((a 3), .inl (cJ, 12, .inr (.inl (mV x)))), ((a 4), .inl (cI, 12, .inl (mS x))), ((a 5), .inl (cI, 12, .inl (mR x))), ((a 6), .inl (cI, 12, .inl (mW x))), ((a 7), .inl (cZ, 12, .inl (mM x))), ((a 8), .inl (cJ, 12, .inr (.inl (mH x)))), ((a 9), .inl (cJ, 12, .inr (.inl (mL x)))), ((a 10), .inl (cI, 96, .inl (mO x))), ((a 11), .inl (cI, 96, .inl (mP x))), ((a 12), .inl (cJ, 96, .inr (.inl (mB x)))), ((a 13), .inl (cI, 96, .inl (mG x)))] := hD
    refine lv_iconst (v := 0) hx hb dX2_adds_16 (by decide) ?_
    have hF : F_X2_adds x b0 b1 b2 b3 b4 = ((0 : Int32), ((3 : Int32), mT x, mK x, mV x, mS x, mR x, mW x, mM x, mH x, mL x, mO x, mP x, mB x, mG x)) := by
      unfold F_X2_adds; rw [if_pos c_1]
    exact W.iret (v := (0 : Int32)) hx hb hr (fun t ht hW => ⟨by rw [hF], MW cI cJ cZ m0 a ((3 : Int32), mT x, mK x, mV x, mS x, mR x, mW x, mM x, mH x, mL x, mO x, mP x, mB x, mG x), by rw [hF], by rw [ht]; exact hP, hD, (hS.F ht).1, (hS.F ht).2⟩) hS.2.2 dX2_adds_17
