def lp_X2_takersIn (x : MS) (b0 : Int32) (b1 : Int32) : Nat → Int32 → Nat → Int32
  | 0, _, _ => 0
  | k + 1, n, i => (if ((mS x) b0.toNatClampNeg) ≤ (nI i) then n else (if ((mP x) (((8 : Int32) * b0) + (nI i)).toNatClampNeg) = (2 : Int32) then (if ((mG x) (((8 : Int32) * b0) + (nI i)).toNatClampNeg) = b1 then lp_X2_takersIn x b0 b1 k (n + 1) (i + 1) else lp_X2_takersIn x b0 b1 k n (i + 1)) else lp_X2_takersIn x b0 b1 k n (i + 1)))
def f_X2_takersIn (x : MS) (b0 : Int32) (b1 : Int32) : Int32 := lp_X2_takersIn x b0 b1 9 (0 : Int32) 0
set_option maxHeartbeats 4000000 in
set_option maxRecDepth 100000 in
theorem c_X2_takersIn (l : Launch) (H0 : Heap) (D : va_G) (cI cJ cZ cG : ClassId) (m0 : Nat) (a : Nat → Nat) (x : MS) (b0 : Int32) (b1 : Int32) (hg : vp_in b0 12) (hc : vp_in (mS x b0.toNatClampNeg) 9) (hP : va_P D vwCl (MW cI cJ cZ m0 a x) H0) : pu l yX2_takersIn wsX2_takersIn ({ frames := 0, cells := 0, slots := 0, locals := 0 }) [.ref m0, .int b0, .int b1] (KW D cI cJ cZ cG) H0 (some (.int (f_X2_takersIn x b0 b1))) := by
  refine Met.ofW (cc := cX2_takersIn) (maxL := 5) (ret := (some .int)) (by decide) rfl ?_
  intro p e s m args below meth c s₁ B hml hv
  obtain ⟨rfl, hH, hKW⟩ := hv
  have hx := B.exec
  have hb := B.bytes
  have hr := B.returns
  have hts := atoms_spec (ws := wsX2_takersIn) B.pre
  have hown : s.vm.findClass RX2 = some m.cls := findClass_of_methodNamed B.named
  have hlocks := B.notSynchronized
  subst hH
  have hl := lv_entry ([.ref m0, .int b0, .int b1]) (n := 5) (Nat.le_of_ble_eq_true rfl)
  rw [lg_entry_eq]
  generalize (lg_sl ([.ref m0, .int b0, .int b1]) ++ List.replicate (5 - (lg_sl ([.ref m0, .int b0, .int b1])).length) Slot.unset).toArray = ls at hl ⊢
  have hl : lv_has ls 5 [(0, .ref m0), (1, .int b0), (2, .int b1)] := hl
  have hK := hKW.1
  have hinX2 : ∀ w ∈ u_ws RX2 TX2 14, w ∈ wsX2_takersIn := by decide +kernel
  have hP : va_P D vwCl [(m0, .inr (2, [.int (mth x), .ref (a 1), .ref (a 2), .ref (a 3), .ref (a 4), .ref (a 5), .ref (a 6), .ref (a 7), .ref (a 8), .ref (a 9), .ref (a 10), .ref (a 11), .ref (a 12), .ref (a 13)])), ((a 1), .inl (cZ, 12, .inl (mT x))), ((a 2), .inl (cI, 12, .inl (mK x))), ((a 3), .inl (cJ, 12, .inr (.inl (mV x)))), ((a 4), .inl (cI, 12, .inl (mS x))), ((a 5), .inl (cI, 12, .inl (mR x))), ((a 6), .inl (cI, 12, .inl (mW x))), ((a 7), .inl (cZ, 12, .inl (mM x))), ((a 8), .inl (cJ, 12, .inr (.inl (mH x)))), ((a 9), .inl (cJ, 12, .inr (.inl (mL x)))), ((a 10), .inl (cI, 96, .inl (mO x))), ((a 11), .inl (cI, 96, .inl (mP x))), ((a 12), .inl (cJ, 96, .inr (.inl (mB x)))), ((a 13), .inl (cI, 96, .inl (mG x)))] s.heap := hP
  refine lv_iconst (v := 0) hx hb dX2_takersIn_0 (by decide) ?_
  refine lv_istore_n (lv' := [(3, .int (0 : Int32)), (0, .ref m0), (1, .int b0), (2, .int b1)]) hx hb dX2_takersIn_1 rfl hl (by decide) rfl (fun ls hl => ?_)
  refine lv_iconst (v := 0) hx hb dX2_takersIn_2 (by decide) ?_
  refine lv_istore (lv' := [(4, .int (0 : Int32)), (3, .int (0 : Int32)), (0, .ref m0), (1, .int b0), (2, .int b1)]) hx hb dX2_takersIn_3 hl (by decide) rfl (fun ls hl => ?_)
  have hloop : ∀ (k i : Nat) (n : Int32), i ≤ 8 → 9 ≤ i + k → lp_X2_takersIn x b0 b1 k n i = f_X2_takersIn x b0 b1 → ∀ ls : Array Slot, lv_has ls 5 [(4, .int (nI i)), (3, .int n), (0, .ref m0), (1, .int b0), (2, .int b1)] → W p l e (headSpec wsX2_takersIn { frames := 0, cells := 0, slots := 0, locals := 0 }).room s m [Value.ref m0, Value.int b0, Value.int b1].toArray below meth c s.heap [] 0 0 (MQ below (fun _ _ o t => o = .returned (some (.int (f_X2_takersIn x b0 b1))) ∧ t.heap = s.heap) [Value.ref m0, Value.int b0, Value.int b1].toArray s 0 0 (fun _ => False)) (F0 m 5 ls []) := by
    intro k
    induction k with
    | zero => intro i n h1 h2; omega
    | succ k ih =>
      intro i n hi hk hf ls hl
      refine lv_iload hx hb dX2_takersIn_5 (lv_at hl 0 rfl) ?_
      refine lv_aload_n hx hb dX2_takersIn_7 rfl (lv_at hl 2 rfl) ?_
      refine va_get (D := D) (ci := 2) (v := .ref (a 4)) (C := RX2) (T := TX2) (N := 14) hx hb hts hinX2 hown hK hP 0 rfl rfl 4 (by decide) (hts (.fieldLink RX2 21 "GaugeBoardModel" "steps" "[I") (by decide +kernel)) (fun _ h9 => h9) rfl dX2_takersIn_8 ?_
      refine lv_iload_n hx hb dX2_takersIn_11 rfl (lv_at hl 3 rfl) ?_
      refine va_iald hx hb hK hP 4 0 rfl rfl hg dX2_takersIn_12 ?_
      refine lv_icmp_ge (tgt := 57) hx hb dX2_takersIn_13 (by decide) (fun c_1 => ?_) (fun c_1 => ?_)
      · refine lv_iload_n hx hb dX2_takersIn_57 rfl (lv_at hl 1 rfl) ?_
        exact W.iret (v := n) hx hb hr (fun t ht hW => ⟨congrArg (fun z => Outcome.returned (some (Value.int z))) (by rw [← hf, lp_X2_takersIn, if_pos c_1]), ht⟩) (fun _ h => nomatch h) dX2_takersIn_58
      · refine lv_aload_n hx hb dX2_takersIn_16 rfl (lv_at hl 2 rfl) ?_
        refine va_get (D := D) (ci := 2) (v := .ref (a 11)) (C := RX2) (T := TX2) (N := 14) hx hb hts hinX2 hown hK hP 0 rfl rfl 11 (by decide) (hts (.fieldLink RX2 42 "GaugeBoardModel" "operandOf" "[I") (by decide +kernel)) (fun _ h9 => h9) rfl dX2_takersIn_17 ?_
        refine lv_bipush (v := 8) hx hb dX2_takersIn_20 (by decide) ?_
        refine lv_iload_n hx hb dX2_takersIn_22 rfl (lv_at hl 3 rfl) ?_
        refine lv_imul hx hb dX2_takersIn_23 ?_
        refine lv_iload hx hb dX2_takersIn_24 (lv_at hl 0 rfl) ?_
        refine lv_iadd hx hb dX2_takersIn_26 ?_
        refine va_iald hx hb hK hP 11 0 rfl rfl (in96 hg (in_cnt hc (vp_in_nI (by omega) (by decide)) c_1)) dX2_takersIn_27 ?_
        refine lv_iconst (v := 2) hx hb dX2_takersIn_28 (by decide) ?_
        refine lv_icmp_ne (tgt := 51) hx hb dX2_takersIn_29 (by decide) (fun c_2 => ?_) (fun c_2 => ?_)
        · refine lv_iinc (v := (nI i) + 1) (lv' := [(4, .int ((nI i) + 1)), (3, .int n), (0, .ref m0), (1, .int b0), (2, .int b1)]) hx hb dX2_takersIn_51 hl (k := 0) rfl rfl (by decide) rfl (fun ls hl => ?_)
          refine lv_goto (tgt := 5) hx hb dX2_takersIn_54 (by decide) ?_
          have hl := lv_sub hl [0, 1, 2, 3, 4] rfl
          rw [nI_1] at hl
          exact ih (i + 1) n (Nat.succ_le_of_lt (in_lt (in_cnt hc (vp_in_nI (by omega) (by decide)) c_1) (by omega))) (by omega) (by rw [← hf, lp_X2_takersIn, if_neg c_1, if_neg c_2]) ls hl
        · refine lv_aload_n hx hb dX2_takersIn_32 rfl (lv_at hl 2 rfl) ?_
          refine va_get (D := D) (ci := 2) (v := .ref (a 13)) (C := RX2) (T := TX2) (N := 14) hx hb hts hinX2 hown hK hP 0 rfl rfl 13 (by decide) (hts (.fieldLink RX2 48 "GaugeBoardModel" "gaugeOf" "[I") (by decide +kernel)) (fun _ h9 => h9) rfl dX2_takersIn_33 ?_
          refine lv_bipush (v := 8) hx hb dX2_takersIn_36 (by decide) ?_
          refine lv_iload_n hx hb dX2_takersIn_38 rfl (lv_at hl 3 rfl) ?_
          refine lv_imul hx hb dX2_takersIn_39 ?_
          refine lv_iload hx hb dX2_takersIn_40 (lv_at hl 0 rfl) ?_
          refine lv_iadd hx hb dX2_takersIn_42 ?_
          refine va_iald hx hb hK hP 13 0 rfl rfl (in96 hg (in_cnt hc (vp_in_nI (by omega) (by decide)) c_1)) dX2_takersIn_43 ?_
          refine lv_iload_n hx hb dX2_takersIn_44 rfl (lv_at hl 4 rfl) ?_
          refine lv_icmp_ne (tgt := 51) hx hb dX2_takersIn_45 (by decide) (fun c_3 => ?_) (fun c_3 => ?_)
          · refine lv_iinc (v := (nI i) + 1) (lv' := [(4, .int ((nI i) + 1)), (3, .int n), (0, .ref m0), (1, .int b0), (2, .int b1)]) hx hb dX2_takersIn_51 hl (k := 0) rfl rfl (by decide) rfl (fun ls hl => ?_)
            refine lv_goto (tgt := 5) hx hb dX2_takersIn_54 (by decide) ?_
            have hl := lv_sub hl [0, 1, 2, 3, 4] rfl
            rw [nI_1] at hl
            exact ih (i + 1) n (Nat.succ_le_of_lt (in_lt (in_cnt hc (vp_in_nI (by omega) (by decide)) c_1) (by omega))) (by omega) (by rw [← hf, lp_X2_takersIn, if_neg c_1, if_pos c_2, if_neg c_3]) ls hl
          · refine lv_iinc (v := n + 1) (lv' := [(3, .int (n + 1)), (4, .int (nI i)), (0, .ref m0), (1, .int b0), (2, .int b1)]) hx hb dX2_takersIn_48 hl (k := 1) rfl rfl (by decide) rfl (fun ls hl => ?_)
            refine lv_iinc (v := (nI i) + 1) (lv' := [(4, .int ((nI i) + 1)), (3, .int (n + 1)), (0, .ref m0), (1, .int b0), (2, .int b1)]) hx hb dX2_takersIn_51 hl (k := 1) rfl rfl (by decide) rfl (fun ls hl => ?_)
            refine lv_goto (tgt := 5) hx hb dX2_takersIn_54 (by decide) ?_
            have hl := lv_sub hl [0, 1, 2, 3, 4] rfl
            rw [nI_1] at hl
            exact ih (i + 1) (n + 1) (Nat.succ_le_of_lt (in_lt (in_cnt hc (vp_in_nI (by omega) (by decide)) c_1) (by omega))) (by omega) (by rw [← hf, lp_X2_takersIn, if_neg c_1, if_pos c_2, if_pos c_3]) ls hl
  exact hloop 9 0 (0 : Int32) (Nat.zero_le _) (Nat.le_refl _) (rfl) ls (lv_sub hl [0, 1, 2, 3, 4] rfl)
def f_X2_ownTakers (x : MS) (b0 : Int32) : Int32 := f_X2_takersIn x b0 b0
set_option maxHeartbeats 4000000 in
set_option maxRecDepth 100000 in
theorem c_X2_ownTakers (l : Launch) (H0 : Heap) (D : va_G) (cI cJ cZ cG : ClassId) (m0 : Nat) (a : Nat → Nat) (x : MS) (b0 : Int32) (hg : vp_in b0 12) (hc : vp_in (mS x b0.toNatClampNeg) 9) (hP : va_P D vwCl (MW cI cJ cZ m0 a x) H0) : pu l yX2_ownTakers wsX2_ownTakers ({ frames := 1, cells := 0, slots := 0, locals := 24 }) [.ref m0, .int b0] (KW D cI cJ cZ cG) H0 (some (.int (f_X2_ownTakers x b0))) := by
  refine Met.ofW (cc := cX2_ownTakers) (maxL := 2) (ret := (some .int)) (by decide) rfl ?_
  intro p e s m args below meth c s₁ B hml hv
  obtain ⟨rfl, hH, hKW⟩ := hv
  have hx := B.exec
  have hb := B.bytes
  have hr := B.returns
  have hts := atoms_spec (ws := wsX2_ownTakers) B.pre
  have hown : s.vm.findClass RX2 = some m.cls := findClass_of_methodNamed B.named
  have hlocks := B.notSynchronized
  subst hH
  have hl := lv_entry ([.ref m0, .int b0]) (n := 2) (Nat.le_of_ble_eq_true rfl)
  rw [lg_entry_eq]
  generalize (lg_sl ([.ref m0, .int b0]) ++ List.replicate (2 - (lg_sl ([.ref m0, .int b0])).length) Slot.unset).toArray = ls at hl ⊢
  have hl : lv_has ls 2 [(0, .ref m0), (1, .int b0)] := hl
  have hK := hKW.1
  have hinX2 : ∀ w ∈ u_ws RX2 TX2 14, w ∈ wsX2_ownTakers := by decide +kernel
  have hP : va_P D vwCl [(m0, .inr (2, [.int (mth x), .ref (a 1), .ref (a 2), .ref (a 3), .ref (a 4), .ref (a 5), .ref (a 6), .ref (a 7), .ref (a 8), .ref (a 9), .ref (a 10), .ref (a 11), .ref (a 12), .ref (a 13)])), ((a 1), .inl (cZ, 12, .inl (mT x))), ((a 2), .inl (cI, 12, .inl (mK x))), ((a 3), .inl (cJ, 12, .inr (.inl (mV x)))), ((a 4), .inl (cI, 12, .inl (mS x))), ((a 5), .inl (cI, 12, .inl (mR x))), ((a 6), .inl (cI, 12, .inl (mW x))), ((a 7), .inl (cZ, 12, .inl (mM x))), ((a 8), .inl (cJ, 12, .inr (.inl (mH x)))), ((a 9), .inl (cJ, 12, .inr (.inl (mL x)))), ((a 10), .inl (cI, 96, .inl (mO x))), ((a 11), .inl (cI, 96, .inl (mP x))), ((a 12), .inl (cJ, 96, .inr (.inl (mB x)))), ((a 13), .inl (cI, 96, .inl (mG x)))] s.heap := hP
  refine lv_aload_n hx hb dX2_ownTakers_0 rfl (lv_at hl 0 rfl) ?_
  refine lv_iload_n hx hb dX2_ownTakers_1 rfl (lv_at hl 1 rfl) ?_
  refine lv_iload_n hx hb dX2_ownTakers_2 rfl (lv_at hl 1 rfl) ?_
  refine pu_V (As := [.int b0, .int b0]) (rest := []) ⟨hx, hb, hml, hown, hts⟩ (c_X2_takersIn l s.heap D cI cJ cZ cG m0 a x b0 b0 hg hc hP) (KW_puK D cI cJ cZ cG) hKW (cwV 2 hts gX2_ownTakers_X2_takersIn rfl rfl rfl (by decide +kernel) ⟨Nat.le_of_ble_eq_true rfl, Nat.le_of_ble_eq_true rfl⟩) (va_recv hK hP (ci := 2) (q0 := 0) rfl rfl) rfl hl.1 rfl (Nat.le_of_ble_eq_true rfl) dX2_ownTakers_3 ⟨Nat.zero_le _, Nat.zero_le _⟩ ?_
  refine W.eq (g2 := F0 m 6 ls [.int (f_X2_takersIn x b0 b0)]) rfl ?_
  exact W.iret (v := f_X2_takersIn x b0 b0) hx hb hr (fun t ht hW => ⟨congrArg (fun z => Outcome.returned (some (Value.int z))) (rfl), ht⟩) (fun _ h => nomatch h) dX2_ownTakers_6
theorem nlt12 {i : Nat} (h : ¬ (12 : Int32) ≤ nI i) (hi : i ≤ 12) : i < 12 := by
  rcases Nat.lt_or_ge i 12 with z | z
  · exact z
  · exact absurd (by rw [show i = 12 by omega]; decide) h
def lp_X2_takers (x : MS) (b0 : Int32) : Nat → Int32 → Nat → Int32
  | 0, _, _ => 0
  | k + 1, n, i => (if (12 : Int32) ≤ (nI i) then n else (if ((mT x) (nI i).toNatClampNeg) = 0 then lp_X2_takers x b0 k n (i + 1) else lp_X2_takers x b0 k (n + (f_X2_takersIn x (nI i) b0)) (i + 1)))
def f_X2_takers (x : MS) (b0 : Int32) : Int32 := lp_X2_takers x b0 13 (0 : Int32) 0
set_option maxHeartbeats 4000000 in
set_option maxRecDepth 100000 in
theorem c_X2_takers (l : Launch) (H0 : Heap) (D : va_G) (cI cJ cZ cG : ClassId) (m0 : Nat) (a : Nat → Nat) (x : MS) (b0 : Int32) (hI : MI x) (hP : va_P D vwCl (MW cI cJ cZ m0 a x) H0) : pu l yX2_takers wsX2_takers ({ frames := 1, cells := 0, slots := 0, locals := 24 }) [.ref m0, .int b0] (KW D cI cJ cZ cG) H0 (some (.int (f_X2_takers x b0))) := by
  refine Met.ofW (cc := cX2_takers) (maxL := 4) (ret := (some .int)) (by decide) rfl ?_
  intro p e s m args below meth c s₁ B hml hv
  obtain ⟨rfl, hH, hKW⟩ := hv
  have hx := B.exec
  have hb := B.bytes
  have hr := B.returns
  have hts := atoms_spec (ws := wsX2_takers) B.pre
  have hown : s.vm.findClass RX2 = some m.cls := findClass_of_methodNamed B.named
  have hlocks := B.notSynchronized
  subst hH
  have hl := lv_entry ([.ref m0, .int b0]) (n := 4) (Nat.le_of_ble_eq_true rfl)
  rw [lg_entry_eq]
  generalize (lg_sl ([.ref m0, .int b0]) ++ List.replicate (4 - (lg_sl ([.ref m0, .int b0])).length) Slot.unset).toArray = ls at hl ⊢
  have hl : lv_has ls 4 [(0, .ref m0), (1, .int b0)] := hl
  have hK := hKW.1
  have hinX2 : ∀ w ∈ u_ws RX2 TX2 14, w ∈ wsX2_takers := by decide +kernel
  have hP : va_P D vwCl [(m0, .inr (2, [.int (mth x), .ref (a 1), .ref (a 2), .ref (a 3), .ref (a 4), .ref (a 5), .ref (a 6), .ref (a 7), .ref (a 8), .ref (a 9), .ref (a 10), .ref (a 11), .ref (a 12), .ref (a 13)])), ((a 1), .inl (cZ, 12, .inl (mT x))), ((a 2), .inl (cI, 12, .inl (mK x))), ((a 3), .inl (cJ, 12, .inr (.inl (mV x)))), ((a 4), .inl (cI, 12, .inl (mS x))), ((a 5), .inl (cI, 12, .inl (mR x))), ((a 6), .inl (cI, 12, .inl (mW x))), ((a 7), .inl (cZ, 12, .inl (mM x))), ((a 8), .inl (cJ, 12, .inr (.inl (mH x)))), ((a 9), .inl (cJ, 12, .inr (.inl (mL x)))), ((a 10), .inl (cI, 96, .inl (mO x))), ((a 11), .inl (cI, 96, .inl (mP x))), ((a 12), .inl (cJ, 96, .inr (.inl (mB x)))), ((a 13), .inl (cI, 96, .inl (mG x)))] s.heap := hP
  refine lv_iconst (v := 0) hx hb dX2_takers_0 (by decide) ?_
  refine lv_istore_n (lv' := [(2, .int (0 : Int32)), (0, .ref m0), (1, .int b0)]) hx hb dX2_takers_1 rfl hl (by decide) rfl (fun ls hl => ?_)
  refine lv_iconst (v := 0) hx hb dX2_takers_2 (by decide) ?_
  refine lv_istore_n (lv' := [(3, .int (0 : Int32)), (2, .int (0 : Int32)), (0, .ref m0), (1, .int b0)]) hx hb dX2_takers_3 rfl hl (by decide) rfl (fun ls hl => ?_)
  have hloop : ∀ (k i : Nat) (n : Int32), i ≤ 12 → 13 ≤ i + k → lp_X2_takers x b0 k n i = f_X2_takers x b0 → ∀ ls : Array Slot, lv_has ls 4 [(3, .int (nI i)), (2, .int n), (0, .ref m0), (1, .int b0)] → W p l e (headSpec wsX2_takers { frames := 1, cells := 0, slots := 0, locals := 24 }).room s m [Value.ref m0, Value.int b0].toArray below meth c s.heap [] 0 0 (MQ below (fun _ _ o t => o = .returned (some (.int (f_X2_takers x b0))) ∧ t.heap = s.heap) [Value.ref m0, Value.int b0].toArray s 0 0 (fun _ => False)) (F0 m 4 ls []) := by
    intro k
    induction k with
    | zero => intro i n h1 h2; omega
    | succ k ih =>
      intro i n hi hk hf ls hl
      refine lv_iload_n hx hb dX2_takers_4 rfl (lv_at hl 0 rfl) ?_
      refine lv_bipush (v := 12) hx hb dX2_takers_5 (by decide) ?_
      refine lv_icmp_ge (tgt := 34) hx hb dX2_takers_7 (by decide) (fun c_1 => ?_) (fun c_1 => ?_)
      · refine lv_iload_n hx hb dX2_takers_34 rfl (lv_at hl 1 rfl) ?_
        exact W.iret (v := n) hx hb hr (fun t ht hW => ⟨congrArg (fun z => Outcome.returned (some (Value.int z))) (by rw [← hf, lp_X2_takers, if_pos c_1]), ht⟩) (fun _ h => nomatch h) dX2_takers_35
      · refine lv_aload_n hx hb dX2_takers_10 rfl (lv_at hl 2 rfl) ?_
        refine va_get (D := D) (ci := 2) (v := .ref (a 1)) (C := RX2) (T := TX2) (N := 14) hx hb hts hinX2 hown hK hP 0 rfl rfl 1 (by decide) (hts (.fieldLink RX2 7 "GaugeBoardModel" "there" "[Z") (by decide +kernel)) (fun _ h9 => h9) rfl dX2_takers_11 ?_
        refine lv_iload_n hx hb dX2_takers_14 rfl (lv_at hl 0 rfl) ?_
        refine va_zald hx hb hK hP 1 2 rfl rfl (vp_in_nI (nlt12 c_1 (by omega)) (by decide)) dX2_takers_15 ?_
        refine lv_if_eq (tgt := 28) hx hb dX2_takers_16 (by decide) (fun c_2 => ?_) (fun c_2 => ?_)
        · refine lv_iinc (v := (nI i) + 1) (lv' := [(3, .int ((nI i) + 1)), (2, .int n), (0, .ref m0), (1, .int b0)]) hx hb dX2_takers_28 hl (k := 0) rfl rfl (by decide) rfl (fun ls hl => ?_)
          refine lv_goto (tgt := 4) hx hb dX2_takers_31 (by decide) ?_
          have hl := lv_sub hl [0, 1, 2, 3] rfl
          rw [nI_1] at hl
          exact ih (i + 1) n (nlt12 c_1 (by omega)) (by omega) (by rw [← hf, lp_X2_takers, if_neg c_1, if_pos c_2]) ls hl
        · refine lv_iload_n hx hb dX2_takers_19 rfl (lv_at hl 1 rfl) ?_
          refine lv_aload_n hx hb dX2_takers_20 rfl (lv_at hl 2 rfl) ?_
          refine lv_iload_n hx hb dX2_takers_21 rfl (lv_at hl 0 rfl) ?_
          refine lv_iload_n hx hb dX2_takers_22 rfl (lv_at hl 3 rfl) ?_
          refine pu_V (As := [.int (nI i), .int b0]) (rest := [.int n]) ⟨hx, hb, hml, hown, hts⟩ (c_X2_takersIn l s.heap D cI cJ cZ cG m0 a x (nI i) b0 (vp_in_nI (nlt12 c_1 (by omega)) (by decide)) (hI.cnt (vp_in_nI (nlt12 c_1 (by omega)) (by decide))) hP) (KW_puK D cI cJ cZ cG) hKW (cwV 2 hts gX2_takers_X2_takersIn rfl rfl rfl (by decide +kernel) ⟨Nat.le_of_ble_eq_true rfl, Nat.le_of_ble_eq_true rfl⟩) (va_recv hK hP (ci := 2) (q0 := 0) rfl rfl) rfl hl.1 rfl (Nat.le_of_ble_eq_true rfl) dX2_takers_23 ⟨Nat.zero_le _, Nat.zero_le _⟩ ?_
          refine W.eq (g2 := F0 m 26 ls [.int (f_X2_takersIn x (nI i) b0), .int n]) rfl ?_
          refine lv_iadd hx hb dX2_takers_26 ?_
          refine lv_istore_n (lv' := [(2, .int (n + (f_X2_takersIn x (nI i) b0))), (3, .int (nI i)), (0, .ref m0), (1, .int b0)]) hx hb dX2_takers_27 rfl hl (by decide) rfl (fun ls hl => ?_)
          refine lv_iinc (v := (nI i) + 1) (lv' := [(3, .int ((nI i) + 1)), (2, .int (n + (f_X2_takersIn x (nI i) b0))), (0, .ref m0), (1, .int b0)]) hx hb dX2_takers_28 hl (k := 1) rfl rfl (by decide) rfl (fun ls hl => ?_)
          refine lv_goto (tgt := 4) hx hb dX2_takers_31 (by decide) ?_
          have hl := lv_sub hl [0, 1, 2, 3] rfl
          rw [nI_1] at hl
          exact ih (i + 1) (n + (f_X2_takersIn x (nI i) b0)) (nlt12 c_1 (by omega)) (by omega) (by rw [← hf, lp_X2_takers, if_neg c_1, if_neg c_2]) ls hl
  exact hloop 13 0 (0 : Int32) (Nat.zero_le _) (Nat.le_refl _) (rfl) ls (lv_sub hl [0, 1, 2, 3] rfl)
def lp_X2_gauges (x : MS)  : Nat → Int32 → Nat → Int32 × MS
  | 0, _, _ => (0, x)
  | k + 1, n, i => (if (12 : Int32) ≤ (nI i) then (n, ((0 : Int32), mT x, mK x, mV x, mS x, mR x, mW x, mM x, mH x, mL x, mO x, mP x, mB x, mG x)) else (if ((mT x) (nI i).toNatClampNeg) = 0 then lp_X2_gauges x  k n (i + 1) else lp_X2_gauges x  k (n + 1) (i + 1)))
def F_X2_gauges (x : MS)  : Int32 × MS := lp_X2_gauges x  13 (0 : Int32) 0
set_option maxHeartbeats 4000000 in
set_option maxRecDepth 100000 in
theorem c_X2_gauges (l : Launch) (H0 : Heap) (D : va_G) (cI cJ cZ cG : ClassId) (m0 : Nat) (a : Nat → Nat) (x : MS)   (hP : va_P D vwCl (MW cI cJ cZ m0 a x) H0) (hD0 : va_D (fun _ => True) (MW cI cJ cZ m0 a x)) : wr l yX2_gauges wsX2_gauges ({ frames := 0, cells := 0, slots := 0, locals := 0 }) [.ref m0] (KW D cI cJ cZ cG) H0 (some (.int (F_X2_gauges x ).1)) D (MW cI cJ cZ m0 a x) (fun w => w = MW cI cJ cZ m0 a (F_X2_gauges x ).2) 0 0 := by
  refine Met.ofW (cc := cX2_gauges) (maxL := 3) (ret := (some .int)) (by decide) rfl ?_
  intro p e s m args below meth c s₁ B hml hv
  obtain ⟨rfl, hH, hKW⟩ := hv
  have hx := B.exec
  have hb := B.bytes
  have hr := B.returns
  have hts := atoms_spec (ws := wsX2_gauges) B.pre
  have hown : s.vm.findClass RX2 = some m.cls := findClass_of_methodNamed B.named
  have hlocks := B.notSynchronized
  subst hH
  have hl := lv_entry ([.ref m0]) (n := 3) (Nat.le_of_ble_eq_true rfl)
  rw [lg_entry_eq]
  generalize (lg_sl ([.ref m0]) ++ List.replicate (3 - (lg_sl ([.ref m0])).length) Slot.unset).toArray = ls at hl ⊢
  have hl : lv_has ls 3 [(0, .ref m0)] := hl
  have hK := hKW.1
  have hinX2 : ∀ w ∈ u_ws RX2 TX2 14, w ∈ wsX2_gauges := by decide +kernel
  have hD := hD0.self (sz := s.heap.size)
  generalize hAe : va_A (MW cI cJ cZ m0 a x) s.heap.size = A at hD ⊢
  have hA : ∀ q : Nat, s.heap.size ≤ q → A q := fun q h => by rw [← hAe]; exact Or.inr h
  have hS : va_S A s.heap s.heap [] := va_S.rf
  have hP : va_P D vwCl [(m0, .inr (2, [.int (mth x), .ref (a 1), .ref (a 2), .ref (a 3), .ref (a 4), .ref (a 5), .ref (a 6), .ref (a 7), .ref (a 8), .ref (a 9), .ref (a 10), .ref (a 11), .ref (a 12), .ref (a 13)])), ((a 1), .inl (cZ, 12, .inl (mT x))), ((a 2), .inl (cI, 12, .inl (mK x))), ((a 3), .inl (cJ, 12, .inr (.inl (mV x)))), ((a 4), .inl (cI, 12, .inl (mS x))), ((a 5), .inl (cI, 12, .inl (mR x))), ((a 6), .inl (cI, 12, .inl (mW x))), ((a 7), .inl (cZ, 12, .inl (mM x))), ((a 8), .inl (cJ, 12, .inr (.inl (mH x)))), ((a 9), .inl (cJ, 12, .inr (.inl (mL x)))), ((a 10), .inl (cI, 96, .inl (mO x))), ((a 11), .inl (cI, 96, .inl (mP x))), ((a 12), .inl (cJ, 96, .inr (.inl (mB x)))), ((a 13), .inl (cI, 96, .inl (mG x)))] s.heap := hP
  have hD : va_D A [(m0, .inr (2, [.int (mth x), .ref (a 1), .ref (a 2), .ref (a 3), .ref (a 4), .ref (a 5), .ref (a 6), .ref (a 7), .ref (a 8), .ref (a 9), .ref (a 10), .ref (a 11), .ref (a 12), .ref (a 13)])), ((a 1), .inl (cZ, 12, .inl (mT x))), ((a 2), .inl (cI, 12, .inl (mK x))), ((a 3), .inl (cJ, 12, .inr (.inl (mV x)))), ((a 4), .inl (cI, 12, .inl (mS x))), ((a 5), .inl (cI, 12, .inl (mR x))), ((a 6), .inl (cI, 12, .inl (mW x))), ((a 7), .inl (cZ, 12, .inl (mM x))), ((a 8), .inl (cJ, 12, .inr (.inl (mH x)))), ((a 9), .inl (cJ, 12, .inr (.inl (mL x)))), ((a 10), .inl (cI, 96, .inl (mO x))), ((a 11), .inl (cI, 96, .inl (mP x))), ((a 12), .inl (cJ, 96, .inr (.inl (mB x)))), ((a 13), .inl (cI, 96, .inl (mG x)))] := hD
  refine lv_aload_n hx hb dX2_gauges_0 rfl (lv_at hl 0 rfl) ?_
  refine lv_iconst (v := 0) hx hb dX2_gauges_1 (by decide) ?_
  refine va_put (D := D) (ci := 2) (v := .int (0 : Int32)) (ty := .int) (C := RX2) (T := TX2) (N := 14) hx hb hts hinX2 tyX2 tyX2_ok nmX2 hown hK hP hD hS 0 rfl rfl 0 (by decide) (hts (.fieldLink RX2 51 "GaugeBoardModel" "thrown" "I") (by decide +kernel)) (fun _ h9 => h9) rfl (by decide +kernel) rfl rfl (Nat.le_of_ble_eq_true rfl) dX2_gauges_2 (fun H locs hP hD hS => ?_)
  have hP : va_P D vwCl [(m0, .inr (2, [.int (0 : Int32), .ref (a 1), .ref (a 2), .ref (a 3), .ref (a 4), .ref (a 5), .ref (a 6), .ref (a 7), .ref (a 8), .ref (a 9), .ref (a 10), .ref (a 11), .ref (a 12), .ref (a 13)])), ((a 1), .inl (cZ, 12, .inl (mT x))), ((a 2), .inl (cI, 12, .inl (mK x))), ((a 3), .inl (cJ, 12, .inr (.inl (mV x)))), ((a 4), .inl (cI, 12, .inl (mS x))), ((a 5), .inl (cI, 12, .inl (mR x))), ((a 6), .inl (cI, 12, .inl (mW x))), ((a 7), .inl (cZ, 12, .inl (mM x))), ((a 8), .inl (cJ, 12, .inr (.inl (mH x)))), ((a 9), .inl (cJ, 12, .inr (.inl (mL x)))), ((a 10), .inl (cI, 96, .inl (mO x))), ((a 11), .inl (cI, 96, .inl (mP x))), ((a 12), .inl (cJ, 96, .inr (.inl (mB x)))), ((a 13), .inl (cI, 96, .inl (mG x)))] H := hP
  have hD : va_D A [(m0, .inr (2, [.int (0 : Int32), .ref (a 1), .ref (a 2), .ref (a 3), .ref (a 4), .ref (a 5), .ref (a 6), .ref (a 7), .ref (a 8), .ref (a 9), .ref (a 10), .ref (a 11), .ref (a 12), .ref (a 13)])), ((a 1), .inl (cZ, 12, .inl (mT x))), ((a 2), .inl (cI, 12, .inl (mK x))), ((a 3), .inl (cJ, 12, .inr (.inl (mV x)))), ((a 4), .inl (cI, 12, .inl (mS x))), ((a 5), .inl (cI, 12, .inl (mR x))), ((a 6), .inl (cI, 12, .inl (mW x))), ((a 7), .inl (cZ, 12, .inl (mM x))), ((a 8), .inl (cJ, 12, .inr (.inl (mH x)))), ((a 9), .inl (cJ, 12, .inr (.inl (mL x)))), ((a 10), .inl (cI, 96, .inl (mO x))), ((a 11), .inl (cI, 96, .inl (mP x))), ((a 12), .inl (cJ, 96, .inr (.inl (mB x)))), ((a 13), .inl (cI, 96, .inl (mG x)))] := hD
  refine lv_iconst (v := 0) hx hb dX2_gauges_5 (by decide) ?_
  refine lv_istore_n (lv' := [(1, .int (0 : Int32)), (0, .ref m0)]) hx hb dX2_gauges_6 rfl hl (by decide) rfl (fun ls hl => ?_)
  refine lv_iconst (v := 0) hx hb dX2_gauges_7 (by decide) ?_
  refine lv_istore_n (lv' := [(2, .int (0 : Int32)), (1, .int (0 : Int32)), (0, .ref m0)]) hx hb dX2_gauges_8 rfl hl (by decide) rfl (fun ls hl => ?_)
  have hloop : ∀ (k i : Nat) (n : Int32), i ≤ 12 → 13 ≤ i + k → lp_X2_gauges x  k n i = F_X2_gauges x  → ∀ ls : Array Slot, lv_has ls 3 [(2, .int (nI i)), (1, .int n), (0, .ref m0)] → W p l e (headSpec wsX2_gauges { frames := 0, cells := 0, slots := 0, locals := 0 }).room s m [Value.ref m0].toArray below meth c H locs 0 0 (MQ below (fun _ _ o t => o = .returned (some (.int (F_X2_gauges x ).1)) ∧ ∃ w1, w1 = MW cI cJ cZ m0 a (F_X2_gauges x ).2 ∧ va_P D vwCl w1 t.heap ∧ va_D A w1 ∧ s.heap.size ≤ t.heap.size ∧ ∀ q : Nat, q < s.heap.size → ¬ A q → t.heap[q]? = s.heap[q]?) [Value.ref m0].toArray s 0 0 A) (F0 m 9 ls []) := by
    intro k
    induction k with
    | zero => intro i n h1 h2; omega
    | succ k ih =>
      intro i n hi hk hf ls hl
      refine lv_iload_n hx hb dX2_gauges_9 rfl (lv_at hl 0 rfl) ?_
      refine lv_bipush (v := 12) hx hb dX2_gauges_10 (by decide) ?_
      refine lv_icmp_ge (tgt := 33) hx hb dX2_gauges_12 (by decide) (fun c_1 => ?_) (fun c_1 => ?_)
      · refine lv_iload_n hx hb dX2_gauges_33 rfl (lv_at hl 1 rfl) ?_
        have hF : F_X2_gauges x  = (n, ((0 : Int32), mT x, mK x, mV x, mS x, mR x, mW x, mM x, mH x, mL x, mO x, mP x, mB x, mG x)) := by
          rw [← hf, lp_X2_gauges, if_pos c_1]
        exact W.iret (v := n) hx hb hr (fun t ht hW => ⟨by rw [hF], MW cI cJ cZ m0 a ((0 : Int32), mT x, mK x, mV x, mS x, mR x, mW x, mM x, mH x, mL x, mO x, mP x, mB x, mG x), by rw [hF], by rw [ht]; exact hP, hD, (hS.F ht).1, (hS.F ht).2⟩) hS.2.2 dX2_gauges_34
      · refine lv_aload_n hx hb dX2_gauges_15 rfl (lv_at hl 2 rfl) ?_
        refine va_get (D := D) (ci := 2) (v := .ref (a 1)) (C := RX2) (T := TX2) (N := 14) hx hb hts hinX2 hown hK hP 0 rfl rfl 1 (by decide) (hts (.fieldLink RX2 7 "GaugeBoardModel" "there" "[Z") (by decide +kernel)) (fun _ h9 => h9) rfl dX2_gauges_16 ?_
        refine lv_iload_n hx hb dX2_gauges_19 rfl (lv_at hl 0 rfl) ?_
        refine va_zald hx hb hK hP 1 2 rfl rfl (vp_in_nI (nlt12 c_1 (by omega)) (by decide)) dX2_gauges_20 ?_
        refine lv_if_eq (tgt := 27) hx hb dX2_gauges_21 (by decide) (fun c_2 => ?_) (fun c_2 => ?_)
        · refine lv_iinc (v := (nI i) + 1) (lv' := [(2, .int ((nI i) + 1)), (1, .int n), (0, .ref m0)]) hx hb dX2_gauges_27 hl (k := 0) rfl rfl (by decide) rfl (fun ls hl => ?_)
          refine lv_goto (tgt := 9) hx hb dX2_gauges_30 (by decide) ?_
          have hl := lv_sub hl [0, 1, 2] rfl
          rw [nI_1] at hl
          exact ih (i + 1) n (nlt12 c_1 (by omega)) (by omega) (by rw [← hf, lp_X2_gauges, if_neg c_1, if_pos c_2]) ls hl
        · refine lv_iinc (v := n + 1) (lv' := [(1, .int (n + 1)), (2, .int (nI i)), (0, .ref m0)]) hx hb dX2_gauges_24 hl (k := 1) rfl rfl (by decide) rfl (fun ls hl => ?_)
          refine lv_iinc (v := (nI i) + 1) (lv' := [(2, .int ((nI i) + 1)), (1, .int (n + 1)), (0, .ref m0)]) hx hb dX2_gauges_27 hl (k := 1) rfl rfl (by decide) rfl (fun ls hl => ?_)
          refine lv_goto (tgt := 9) hx hb dX2_gauges_30 (by decide) ?_
          have hl := lv_sub hl [0, 1, 2] rfl
          rw [nI_1] at hl
          exact ih (i + 1) (n + 1) (nlt12 c_1 (by omega)) (by omega) (by rw [← hf, lp_X2_gauges, if_neg c_1, if_neg c_2]) ls hl
  exact hloop 13 0 (0 : Int32) (Nat.zero_le _) (Nat.le_refl _) (rfl) ls (lv_sub hl [0, 1, 2] rfl)
def lp_X2_rank (x : MS) (b0 : Int32) : Nat → Int32 → Nat → Int32 × MS
  | 0, _, _ => (0, x)
  | k + 1, n, i => (if (12 : Int32) ≤ (nI i) then (n, ((0 : Int32), mT x, mK x, mV x, mS x, mR x, mW x, mM x, mH x, mL x, mO x, mP x, mB x, mG x)) else (if ((mT x) (nI i).toNatClampNeg) = 0 then lp_X2_rank x b0 k n (i + 1) else (if ((mK x) (nI i).toNatClampNeg) = ((mK x) b0.toNatClampNeg) then (if (f_X2_isAbove ((mV x) (nI i).toNatClampNeg) ((mV x) b0.toNatClampNeg) ((mK x) b0.toNatClampNeg)) = 0 then lp_X2_rank x b0 k (n + 1) (i + 1) else lp_X2_rank x b0 k n (i + 1)) else lp_X2_rank x b0 k n (i + 1))))
def F_X2_rank (x : MS) (b0 : Int32) : Int32 × MS := (if (f_X2_isThere x b0) = 0 then ((0 : Int32), ((1 : Int32), mT x, mK x, mV x, mS x, mR x, mW x, mM x, mH x, mL x, mO x, mP x, mB x, mG x)) else lp_X2_rank x b0 13 (0 : Int32) 0)
set_option maxHeartbeats 4000000 in
set_option maxRecDepth 100000 in
theorem c_X2_rank (l : Launch) (H0 : Heap) (D : va_G) (cI cJ cZ cG : ClassId) (m0 : Nat) (a : Nat → Nat) (x : MS) (b0 : Int32)  (hP : va_P D vwCl (MW cI cJ cZ m0 a x) H0) (hD0 : va_D (fun _ => True) (MW cI cJ cZ m0 a x)) : wr l yX2_rank wsX2_rank ({ frames := 2, cells := 0, slots := 0, locals := 46 }) [.ref m0, .int b0] (KW D cI cJ cZ cG) H0 (some (.int (F_X2_rank x b0).1)) D (MW cI cJ cZ m0 a x) (fun w => w = MW cI cJ cZ m0 a (F_X2_rank x b0).2) 0 0 := by
  refine Met.ofW (cc := cX2_rank) (maxL := 4) (ret := (some .int)) (by decide) rfl ?_
  intro p e s m args below meth c s₁ B hml hv
  obtain ⟨rfl, hH, hKW⟩ := hv
  have hx := B.exec
  have hb := B.bytes
  have hr := B.returns
  have hts := atoms_spec (ws := wsX2_rank) B.pre
  have hown : s.vm.findClass RX2 = some m.cls := findClass_of_methodNamed B.named
  have hlocks := B.notSynchronized
  subst hH
  have hl := lv_entry ([.ref m0, .int b0]) (n := 4) (Nat.le_of_ble_eq_true rfl)
  rw [lg_entry_eq]
  generalize (lg_sl ([.ref m0, .int b0]) ++ List.replicate (4 - (lg_sl ([.ref m0, .int b0])).length) Slot.unset).toArray = ls at hl ⊢
  have hl : lv_has ls 4 [(0, .ref m0), (1, .int b0)] := hl
  have hK := hKW.1
  have hinX2 : ∀ w ∈ u_ws RX2 TX2 14, w ∈ wsX2_rank := by decide +kernel
  have hD := hD0.self (sz := s.heap.size)
  generalize hAe : va_A (MW cI cJ cZ m0 a x) s.heap.size = A at hD ⊢
  have hA : ∀ q : Nat, s.heap.size ≤ q → A q := fun q h => by rw [← hAe]; exact Or.inr h
  have hS : va_S A s.heap s.heap [] := va_S.rf
  have hP : va_P D vwCl [(m0, .inr (2, [.int (mth x), .ref (a 1), .ref (a 2), .ref (a 3), .ref (a 4), .ref (a 5), .ref (a 6), .ref (a 7), .ref (a 8), .ref (a 9), .ref (a 10), .ref (a 11), .ref (a 12), .ref (a 13)])), ((a 1), .inl (cZ, 12, .inl (mT x))), ((a 2), .inl (cI, 12, .inl (mK x))), ((a 3), .inl (cJ, 12, .inr (.inl (mV x)))), ((a 4), .inl (cI, 12, .inl (mS x))), ((a 5), .inl (cI, 12, .inl (mR x))), ((a 6), .inl (cI, 12, .inl (mW x))), ((a 7), .inl (cZ, 12, .inl (mM x))), ((a 8), .inl (cJ, 12, .inr (.inl (mH x)))), ((a 9), .inl (cJ, 12, .inr (.inl (mL x)))), ((a 10), .inl (cI, 96, .inl (mO x))), ((a 11), .inl (cI, 96, .inl (mP x))), ((a 12), .inl (cJ, 96, .inr (.inl (mB x)))), ((a 13), .inl (cI, 96, .inl (mG x)))] s.heap := hP
  have hD : va_D A [(m0, .inr (2, [.int (mth x), .ref (a 1), .ref (a 2), .ref (a 3), .ref (a 4), .ref (a 5), .ref (a 6), .ref (a 7), .ref (a 8), .ref (a 9), .ref (a 10), .ref (a 11), .ref (a 12), .ref (a 13)])), ((a 1), .inl (cZ, 12, .inl (mT x))), ((a 2), .inl (cI, 12, .inl (mK x))), ((a 3), .inl (cJ, 12, .inr (.inl (mV x)))), ((a 4), .inl (cI, 12, .inl (mS x))), ((a 5), .inl (cI, 12, .inl (mR x))), ((a 6), .inl (cI, 12, .inl (mW x))), ((a 7), .inl (cZ, 12, .inl (mM x))), ((a 8), .inl (cJ, 12, .inr (.inl (mH x)))), ((a 9), .inl (cJ, 12, .inr (.inl (mL x)))), ((a 10), .inl (cI, 96, .inl (mO x))), ((a 11), .inl (cI, 96, .inl (mP x))), ((a 12), .inl (cJ, 96, .inr (.inl (mB x)))), ((a 13), .inl (cI, 96, .inl (mG x)))] := hD
  refine lv_aload_n hx hb dX2_rank_0 rfl (lv_at hl 0 rfl) ?_
  refine lv_aload_n hx hb dX2_rank_1 rfl (lv_at hl 0 rfl) ?_
  refine lv_iload_n hx hb dX2_rank_2 rfl (lv_at hl 1 rfl) ?_
  refine pu_V (As := [.int b0]) (rest := [.ref m0]) ⟨hx, hb, hml, hown, hts⟩ (c_X2_isThere l s.heap D cI cJ cZ cG m0 a x b0 hP) (KW_puK D cI cJ cZ cG) hKW (cwV 1 hts gX2_rank_X2_isThere rfl rfl rfl (by decide +kernel) ⟨Nat.le_of_ble_eq_true rfl, Nat.le_of_ble_eq_true rfl⟩) (va_recv hK hP (ci := 2) (q0 := 0) rfl rfl) rfl hl.1 rfl (Nat.le_of_ble_eq_true rfl) dX2_rank_3 ⟨Nat.zero_le _, Nat.zero_le _⟩ ?_
  refine W.eq (g2 := F0 m 6 ls [.int (f_X2_isThere x b0), .ref m0]) rfl ?_
  refine lv_if_eq (tgt := 13) hx hb dX2_rank_6 (by decide) (fun c_1 => ?_) (fun c_1 => ?_)
  · refine lv_iconst (v := 1) hx hb dX2_rank_13 (by decide) ?_
    refine va_put (D := D) (ci := 2) (v := .int (1 : Int32)) (ty := .int) (C := RX2) (T := TX2) (N := 14) hx hb hts hinX2 tyX2 tyX2_ok nmX2 hown hK hP hD hS 0 rfl rfl 0 (by decide) (hts (.fieldLink RX2 51 "GaugeBoardModel" "thrown" "I") (by decide +kernel)) (fun _ h9 => h9) rfl (by decide +kernel) rfl rfl (Nat.le_of_ble_eq_true rfl) dX2_rank_14 (fun H locs hP hD hS => ?_)
    have hP : va_P D vwCl [(m0, .inr (2, [.int (1 : Int32), .ref (a 1), .ref (a 2), .ref (a 3), .ref (a 4), .ref (a 5), .ref (a 6), .ref (a 7), .ref (a 8), .ref (a 9), .ref (a 10), .ref (a 11), .ref (a 12), .ref (a 13)])), ((a 1), .inl (cZ, 12, .inl (mT x))), ((a 2), .inl (cI, 12, .inl (mK x))), ((a 3), .inl (cJ, 12, .inr (.inl (mV x)))), ((a 4), .inl (cI, 12, .inl (mS x))), ((a 5), .inl (cI, 12, .inl (mR x))), ((a 6), .inl (cI, 12, .inl (mW x))), ((a 7), .inl (cZ, 12, .inl (mM x))), ((a 8), .inl (cJ, 12, .inr (.inl (mH x)))), ((a 9), .inl (cJ, 12, .inr (.inl (mL x)))), ((a 10), .inl (cI, 96, .inl (mO x))), ((a 11), .inl (cI, 96, .inl (mP x))), ((a 12), .inl (cJ, 96, .inr (.inl (mB x)))), ((a 13), .inl (cI, 96, .inl (mG x)))] H := hP
    have hD : va_D A [(m0, .inr (2, [.int (1 : Int32), .ref (a 1), .ref (a 2), .ref (a 3), .ref (a 4), .ref (a 5), .ref (a 6), .ref (a 7), .ref (a 8), .ref (a 9), .ref (a 10), .ref (a 11), .ref (a 12), .ref (a 13)])), ((a 1), .inl (cZ, 12, .inl (mT x))), ((a 2), .inl (cI, 12, .inl (mK x))), ((a 3), .inl (cJ, 12, .inr (.inl (mV x)))), ((a 4), .inl (cI, 12, .inl (mS x))), ((a 5), .inl (cI, 12, .inl (mR x))), ((a 6), .inl (cI, 12, .inl (mW x))), ((a 7), .inl (cZ, 12, .inl (mM x))), ((a 8), .inl (cJ, 12, .inr (.inl (mH x)))), ((a 9), .inl (cJ, 12, .inr (.inl (mL x)))), ((a 10), .inl (cI, 96, .inl (mO x))), ((a 11), .inl (cI, 96, .inl (mP x))), ((a 12), .inl (cJ, 96, .inr (.inl (mB x)))), ((a 13), .inl (cI, 96, .inl (mG x)))] := hD
    refine lv_aload_n hx hb dX2_rank_17 rfl (lv_at hl 0 rfl) ?_
    refine va_get (D := D) (ci := 2) (v := .int (1 : Int32)) (C := RX2) (T := TX2) (N := 14) hx hb hts hinX2 hown hK hP 0 rfl rfl 0 (by decide) (hts (.fieldLink RX2 51 "GaugeBoardModel" "thrown" "I") (by decide +kernel)) (fun _ h9 => h9) rfl dX2_rank_18 ?_
    refine lv_if_le (tgt := 26) hx hb dX2_rank_21 (by decide) (fun z_9 => absurd z_9 (by decide)) (fun z_9 => ?_)
    refine lv_iconst (v := 0) hx hb dX2_rank_24 (by decide) ?_
    have hF : F_X2_rank x b0 = ((0 : Int32), ((1 : Int32), mT x, mK x, mV x, mS x, mR x, mW x, mM x, mH x, mL x, mO x, mP x, mB x, mG x)) := by
      unfold F_X2_rank; rw [if_pos c_1]
    exact W.iret (v := (0 : Int32)) hx hb hr (fun t ht hW => ⟨by rw [hF], MW cI cJ cZ m0 a ((1 : Int32), mT x, mK x, mV x, mS x, mR x, mW x, mM x, mH x, mL x, mO x, mP x, mB x, mG x), by rw [hF], by rw [ht]; exact hP, hD, (hS.F ht).1, (hS.F ht).2⟩) hS.2.2 dX2_rank_25
  · refine lv_iconst (v := 0) hx hb dX2_rank_9 (by decide) ?_
    refine lv_goto (tgt := 14) hx hb dX2_rank_10 (by decide) ?_
    refine va_put (D := D) (ci := 2) (v := .int (0 : Int32)) (ty := .int) (C := RX2) (T := TX2) (N := 14) hx hb hts hinX2 tyX2 tyX2_ok nmX2 hown hK hP hD hS 0 rfl rfl 0 (by decide) (hts (.fieldLink RX2 51 "GaugeBoardModel" "thrown" "I") (by decide +kernel)) (fun _ h9 => h9) rfl (by decide +kernel) rfl rfl (Nat.le_of_ble_eq_true rfl) dX2_rank_14 (fun H locs hP hD hS => ?_)
    have hP : va_P D vwCl [(m0, .inr (2, [.int (0 : Int32), .ref (a 1), .ref (a 2), .ref (a 3), .ref (a 4), .ref (a 5), .ref (a 6), .ref (a 7), .ref (a 8), .ref (a 9), .ref (a 10), .ref (a 11), .ref (a 12), .ref (a 13)])), ((a 1), .inl (cZ, 12, .inl (mT x))), ((a 2), .inl (cI, 12, .inl (mK x))), ((a 3), .inl (cJ, 12, .inr (.inl (mV x)))), ((a 4), .inl (cI, 12, .inl (mS x))), ((a 5), .inl (cI, 12, .inl (mR x))), ((a 6), .inl (cI, 12, .inl (mW x))), ((a 7), .inl (cZ, 12, .inl (mM x))), ((a 8), .inl (cJ, 12, .inr (.inl (mH x)))), ((a 9), .inl (cJ, 12, .inr (.inl (mL x)))), ((a 10), .inl (cI, 96, .inl (mO x))), ((a 11), .inl (cI, 96, .inl (mP x))), ((a 12), .inl (cJ, 96, .inr (.inl (mB x)))), ((a 13), .inl (cI, 96, .inl (mG x)))] H := hP
    have hD : va_D A [(m0, .inr (2, [.int (0 : Int32), .ref (a 1), .ref (a 2), .ref (a 3), .ref (a 4), .ref (a 5), .ref (a 6), .ref (a 7), .ref (a 8), .ref (a 9), .ref (a 10), .ref (a 11), .ref (a 12), .ref (a 13)])), ((a 1), .inl (cZ, 12, .inl (mT x))), ((a 2), .inl (cI, 12, .inl (mK x))), ((a 3), .inl (cJ, 12, .inr (.inl (mV x)))), ((a 4), .inl (cI, 12, .inl (mS x))), ((a 5), .inl (cI, 12, .inl (mR x))), ((a 6), .inl (cI, 12, .inl (mW x))), ((a 7), .inl (cZ, 12, .inl (mM x))), ((a 8), .inl (cJ, 12, .inr (.inl (mH x)))), ((a 9), .inl (cJ, 12, .inr (.inl (mL x)))), ((a 10), .inl (cI, 96, .inl (mO x))), ((a 11), .inl (cI, 96, .inl (mP x))), ((a 12), .inl (cJ, 96, .inr (.inl (mB x)))), ((a 13), .inl (cI, 96, .inl (mG x)))] := hD
    refine lv_aload_n hx hb dX2_rank_17 rfl (lv_at hl 0 rfl) ?_
    refine va_get (D := D) (ci := 2) (v := .int (0 : Int32)) (C := RX2) (T := TX2) (N := 14) hx hb hts hinX2 hown hK hP 0 rfl rfl 0 (by decide) (hts (.fieldLink RX2 51 "GaugeBoardModel" "thrown" "I") (by decide +kernel)) (fun _ h9 => h9) rfl dX2_rank_18 ?_
    refine lv_if_le (tgt := 26) hx hb dX2_rank_21 (by decide) (fun z_9 => ?_) (fun z_9 => absurd z_9 (by decide))
    refine lv_iconst (v := 0) hx hb dX2_rank_26 (by decide) ?_
    refine lv_istore_n (lv' := [(2, .int (0 : Int32)), (0, .ref m0), (1, .int b0)]) hx hb dX2_rank_27 rfl hl (by decide) rfl (fun ls hl => ?_)
    refine lv_iconst (v := 0) hx hb dX2_rank_28 (by decide) ?_
    refine lv_istore_n (lv' := [(3, .int (0 : Int32)), (2, .int (0 : Int32)), (0, .ref m0), (1, .int b0)]) hx hb dX2_rank_29 rfl hl (by decide) rfl (fun ls hl => ?_)
    have hloop : ∀ (k i : Nat) (n : Int32), i ≤ 12 → 13 ≤ i + k → lp_X2_rank x b0 k n i = F_X2_rank x b0 → ∀ ls : Array Slot, lv_has ls 4 [(3, .int (nI i)), (2, .int n), (0, .ref m0), (1, .int b0)] → W p l e (headSpec wsX2_rank { frames := 2, cells := 0, slots := 0, locals := 46 }).room s m [Value.ref m0, Value.int b0].toArray below meth c H locs 0 0 (MQ below (fun _ _ o t => o = .returned (some (.int (F_X2_rank x b0).1)) ∧ ∃ w1, w1 = MW cI cJ cZ m0 a (F_X2_rank x b0).2 ∧ va_P D vwCl w1 t.heap ∧ va_D A w1 ∧ s.heap.size ≤ t.heap.size ∧ ∀ q : Nat, q < s.heap.size → ¬ A q → t.heap[q]? = s.heap[q]?) [Value.ref m0, Value.int b0].toArray s 0 0 A) (F0 m 30 ls []) := by
      intro k
      induction k with
      | zero => intro i n h1 h2; omega
      | succ k ih =>
        intro i n hi hk hf ls hl
        refine lv_iload_n hx hb dX2_rank_30 rfl (lv_at hl 0 rfl) ?_
        refine lv_bipush (v := 12) hx hb dX2_rank_31 (by decide) ?_
        refine lv_icmp_ge (tgt := 93) hx hb dX2_rank_33 (by decide) (fun c_2 => ?_) (fun c_2 => ?_)
        · refine lv_iload_n hx hb dX2_rank_93 rfl (lv_at hl 1 rfl) ?_
          have hF : F_X2_rank x b0 = (n, ((0 : Int32), mT x, mK x, mV x, mS x, mR x, mW x, mM x, mH x, mL x, mO x, mP x, mB x, mG x)) := by
            rw [← hf, lp_X2_rank, if_pos c_2]
          exact W.iret (v := n) hx hb hr (fun t ht hW => ⟨by rw [hF], MW cI cJ cZ m0 a ((0 : Int32), mT x, mK x, mV x, mS x, mR x, mW x, mM x, mH x, mL x, mO x, mP x, mB x, mG x), by rw [hF], by rw [ht]; exact hP, hD, (hS.F ht).1, (hS.F ht).2⟩) hS.2.2 dX2_rank_94
        · refine lv_aload_n hx hb dX2_rank_36 rfl (lv_at hl 2 rfl) ?_
          refine va_get (D := D) (ci := 2) (v := .ref (a 1)) (C := RX2) (T := TX2) (N := 14) hx hb hts hinX2 hown hK hP 0 rfl rfl 1 (by decide) (hts (.fieldLink RX2 7 "GaugeBoardModel" "there" "[Z") (by decide +kernel)) (fun _ h9 => h9) rfl dX2_rank_37 ?_
          refine lv_iload_n hx hb dX2_rank_40 rfl (lv_at hl 0 rfl) ?_
          refine va_zald hx hb hK hP 1 2 rfl rfl (vp_in_nI (nlt12 c_2 (by omega)) (by decide)) dX2_rank_41 ?_
          refine lv_if_eq (tgt := 87) hx hb dX2_rank_42 (by decide) (fun c_3 => ?_) (fun c_3 => ?_)
          · refine lv_iinc (v := (nI i) + 1) (lv' := [(3, .int ((nI i) + 1)), (2, .int n), (0, .ref m0), (1, .int b0)]) hx hb dX2_rank_87 hl (k := 0) rfl rfl (by decide) rfl (fun ls hl => ?_)
            refine lv_goto (tgt := 30) hx hb dX2_rank_90 (by decide) ?_
            have hl := lv_sub hl [0, 1, 2, 3] rfl
            rw [nI_1] at hl
            exact ih (i + 1) n (nlt12 c_2 (by omega)) (by omega) (by rw [← hf, lp_X2_rank, if_neg c_2, if_pos c_3]) ls hl
          · refine lv_aload_n hx hb dX2_rank_45 rfl (lv_at hl 2 rfl) ?_
            refine va_get (D := D) (ci := 2) (v := .ref (a 2)) (C := RX2) (T := TX2) (N := 14) hx hb hts hinX2 hown hK hP 0 rfl rfl 2 (by decide) (hts (.fieldLink RX2 13 "GaugeBoardModel" "kind" "[I") (by decide +kernel)) (fun _ h9 => h9) rfl dX2_rank_46 ?_
            refine lv_iload_n hx hb dX2_rank_49 rfl (lv_at hl 0 rfl) ?_
            refine va_iald hx hb hK hP 2 0 rfl rfl (vp_in_nI (nlt12 c_2 (by omega)) (by decide)) dX2_rank_50 ?_
            refine lv_aload_n hx hb dX2_rank_51 rfl (lv_at hl 2 rfl) ?_
            refine va_get (D := D) (ci := 2) (v := .ref (a 2)) (C := RX2) (T := TX2) (N := 14) hx hb hts hinX2 hown hK hP 0 rfl rfl 2 (by decide) (hts (.fieldLink RX2 13 "GaugeBoardModel" "kind" "[I") (by decide +kernel)) (fun _ h9 => h9) rfl dX2_rank_52 ?_
            refine lv_iload_n hx hb dX2_rank_55 rfl (lv_at hl 3 rfl) ?_
            refine va_iald hx hb hK hP 2 0 rfl rfl (in_iT c_1) dX2_rank_56 ?_
            refine lv_icmp_ne (tgt := 87) hx hb dX2_rank_57 (by decide) (fun c_4 => ?_) (fun c_4 => ?_)
            · refine lv_iinc (v := (nI i) + 1) (lv' := [(3, .int ((nI i) + 1)), (2, .int n), (0, .ref m0), (1, .int b0)]) hx hb dX2_rank_87 hl (k := 0) rfl rfl (by decide) rfl (fun ls hl => ?_)
              refine lv_goto (tgt := 30) hx hb dX2_rank_90 (by decide) ?_
              have hl := lv_sub hl [0, 1, 2, 3] rfl
              rw [nI_1] at hl
              exact ih (i + 1) n (nlt12 c_2 (by omega)) (by omega) (by rw [← hf, lp_X2_rank, if_neg c_2, if_neg c_3, if_neg c_4]) ls hl
            · refine lv_aload_n hx hb dX2_rank_60 rfl (lv_at hl 2 rfl) ?_
              refine va_get (D := D) (ci := 2) (v := .ref (a 3)) (C := RX2) (T := TX2) (N := 14) hx hb hts hinX2 hown hK hP 0 rfl rfl 3 (by decide) (hts (.fieldLink RX2 17 "GaugeBoardModel" "value" "[J") (by decide +kernel)) (fun _ h9 => h9) rfl dX2_rank_61 ?_
              refine lv_iload_n hx hb dX2_rank_64 rfl (lv_at hl 0 rfl) ?_
              refine va_lald hx hb hK hP 3 1 rfl rfl (vp_in_nI (nlt12 c_2 (by omega)) (by decide)) dX2_rank_65 ?_
              refine lv_aload_n hx hb dX2_rank_66 rfl (lv_at hl 2 rfl) ?_
              refine va_get (D := D) (ci := 2) (v := .ref (a 3)) (C := RX2) (T := TX2) (N := 14) hx hb hts hinX2 hown hK hP 0 rfl rfl 3 (by decide) (hts (.fieldLink RX2 17 "GaugeBoardModel" "value" "[J") (by decide +kernel)) (fun _ h9 => h9) rfl dX2_rank_67 ?_
              refine lv_iload_n hx hb dX2_rank_70 rfl (lv_at hl 3 rfl) ?_
              refine va_lald hx hb hK hP 3 1 rfl rfl (in_iT c_1) dX2_rank_71 ?_
              refine lv_aload_n hx hb dX2_rank_72 rfl (lv_at hl 2 rfl) ?_
              refine va_get (D := D) (ci := 2) (v := .ref (a 2)) (C := RX2) (T := TX2) (N := 14) hx hb hts hinX2 hown hK hP 0 rfl rfl 2 (by decide) (hts (.fieldLink RX2 13 "GaugeBoardModel" "kind" "[I") (by decide +kernel)) (fun _ h9 => h9) rfl dX2_rank_73 ?_
              refine lv_iload_n hx hb dX2_rank_76 rfl (lv_at hl 3 rfl) ?_
              refine va_iald hx hb hK hP 2 0 rfl rfl (in_iT c_1) dX2_rank_77 ?_
              refine pu_S (As := [.long ((mV x) (nI i).toNatClampNeg), .long ((mV x) b0.toNatClampNeg), .int ((mK x) b0.toNatClampNeg)]) (rest := []) ⟨hx, hb, hml, hown, hts⟩ (c_X2_isAbove l H ((mV x) (nI i).toNatClampNeg) ((mV x) b0.toNatClampNeg) ((mK x) b0.toNatClampNeg)) puK_T trivial (va_cwS 3 hts gX2_rank_X2_isAbove rfl rfl rfl (by decide +kernel) ⟨Nat.le_of_ble_eq_true rfl, Nat.le_of_ble_eq_true rfl⟩) rfl hl.1 rfl (Nat.le_of_ble_eq_true rfl) dX2_rank_78 ⟨Nat.zero_le _, Nat.zero_le _⟩ ?_
              refine W.eq (g2 := F0 m 81 ls [.int (f_X2_isAbove ((mV x) (nI i).toNatClampNeg) ((mV x) b0.toNatClampNeg) ((mK x) b0.toNatClampNeg))]) rfl ?_
              refine lv_if_ne (tgt := 87) hx hb dX2_rank_81 (by decide) (fun c_5 => ?_) (fun c_5 => ?_)
              · refine lv_iinc (v := (nI i) + 1) (lv' := [(3, .int ((nI i) + 1)), (2, .int n), (0, .ref m0), (1, .int b0)]) hx hb dX2_rank_87 hl (k := 0) rfl rfl (by decide) rfl (fun ls hl => ?_)
                refine lv_goto (tgt := 30) hx hb dX2_rank_90 (by decide) ?_
                have hl := lv_sub hl [0, 1, 2, 3] rfl
                rw [nI_1] at hl
                exact ih (i + 1) n (nlt12 c_2 (by omega)) (by omega) (by rw [← hf, lp_X2_rank, if_neg c_2, if_neg c_3, if_pos c_4, if_neg c_5]) ls hl
              · refine lv_iinc (v := n + 1) (lv' := [(2, .int (n + 1)), (3, .int (nI i)), (0, .ref m0), (1, .int b0)]) hx hb dX2_rank_84 hl (k := 1) rfl rfl (by decide) rfl (fun ls hl => ?_)
                refine lv_iinc (v := (nI i) + 1) (lv' := [(3, .int ((nI i) + 1)), (2, .int (n + 1)), (0, .ref m0), (1, .int b0)]) hx hb dX2_rank_87 hl (k := 1) rfl rfl (by decide) rfl (fun ls hl => ?_)
                refine lv_goto (tgt := 30) hx hb dX2_rank_90 (by decide) ?_
                have hl := lv_sub hl [0, 1, 2, 3] rfl
                rw [nI_1] at hl
                exact ih (i + 1) (n + 1) (nlt12 c_2 (by omega)) (by omega) (by rw [← hf, lp_X2_rank, if_neg c_2, if_neg c_3, if_pos c_4, if_pos c_5]) ls hl
    exact hloop 13 0 (0 : Int32) (Nat.zero_le _) (Nat.le_refl _) (by unfold F_X2_rank; rw [if_neg c_1]) ls (lv_sub hl [0, 1, 2, 3] rfl)
