def F_X0_startAs (x : GS) (b0 : Int32) : GS := (gSo x, gSr x, gOp x, b0, (0 : Int32), (0 : Int64), (0 : Int32), gH x, gL x, (0 : Int32), (0 : Int32))
set_option maxHeartbeats 4000000 in
set_option maxRecDepth 100000 in
theorem c_X0_startAs (l : Launch) (H0 : Heap) (D : va_G) (cI cJ cZ cG : ClassId) (q : ga) (x : GS) (b0 : Int32)  (hP : va_P D vwCl (GZ cI cJ q x) H0) (hD0 : va_D (fun _ => True) (GZ cI cJ q x)) : wr l yX0_startAs wsX0_startAs ({ frames := 0, cells := 0, slots := 0, locals := 0 }) [.ref q.1, .int b0] (KW D cI cJ cZ cG) H0 (none) D (GZ cI cJ q x) (fun w => w = GZ cI cJ q (F_X0_startAs x b0)) 0 0 := by
  refine Met.ofW (cc := cX0_startAs) (maxL := 2) (ret := none) (by decide) rfl ?_
  intro p e s m args below meth c s₁ B hml hv
  obtain ⟨rfl, hH, hKW⟩ := hv
  have hx := B.exec
  have hb := B.bytes
  have hr := B.returns
  have hts := atoms_spec (ws := wsX0_startAs) B.pre
  have hown : s.vm.findClass RX0 = some m.cls := findClass_of_methodNamed B.named
  have hlocks := B.notSynchronized
  subst hH
  have hl := lv_entry ([.ref q.1, .int b0]) (n := 2) (Nat.le_of_ble_eq_true rfl)
  rw [lg_entry_eq]
  generalize (lg_sl ([.ref q.1, .int b0]) ++ List.replicate (2 - (lg_sl ([.ref q.1, .int b0])).length) Slot.unset).toArray = ls at hl ⊢
  have hl : lv_has ls 2 [(0, .ref q.1), (1, .int b0)] := hl
  have hK := hKW.1
  have hinX0 : ∀ w ∈ u_ws RX0 TX0 11, w ∈ wsX0_startAs := by decide +kernel
  have hD := hD0.self (sz := s.heap.size)
  generalize hAe : va_A (GZ cI cJ q x) s.heap.size = A at hD ⊢
  have hA : ∀ q : Nat, s.heap.size ≤ q → A q := fun q h => by rw [← hAe]; exact Or.inr h
  have hS : va_S A s.heap s.heap [] := va_S.rf
  have hP : va_P D vwCl [(q.1, .inr (0, [.ref q.2.1, .ref q.2.2.1, .ref q.2.2.2, .int (gK x), .int (gC x), .long (gV x), .int (gM x), .long (gH x), .long (gL x), .int (gR x), .int (gW x)])), (q.2.1, .inl (cI, 8, .inl (gSo x))), (q.2.2.1, .inl (cI, 8, .inl (gSr x))), (q.2.2.2, .inl (cJ, 8, .inr (.inl (gOp x))))] s.heap := hP
  have hD : va_D A [(q.1, .inr (0, [.ref q.2.1, .ref q.2.2.1, .ref q.2.2.2, .int (gK x), .int (gC x), .long (gV x), .int (gM x), .long (gH x), .long (gL x), .int (gR x), .int (gW x)])), (q.2.1, .inl (cI, 8, .inl (gSo x))), (q.2.2.1, .inl (cI, 8, .inl (gSr x))), (q.2.2.2, .inl (cJ, 8, .inr (.inl (gOp x))))] := hD
  refine lv_aload_n hx hb dX0_startAs_0 rfl (lv_at hl 0 rfl) ?_
  refine lv_iload_n hx hb dX0_startAs_1 rfl (lv_at hl 1 rfl) ?_
  refine va_put (D := D) (ci := 0) (v := .int b0) (ty := .int) (C := RX0) (T := TX0) (N := 11) hx hb hts hinX0 tyX0 tyX0_ok nmX0 hown hK hP hD hS 0 rfl rfl 3 (by decide) (hts (.fieldLink RX0 22 "GaugeBoard$Gauge" "kind" "I") (by decide +kernel)) (fun _ h9 => h9) rfl (by decide +kernel) rfl rfl (Nat.le_of_ble_eq_true rfl) dX0_startAs_2 (fun H locs hP hD hS => ?_)
  have hP : va_P D vwCl [(q.1, .inr (0, [.ref q.2.1, .ref q.2.2.1, .ref q.2.2.2, .int b0, .int (gC x), .long (gV x), .int (gM x), .long (gH x), .long (gL x), .int (gR x), .int (gW x)])), (q.2.1, .inl (cI, 8, .inl (gSo x))), (q.2.2.1, .inl (cI, 8, .inl (gSr x))), (q.2.2.2, .inl (cJ, 8, .inr (.inl (gOp x))))] H := hP
  have hD : va_D A [(q.1, .inr (0, [.ref q.2.1, .ref q.2.2.1, .ref q.2.2.2, .int b0, .int (gC x), .long (gV x), .int (gM x), .long (gH x), .long (gL x), .int (gR x), .int (gW x)])), (q.2.1, .inl (cI, 8, .inl (gSo x))), (q.2.2.1, .inl (cI, 8, .inl (gSr x))), (q.2.2.2, .inl (cJ, 8, .inr (.inl (gOp x))))] := hD
  refine lv_aload_n hx hb dX0_startAs_5 rfl (lv_at hl 0 rfl) ?_
  refine lv_iconst (v := 0) hx hb dX0_startAs_6 (by decide) ?_
  refine va_put (D := D) (ci := 0) (v := .int (0 : Int32)) (ty := .int) (C := RX0) (T := TX0) (N := 11) hx hb hts hinX0 tyX0 tyX0_ok nmX0 hown hK hP hD hS 0 rfl rfl 4 (by decide) (hts (.fieldLink RX0 26 "GaugeBoard$Gauge" "stepCount" "I") (by decide +kernel)) (fun _ h9 => h9) rfl (by decide +kernel) rfl rfl (Nat.le_of_ble_eq_true rfl) dX0_startAs_7 (fun H locs hP hD hS => ?_)
  have hP : va_P D vwCl [(q.1, .inr (0, [.ref q.2.1, .ref q.2.2.1, .ref q.2.2.2, .int b0, .int (0 : Int32), .long (gV x), .int (gM x), .long (gH x), .long (gL x), .int (gR x), .int (gW x)])), (q.2.1, .inl (cI, 8, .inl (gSo x))), (q.2.2.1, .inl (cI, 8, .inl (gSr x))), (q.2.2.2, .inl (cJ, 8, .inr (.inl (gOp x))))] H := hP
  have hD : va_D A [(q.1, .inr (0, [.ref q.2.1, .ref q.2.2.1, .ref q.2.2.2, .int b0, .int (0 : Int32), .long (gV x), .int (gM x), .long (gH x), .long (gL x), .int (gR x), .int (gW x)])), (q.2.1, .inl (cI, 8, .inl (gSo x))), (q.2.2.1, .inl (cI, 8, .inl (gSr x))), (q.2.2.2, .inl (cJ, 8, .inr (.inl (gOp x))))] := hD
  refine lv_aload_n hx hb dX0_startAs_10 rfl (lv_at hl 0 rfl) ?_
  refine lv_lconst (v := 0) hx hb dX0_startAs_11 (by decide) ?_
  refine va_put (D := D) (ci := 0) (v := .long (0 : Int64)) (ty := .long) (C := RX0) (T := TX0) (N := 11) hx hb hts hinX0 tyX0 tyX0_ok nmX0 hown hK hP hD hS 0 rfl rfl 5 (by decide) (hts (.fieldLink RX0 29 "GaugeBoard$Gauge" "value" "J") (by decide +kernel)) (fun _ h9 => h9) rfl (by decide +kernel) rfl rfl (Nat.le_of_ble_eq_true rfl) dX0_startAs_12 (fun H locs hP hD hS => ?_)
  have hP : va_P D vwCl [(q.1, .inr (0, [.ref q.2.1, .ref q.2.2.1, .ref q.2.2.2, .int b0, .int (0 : Int32), .long (0 : Int64), .int (gM x), .long (gH x), .long (gL x), .int (gR x), .int (gW x)])), (q.2.1, .inl (cI, 8, .inl (gSo x))), (q.2.2.1, .inl (cI, 8, .inl (gSr x))), (q.2.2.2, .inl (cJ, 8, .inr (.inl (gOp x))))] H := hP
  have hD : va_D A [(q.1, .inr (0, [.ref q.2.1, .ref q.2.2.1, .ref q.2.2.2, .int b0, .int (0 : Int32), .long (0 : Int64), .int (gM x), .long (gH x), .long (gL x), .int (gR x), .int (gW x)])), (q.2.1, .inl (cI, 8, .inl (gSo x))), (q.2.2.1, .inl (cI, 8, .inl (gSr x))), (q.2.2.2, .inl (cJ, 8, .inr (.inl (gOp x))))] := hD
  refine lv_aload_n hx hb dX0_startAs_15 rfl (lv_at hl 0 rfl) ?_
  refine lv_iconst (v := 0) hx hb dX0_startAs_16 (by decide) ?_
  refine va_put (D := D) (ci := 0) (v := .int (0 : Int32)) (ty := .boolean) (C := RX0) (T := TX0) (N := 11) hx hb hts hinX0 tyX0 tyX0_ok nmX0 hown hK hP hD hS 0 rfl rfl 6 (by decide) (hts (.fieldLink RX0 33 "GaugeBoard$Gauge" "marked" "Z") (by decide +kernel)) (fun _ h9 => h9) rfl (by decide +kernel) rfl rfl (Nat.le_of_ble_eq_true rfl) dX0_startAs_17 (fun H locs hP hD hS => ?_)
  have hP : va_P D vwCl [(q.1, .inr (0, [.ref q.2.1, .ref q.2.2.1, .ref q.2.2.2, .int b0, .int (0 : Int32), .long (0 : Int64), .int (0 : Int32), .long (gH x), .long (gL x), .int (gR x), .int (gW x)])), (q.2.1, .inl (cI, 8, .inl (gSo x))), (q.2.2.1, .inl (cI, 8, .inl (gSr x))), (q.2.2.2, .inl (cJ, 8, .inr (.inl (gOp x))))] H := hP
  have hD : va_D A [(q.1, .inr (0, [.ref q.2.1, .ref q.2.2.1, .ref q.2.2.2, .int b0, .int (0 : Int32), .long (0 : Int64), .int (0 : Int32), .long (gH x), .long (gL x), .int (gR x), .int (gW x)])), (q.2.1, .inl (cI, 8, .inl (gSo x))), (q.2.2.1, .inl (cI, 8, .inl (gSr x))), (q.2.2.2, .inl (cJ, 8, .inr (.inl (gOp x))))] := hD
  refine lv_aload_n hx hb dX0_startAs_20 rfl (lv_at hl 0 rfl) ?_
  refine lv_iconst (v := 0) hx hb dX0_startAs_21 (by decide) ?_
  refine va_put (D := D) (ci := 0) (v := .int (0 : Int32)) (ty := .int) (C := RX0) (T := TX0) (N := 11) hx hb hts hinX0 tyX0 tyX0_ok nmX0 hown hK hP hD hS 0 rfl rfl 9 (by decide) (hts (.fieldLink RX0 37 "GaugeBoard$Gauge" "readings" "I") (by decide +kernel)) (fun _ h9 => h9) rfl (by decide +kernel) rfl rfl (Nat.le_of_ble_eq_true rfl) dX0_startAs_22 (fun H locs hP hD hS => ?_)
  have hP : va_P D vwCl [(q.1, .inr (0, [.ref q.2.1, .ref q.2.2.1, .ref q.2.2.2, .int b0, .int (0 : Int32), .long (0 : Int64), .int (0 : Int32), .long (gH x), .long (gL x), .int (0 : Int32), .int (gW x)])), (q.2.1, .inl (cI, 8, .inl (gSo x))), (q.2.2.1, .inl (cI, 8, .inl (gSr x))), (q.2.2.2, .inl (cJ, 8, .inr (.inl (gOp x))))] H := hP
  have hD : va_D A [(q.1, .inr (0, [.ref q.2.1, .ref q.2.2.1, .ref q.2.2.2, .int b0, .int (0 : Int32), .long (0 : Int64), .int (0 : Int32), .long (gH x), .long (gL x), .int (0 : Int32), .int (gW x)])), (q.2.1, .inl (cI, 8, .inl (gSo x))), (q.2.2.1, .inl (cI, 8, .inl (gSr x))), (q.2.2.2, .inl (cJ, 8, .inr (.inl (gOp x))))] := hD
  refine lv_aload_n hx hb dX0_startAs_25 rfl (lv_at hl 0 rfl) ?_
  refine lv_iconst (v := 0) hx hb dX0_startAs_26 (by decide) ?_
  refine va_put (D := D) (ci := 0) (v := .int (0 : Int32)) (ty := .int) (C := RX0) (T := TX0) (N := 11) hx hb hts hinX0 tyX0 tyX0_ok nmX0 hown hK hP hD hS 0 rfl rfl 10 (by decide) (hts (.fieldLink RX0 40 "GaugeBoard$Gauge" "swings" "I") (by decide +kernel)) (fun _ h9 => h9) rfl (by decide +kernel) rfl rfl (Nat.le_of_ble_eq_true rfl) dX0_startAs_27 (fun H locs hP hD hS => ?_)
  have hP : va_P D vwCl [(q.1, .inr (0, [.ref q.2.1, .ref q.2.2.1, .ref q.2.2.2, .int b0, .int (0 : Int32), .long (0 : Int64), .int (0 : Int32), .long (gH x), .long (gL x), .int (0 : Int32), .int (0 : Int32)])), (q.2.1, .inl (cI, 8, .inl (gSo x))), (q.2.2.1, .inl (cI, 8, .inl (gSr x))), (q.2.2.2, .inl (cJ, 8, .inr (.inl (gOp x))))] H := hP
  have hD : va_D A [(q.1, .inr (0, [.ref q.2.1, .ref q.2.2.1, .ref q.2.2.2, .int b0, .int (0 : Int32), .long (0 : Int64), .int (0 : Int32), .long (gH x), .long (gL x), .int (0 : Int32), .int (0 : Int32)])), (q.2.1, .inl (cI, 8, .inl (gSo x))), (q.2.2.1, .inl (cI, 8, .inl (gSr x))), (q.2.2.2, .inl (cJ, 8, .inr (.inl (gOp x))))] := hD
  have hF : F_X0_startAs x b0 = (gSo x, gSr x, gOp x, b0, (0 : Int32), (0 : Int64), (0 : Int32), gH x, gL x, (0 : Int32), (0 : Int32)) := by
    rfl
  have hP9 : va_P D vwCl (GZ cI cJ q (gSo x, gSr x, gOp x, b0, (0 : Int32), (0 : Int64), (0 : Int32), gH x, gL x, (0 : Int32), (0 : Int32))) H := by rw [GZ_eq]; exact hP
  have hD9 : va_D A (GZ cI cJ q (gSo x, gSr x, gOp x, b0, (0 : Int32), (0 : Int64), (0 : Int32), gH x, gL x, (0 : Int32), (0 : Int32))) := by rw [GZ_eq]; exact hD
  rw [← hF] at hP9 hD9
  exact W.vret hx hb hr (fun t ht hW => ⟨rfl, _, rfl, by rw [ht]; exact hP9, hD9, (hS.F ht).1, (hS.F ht).2⟩) hS.2.2 dX0_startAs_30
def F_X0_addStep (x : GS) (b0 : Int32) (b1 : Int32) (b2 : Int64) : Int32 × GS := ((gC x) + (1 : Int32), (upd (gSo x) (gC x).toNatClampNeg b0, upd (gSr x) (gC x).toNatClampNeg b1, vp_updL (gOp x) (gC x).toNatClampNeg b2, gK x, (gC x) + (1 : Int32), gV x, gM x, gH x, gL x, gR x, gW x))
set_option maxHeartbeats 4000000 in
set_option maxRecDepth 100000 in
theorem c_X0_addStep (l : Launch) (H0 : Heap) (D : va_G) (cI cJ cZ cG : ClassId) (q : ga) (x : GS) (b0 : Int32) (b1 : Int32) (b2 : Int64) (hc : vp_in (gC x) 9) (hlt : (gC x) < (8 : Int32)) (hP : va_P D vwCl (GZ cI cJ q x) H0) (hD0 : va_D (fun _ => True) (GZ cI cJ q x)) : wr l yX0_addStep wsX0_addStep ({ frames := 0, cells := 0, slots := 0, locals := 0 }) [.ref q.1, .int b0, .int b1, .long b2] (KW D cI cJ cZ cG) H0 (some (.int (F_X0_addStep x b0 b1 b2).1)) D (GZ cI cJ q x) (fun w => w = GZ cI cJ q (F_X0_addStep x b0 b1 b2).2) 0 0 := by
  refine Met.ofW (cc := cX0_addStep) (maxL := 5) (ret := (some .int)) (by decide) rfl ?_
  intro p e s m args below meth c s₁ B hml hv
  obtain ⟨rfl, hH, hKW⟩ := hv
  have hx := B.exec
  have hb := B.bytes
  have hr := B.returns
  have hts := atoms_spec (ws := wsX0_addStep) B.pre
  have hown : s.vm.findClass RX0 = some m.cls := findClass_of_methodNamed B.named
  have hlocks := B.notSynchronized
  subst hH
  have hl := lv_entry ([.ref q.1, .int b0, .int b1, .long b2]) (n := 5) (Nat.le_of_ble_eq_true rfl)
  rw [lg_entry_eq]
  generalize (lg_sl ([.ref q.1, .int b0, .int b1, .long b2]) ++ List.replicate (5 - (lg_sl ([.ref q.1, .int b0, .int b1, .long b2])).length) Slot.unset).toArray = ls at hl ⊢
  have hl : lv_has ls 5 [(0, .ref q.1), (1, .int b0), (2, .int b1), (3, .long b2)] := hl
  have hK := hKW.1
  have hinX0 : ∀ w ∈ u_ws RX0 TX0 11, w ∈ wsX0_addStep := by decide +kernel
  have hD := hD0.self (sz := s.heap.size)
  generalize hAe : va_A (GZ cI cJ q x) s.heap.size = A at hD ⊢
  have hA : ∀ q : Nat, s.heap.size ≤ q → A q := fun q h => by rw [← hAe]; exact Or.inr h
  have hS : va_S A s.heap s.heap [] := va_S.rf
  have hP : va_P D vwCl [(q.1, .inr (0, [.ref q.2.1, .ref q.2.2.1, .ref q.2.2.2, .int (gK x), .int (gC x), .long (gV x), .int (gM x), .long (gH x), .long (gL x), .int (gR x), .int (gW x)])), (q.2.1, .inl (cI, 8, .inl (gSo x))), (q.2.2.1, .inl (cI, 8, .inl (gSr x))), (q.2.2.2, .inl (cJ, 8, .inr (.inl (gOp x))))] s.heap := hP
  have hD : va_D A [(q.1, .inr (0, [.ref q.2.1, .ref q.2.2.1, .ref q.2.2.2, .int (gK x), .int (gC x), .long (gV x), .int (gM x), .long (gH x), .long (gL x), .int (gR x), .int (gW x)])), (q.2.1, .inl (cI, 8, .inl (gSo x))), (q.2.2.1, .inl (cI, 8, .inl (gSr x))), (q.2.2.2, .inl (cJ, 8, .inr (.inl (gOp x))))] := hD
  refine lv_aload_n hx hb dX0_addStep_0 rfl (lv_at hl 0 rfl) ?_
  refine va_get (D := D) (ci := 0) (v := .int (gC x)) (C := RX0) (T := TX0) (N := 11) hx hb hts hinX0 hown hK hP 0 rfl rfl 4 (by decide) (hts (.fieldLink RX0 26 "GaugeBoard$Gauge" "stepCount" "I") (by decide +kernel)) (fun _ h9 => h9) rfl dX0_addStep_1 ?_
  refine lv_bipush (v := 8) hx hb dX0_addStep_4 (by decide) ?_
  refine lv_icmp_lt (tgt := 19) hx hb dX0_addStep_6 (by decide) (fun z_9 => ?_) (fun z_9 => absurd hlt z_9)
  refine lv_aload_n hx hb dX0_addStep_19 rfl (lv_at hl 0 rfl) ?_
  refine va_get (D := D) (ci := 0) (v := .ref q.2.1) (C := RX0) (T := TX0) (N := 11) hx hb hts hinX0 hown hK hP 0 rfl rfl 0 (by decide) (hts (.fieldLink RX0 9 "GaugeBoard$Gauge" "sorts" "[I") (by decide +kernel)) (fun _ h9 => h9) rfl dX0_addStep_20 ?_
  refine lv_aload_n hx hb dX0_addStep_23 rfl (lv_at hl 0 rfl) ?_
  refine va_get (D := D) (ci := 0) (v := .int (gC x)) (C := RX0) (T := TX0) (N := 11) hx hb hts hinX0 hown hK hP 0 rfl rfl 4 (by decide) (hts (.fieldLink RX0 26 "GaugeBoard$Gauge" "stepCount" "I") (by decide +kernel)) (fun _ h9 => h9) rfl dX0_addStep_24 ?_
  refine lv_iload_n hx hb dX0_addStep_27 rfl (lv_at hl 1 rfl) ?_
  refine va_iast hx hb hK hP hD hS 1 0 rfl rfl (in8' hc hlt) dX0_addStep_28 (fun H locs hP hD hS => ?_)
  have hP : va_P D vwCl [(q.1, .inr (0, [.ref q.2.1, .ref q.2.2.1, .ref q.2.2.2, .int (gK x), .int (gC x), .long (gV x), .int (gM x), .long (gH x), .long (gL x), .int (gR x), .int (gW x)])), (q.2.1, .inl (cI, 8, .inl (upd (gSo x) (gC x).toNatClampNeg b0))), (q.2.2.1, .inl (cI, 8, .inl (gSr x))), (q.2.2.2, .inl (cJ, 8, .inr (.inl (gOp x))))] H := hP
  have hD : va_D A [(q.1, .inr (0, [.ref q.2.1, .ref q.2.2.1, .ref q.2.2.2, .int (gK x), .int (gC x), .long (gV x), .int (gM x), .long (gH x), .long (gL x), .int (gR x), .int (gW x)])), (q.2.1, .inl (cI, 8, .inl (upd (gSo x) (gC x).toNatClampNeg b0))), (q.2.2.1, .inl (cI, 8, .inl (gSr x))), (q.2.2.2, .inl (cJ, 8, .inr (.inl (gOp x))))] := hD
  refine lv_aload_n hx hb dX0_addStep_29 rfl (lv_at hl 0 rfl) ?_
  refine va_get (D := D) (ci := 0) (v := .ref q.2.2.1) (C := RX0) (T := TX0) (N := 11) hx hb hts hinX0 hown hK hP 0 rfl rfl 1 (by decide) (hts (.fieldLink RX0 15 "GaugeBoard$Gauge" "sources" "[I") (by decide +kernel)) (fun _ h9 => h9) rfl dX0_addStep_30 ?_
  refine lv_aload_n hx hb dX0_addStep_33 rfl (lv_at hl 0 rfl) ?_
  refine va_get (D := D) (ci := 0) (v := .int (gC x)) (C := RX0) (T := TX0) (N := 11) hx hb hts hinX0 hown hK hP 0 rfl rfl 4 (by decide) (hts (.fieldLink RX0 26 "GaugeBoard$Gauge" "stepCount" "I") (by decide +kernel)) (fun _ h9 => h9) rfl dX0_addStep_34 ?_
  refine lv_iload_n hx hb dX0_addStep_37 rfl (lv_at hl 2 rfl) ?_
  refine va_iast hx hb hK hP hD hS 2 0 rfl rfl (in8' hc hlt) dX0_addStep_38 (fun H locs hP hD hS => ?_)
  have hP : va_P D vwCl [(q.1, .inr (0, [.ref q.2.1, .ref q.2.2.1, .ref q.2.2.2, .int (gK x), .int (gC x), .long (gV x), .int (gM x), .long (gH x), .long (gL x), .int (gR x), .int (gW x)])), (q.2.1, .inl (cI, 8, .inl (upd (gSo x) (gC x).toNatClampNeg b0))), (q.2.2.1, .inl (cI, 8, .inl (upd (gSr x) (gC x).toNatClampNeg b1))), (q.2.2.2, .inl (cJ, 8, .inr (.inl (gOp x))))] H := hP
  have hD : va_D A [(q.1, .inr (0, [.ref q.2.1, .ref q.2.2.1, .ref q.2.2.2, .int (gK x), .int (gC x), .long (gV x), .int (gM x), .long (gH x), .long (gL x), .int (gR x), .int (gW x)])), (q.2.1, .inl (cI, 8, .inl (upd (gSo x) (gC x).toNatClampNeg b0))), (q.2.2.1, .inl (cI, 8, .inl (upd (gSr x) (gC x).toNatClampNeg b1))), (q.2.2.2, .inl (cJ, 8, .inr (.inl (gOp x))))] := hD
  refine lv_aload_n hx hb dX0_addStep_39 rfl (lv_at hl 0 rfl) ?_
  refine va_get (D := D) (ci := 0) (v := .ref q.2.2.2) (C := RX0) (T := TX0) (N := 11) hx hb hts hinX0 hown hK hP 0 rfl rfl 2 (by decide) (hts (.fieldLink RX0 18 "GaugeBoard$Gauge" "operands" "[J") (by decide +kernel)) (fun _ h9 => h9) rfl dX0_addStep_40 ?_
  refine lv_aload_n hx hb dX0_addStep_43 rfl (lv_at hl 0 rfl) ?_
  refine va_get (D := D) (ci := 0) (v := .int (gC x)) (C := RX0) (T := TX0) (N := 11) hx hb hts hinX0 hown hK hP 0 rfl rfl 4 (by decide) (hts (.fieldLink RX0 26 "GaugeBoard$Gauge" "stepCount" "I") (by decide +kernel)) (fun _ h9 => h9) rfl dX0_addStep_44 ?_
  refine lv_lload_n hx hb dX0_addStep_47 rfl (lv_at hl 3 rfl) ?_
  refine va_last hx hb hK hP hD hS 3 1 rfl rfl (in8' hc hlt) dX0_addStep_48 (fun H locs hP hD hS => ?_)
  have hP : va_P D vwCl [(q.1, .inr (0, [.ref q.2.1, .ref q.2.2.1, .ref q.2.2.2, .int (gK x), .int (gC x), .long (gV x), .int (gM x), .long (gH x), .long (gL x), .int (gR x), .int (gW x)])), (q.2.1, .inl (cI, 8, .inl (upd (gSo x) (gC x).toNatClampNeg b0))), (q.2.2.1, .inl (cI, 8, .inl (upd (gSr x) (gC x).toNatClampNeg b1))), (q.2.2.2, .inl (cJ, 8, .inr (.inl (vp_updL (gOp x) (gC x).toNatClampNeg b2))))] H := hP
  have hD : va_D A [(q.1, .inr (0, [.ref q.2.1, .ref q.2.2.1, .ref q.2.2.2, .int (gK x), .int (gC x), .long (gV x), .int (gM x), .long (gH x), .long (gL x), .int (gR x), .int (gW x)])), (q.2.1, .inl (cI, 8, .inl (upd (gSo x) (gC x).toNatClampNeg b0))), (q.2.2.1, .inl (cI, 8, .inl (upd (gSr x) (gC x).toNatClampNeg b1))), (q.2.2.2, .inl (cJ, 8, .inr (.inl (vp_updL (gOp x) (gC x).toNatClampNeg b2))))] := hD
  refine lv_aload_n hx hb dX0_addStep_49 rfl (lv_at hl 0 rfl) ?_
  refine lv_dup hx hb dX0_addStep_50 rfl ?_
  refine va_get (D := D) (ci := 0) (v := .int (gC x)) (C := RX0) (T := TX0) (N := 11) hx hb hts hinX0 hown hK hP 0 rfl rfl 4 (by decide) (hts (.fieldLink RX0 26 "GaugeBoard$Gauge" "stepCount" "I") (by decide +kernel)) (fun _ h9 => h9) rfl dX0_addStep_51 ?_
  refine lv_iconst (v := 1) hx hb dX0_addStep_54 (by decide) ?_
  refine lv_iadd hx hb dX0_addStep_55 ?_
  refine va_put (D := D) (ci := 0) (v := .int ((gC x) + (1 : Int32))) (ty := .int) (C := RX0) (T := TX0) (N := 11) hx hb hts hinX0 tyX0 tyX0_ok nmX0 hown hK hP hD hS 0 rfl rfl 4 (by decide) (hts (.fieldLink RX0 26 "GaugeBoard$Gauge" "stepCount" "I") (by decide +kernel)) (fun _ h9 => h9) rfl (by decide +kernel) rfl rfl (Nat.le_of_ble_eq_true rfl) dX0_addStep_56 (fun H locs hP hD hS => ?_)
  have hP : va_P D vwCl [(q.1, .inr (0, [.ref q.2.1, .ref q.2.2.1, .ref q.2.2.2, .int (gK x), .int ((gC x) + (1 : Int32)), .long (gV x), .int (gM x), .long (gH x), .long (gL x), .int (gR x), .int (gW x)])), (q.2.1, .inl (cI, 8, .inl (upd (gSo x) (gC x).toNatClampNeg b0))), (q.2.2.1, .inl (cI, 8, .inl (upd (gSr x) (gC x).toNatClampNeg b1))), (q.2.2.2, .inl (cJ, 8, .inr (.inl (vp_updL (gOp x) (gC x).toNatClampNeg b2))))] H := hP
  have hD : va_D A [(q.1, .inr (0, [.ref q.2.1, .ref q.2.2.1, .ref q.2.2.2, .int (gK x), .int ((gC x) + (1 : Int32)), .long (gV x), .int (gM x), .long (gH x), .long (gL x), .int (gR x), .int (gW x)])), (q.2.1, .inl (cI, 8, .inl (upd (gSo x) (gC x).toNatClampNeg b0))), (q.2.2.1, .inl (cI, 8, .inl (upd (gSr x) (gC x).toNatClampNeg b1))), (q.2.2.2, .inl (cJ, 8, .inr (.inl (vp_updL (gOp x) (gC x).toNatClampNeg b2))))] := hD
  refine lv_aload_n hx hb dX0_addStep_59 rfl (lv_at hl 0 rfl) ?_
  refine va_get (D := D) (ci := 0) (v := .int ((gC x) + (1 : Int32))) (C := RX0) (T := TX0) (N := 11) hx hb hts hinX0 hown hK hP 0 rfl rfl 4 (by decide) (hts (.fieldLink RX0 26 "GaugeBoard$Gauge" "stepCount" "I") (by decide +kernel)) (fun _ h9 => h9) rfl dX0_addStep_60 ?_
  have hF : F_X0_addStep x b0 b1 b2 = ((gC x) + (1 : Int32), (upd (gSo x) (gC x).toNatClampNeg b0, upd (gSr x) (gC x).toNatClampNeg b1, vp_updL (gOp x) (gC x).toNatClampNeg b2, gK x, (gC x) + (1 : Int32), gV x, gM x, gH x, gL x, gR x, gW x)) := by
    rfl
  have hP9 : va_P D vwCl (GZ cI cJ q (upd (gSo x) (gC x).toNatClampNeg b0, upd (gSr x) (gC x).toNatClampNeg b1, vp_updL (gOp x) (gC x).toNatClampNeg b2, gK x, (gC x) + (1 : Int32), gV x, gM x, gH x, gL x, gR x, gW x)) H := by rw [GZ_eq]; exact hP
  have hD9 : va_D A (GZ cI cJ q (upd (gSo x) (gC x).toNatClampNeg b0, upd (gSr x) (gC x).toNatClampNeg b1, vp_updL (gOp x) (gC x).toNatClampNeg b2, gK x, (gC x) + (1 : Int32), gV x, gM x, gH x, gL x, gR x, gW x)) := by rw [GZ_eq]; exact hD
  exact W.iret (v := (gC x) + (1 : Int32)) hx hb hr (fun t ht hW => ⟨by rw [hF], _, rfl, by rw [hF, ht]; exact hP9, by rw [hF]; exact hD9, (hS.F ht).1, (hS.F ht).2⟩) hS.2.2 dX0_addStep_63
def lp_X0_ownStepsTaking (x : GS) (b0 : Int32) : Nat → Int32 → Nat → Int32
  | 0, _, _ => 0
  | k + 1, n, i => (if (gC x) ≤ (nI i) then n else (if ((gSr x) (nI i).toNatClampNeg) = b0 then lp_X0_ownStepsTaking x b0 k (n + 1) (i + 1) else lp_X0_ownStepsTaking x b0 k n (i + 1)))
def f_X0_ownStepsTaking (x : GS) (b0 : Int32) : Int32 := lp_X0_ownStepsTaking x b0 9 (0 : Int32) 0
set_option maxHeartbeats 4000000 in
set_option maxRecDepth 100000 in
theorem c_X0_ownStepsTaking (l : Launch) (H0 : Heap) (D : va_G) (cI cJ cZ cG : ClassId) (q : ga) (x : GS) (b0 : Int32) (hc : vp_in (gC x) 9) (hP : va_P D vwCl (GZ cI cJ q x) H0) : pu l yX0_ownStepsTaking wsX0_ownStepsTaking ({ frames := 0, cells := 0, slots := 0, locals := 0 }) [.ref q.1, .int b0] (KW D cI cJ cZ cG) H0 (some (.int (f_X0_ownStepsTaking x b0))) := by
  refine Met.ofW (cc := cX0_ownStepsTaking) (maxL := 4) (ret := (some .int)) (by decide) rfl ?_
  intro p e s m args below meth c s₁ B hml hv
  obtain ⟨rfl, hH, hKW⟩ := hv
  have hx := B.exec
  have hb := B.bytes
  have hr := B.returns
  have hts := atoms_spec (ws := wsX0_ownStepsTaking) B.pre
  have hown : s.vm.findClass RX0 = some m.cls := findClass_of_methodNamed B.named
  have hlocks := B.notSynchronized
  subst hH
  have hl := lv_entry ([.ref q.1, .int b0]) (n := 4) (Nat.le_of_ble_eq_true rfl)
  rw [lg_entry_eq]
  generalize (lg_sl ([.ref q.1, .int b0]) ++ List.replicate (4 - (lg_sl ([.ref q.1, .int b0])).length) Slot.unset).toArray = ls at hl ⊢
  have hl : lv_has ls 4 [(0, .ref q.1), (1, .int b0)] := hl
  have hK := hKW.1
  have hinX0 : ∀ w ∈ u_ws RX0 TX0 11, w ∈ wsX0_ownStepsTaking := by decide +kernel
  have hP : va_P D vwCl [(q.1, .inr (0, [.ref q.2.1, .ref q.2.2.1, .ref q.2.2.2, .int (gK x), .int (gC x), .long (gV x), .int (gM x), .long (gH x), .long (gL x), .int (gR x), .int (gW x)])), (q.2.1, .inl (cI, 8, .inl (gSo x))), (q.2.2.1, .inl (cI, 8, .inl (gSr x))), (q.2.2.2, .inl (cJ, 8, .inr (.inl (gOp x))))] s.heap := hP
  refine lv_iconst (v := 0) hx hb dX0_ownStepsTaking_0 (by decide) ?_
  refine lv_istore_n (lv' := [(2, .int (0 : Int32)), (0, .ref q.1), (1, .int b0)]) hx hb dX0_ownStepsTaking_1 rfl hl (by decide) rfl (fun ls hl => ?_)
  refine lv_iconst (v := 0) hx hb dX0_ownStepsTaking_2 (by decide) ?_
  refine lv_istore_n (lv' := [(3, .int (0 : Int32)), (2, .int (0 : Int32)), (0, .ref q.1), (1, .int b0)]) hx hb dX0_ownStepsTaking_3 rfl hl (by decide) rfl (fun ls hl => ?_)
  have hloop : ∀ (k i : Nat) (n : Int32), i ≤ 8 → 9 ≤ i + k → lp_X0_ownStepsTaking x b0 k n i = f_X0_ownStepsTaking x b0 → ∀ ls : Array Slot, lv_has ls 4 [(3, .int (nI i)), (2, .int n), (0, .ref q.1), (1, .int b0)] → W p l e (headSpec wsX0_ownStepsTaking { frames := 0, cells := 0, slots := 0, locals := 0 }).room s m [Value.ref q.1, Value.int b0].toArray below meth c s.heap [] 0 0 (MQ below (fun _ _ o t => o = .returned (some (.int (f_X0_ownStepsTaking x b0))) ∧ t.heap = s.heap) [Value.ref q.1, Value.int b0].toArray s 0 0 (fun _ => False)) (F0 m 4 ls []) := by
    intro k
    induction k with
    | zero => intro i n h1 h2; omega
    | succ k ih =>
      intro i n hi hk hf ls hl
      refine lv_iload_n hx hb dX0_ownStepsTaking_4 rfl (lv_at hl 0 rfl) ?_
      refine lv_aload_n hx hb dX0_ownStepsTaking_5 rfl (lv_at hl 2 rfl) ?_
      refine va_get (D := D) (ci := 0) (v := .int (gC x)) (C := RX0) (T := TX0) (N := 11) hx hb hts hinX0 hown hK hP 0 rfl rfl 4 (by decide) (hts (.fieldLink RX0 26 "GaugeBoard$Gauge" "stepCount" "I") (by decide +kernel)) (fun _ h9 => h9) rfl dX0_ownStepsTaking_6 ?_
      refine lv_icmp_ge (tgt := 31) hx hb dX0_ownStepsTaking_9 (by decide) (fun c_1 => ?_) (fun c_1 => ?_)
      · refine lv_iload_n hx hb dX0_ownStepsTaking_31 rfl (lv_at hl 1 rfl) ?_
        exact W.iret (v := n) hx hb hr (fun t ht hW => ⟨congrArg (fun z => Outcome.returned (some (Value.int z))) (by rw [← hf, lp_X0_ownStepsTaking, if_pos c_1]), ht⟩) (fun _ h => nomatch h) dX0_ownStepsTaking_32
      · refine lv_aload_n hx hb dX0_ownStepsTaking_12 rfl (lv_at hl 2 rfl) ?_
        refine va_get (D := D) (ci := 0) (v := .ref q.2.2.1) (C := RX0) (T := TX0) (N := 11) hx hb hts hinX0 hown hK hP 0 rfl rfl 1 (by decide) (hts (.fieldLink RX0 15 "GaugeBoard$Gauge" "sources" "[I") (by decide +kernel)) (fun _ h9 => h9) rfl dX0_ownStepsTaking_13 ?_
        refine lv_iload_n hx hb dX0_ownStepsTaking_16 rfl (lv_at hl 0 rfl) ?_
        refine va_iald hx hb hK hP 2 0 rfl rfl (in_cnt hc (vp_in_nI (by omega) (by decide)) c_1) dX0_ownStepsTaking_17 ?_
        refine lv_iload_n hx hb dX0_ownStepsTaking_18 rfl (lv_at hl 3 rfl) ?_
        refine lv_icmp_ne (tgt := 25) hx hb dX0_ownStepsTaking_19 (by decide) (fun c_2 => ?_) (fun c_2 => ?_)
        · refine lv_iinc (v := (nI i) + 1) (lv' := [(3, .int ((nI i) + 1)), (2, .int n), (0, .ref q.1), (1, .int b0)]) hx hb dX0_ownStepsTaking_25 hl (k := 0) rfl rfl (by decide) rfl (fun ls hl => ?_)
          refine lv_goto (tgt := 4) hx hb dX0_ownStepsTaking_28 (by decide) ?_
          have hl := lv_sub hl [0, 1, 2, 3] rfl
          rw [nI_1] at hl
          exact ih (i + 1) n (Nat.succ_le_of_lt (in_lt (in_cnt hc (vp_in_nI (by omega) (by decide)) c_1) (by omega))) (by omega) (by rw [← hf, lp_X0_ownStepsTaking, if_neg c_1, if_neg c_2]) ls hl
        · refine lv_iinc (v := n + 1) (lv' := [(2, .int (n + 1)), (3, .int (nI i)), (0, .ref q.1), (1, .int b0)]) hx hb dX0_ownStepsTaking_22 hl (k := 1) rfl rfl (by decide) rfl (fun ls hl => ?_)
          refine lv_iinc (v := (nI i) + 1) (lv' := [(3, .int ((nI i) + 1)), (2, .int (n + 1)), (0, .ref q.1), (1, .int b0)]) hx hb dX0_ownStepsTaking_25 hl (k := 1) rfl rfl (by decide) rfl (fun ls hl => ?_)
          refine lv_goto (tgt := 4) hx hb dX0_ownStepsTaking_28 (by decide) ?_
          have hl := lv_sub hl [0, 1, 2, 3] rfl
          rw [nI_1] at hl
          exact ih (i + 1) (n + 1) (Nat.succ_le_of_lt (in_lt (in_cnt hc (vp_in_nI (by omega) (by decide)) c_1) (by omega))) (by omega) (by rw [← hf, lp_X0_ownStepsTaking, if_neg c_1, if_pos c_2]) ls hl
  exact hloop 9 0 (0 : Int32) (Nat.zero_le _) (Nat.le_refl _) (rfl) ls (lv_sub hl [0, 1, 2, 3] rfl)
def F_X0_takeValue (x : GS) (b0 : Int64) : GS := (if (f_X1_signOf b0) = (f_X1_signOf (gV x)) then (if (gM x) = 0 then (gSo x, gSr x, gOp x, gK x, gC x, b0, (1 : Int32), b0, b0, (gR x) + (1 : Int32), gW x) else (gSo x, gSr x, gOp x, gK x, gC x, b0, (1 : Int32), f_X1_higher (gH x) b0 (gK x), f_X1_lower (gL x) b0 (gK x), (gR x) + (1 : Int32), gW x)) else (if (gM x) = 0 then (gSo x, gSr x, gOp x, gK x, gC x, b0, (1 : Int32), b0, b0, (gR x) + (1 : Int32), (gW x) + (1 : Int32)) else (gSo x, gSr x, gOp x, gK x, gC x, b0, (1 : Int32), f_X1_higher (gH x) b0 (gK x), f_X1_lower (gL x) b0 (gK x), (gR x) + (1 : Int32), (gW x) + (1 : Int32))))
set_option maxHeartbeats 4000000 in
set_option maxRecDepth 100000 in
theorem c_X0_takeValue (l : Launch) (H0 : Heap) (D : va_G) (cI cJ cZ cG : ClassId) (q : ga) (x : GS) (b0 : Int64)  (hP : va_P D vwCl (GZ cI cJ q x) H0) (hD0 : va_D (fun _ => True) (GZ cI cJ q x)) : wr l yX0_takeValue wsX0_takeValue ({ frames := 4, cells := 0, slots := 0, locals := 90 }) [.ref q.1, .long b0] (KW D cI cJ cZ cG) H0 (none) D (GZ cI cJ q x) (fun w => w = GZ cI cJ q (F_X0_takeValue x b0)) 0 0 := by
  refine Met.ofW (cc := cX0_takeValue) (maxL := 3) (ret := none) (by decide) rfl ?_
  intro p e s m args below meth c s₁ B hml hv
  obtain ⟨rfl, hH, hKW⟩ := hv
  have hx := B.exec
  have hb := B.bytes
  have hr := B.returns
  have hts := atoms_spec (ws := wsX0_takeValue) B.pre
  have hown : s.vm.findClass RX0 = some m.cls := findClass_of_methodNamed B.named
  have hlocks := B.notSynchronized
  subst hH
  have hl := lv_entry ([.ref q.1, .long b0]) (n := 3) (Nat.le_of_ble_eq_true rfl)
  rw [lg_entry_eq]
  generalize (lg_sl ([.ref q.1, .long b0]) ++ List.replicate (3 - (lg_sl ([.ref q.1, .long b0])).length) Slot.unset).toArray = ls at hl ⊢
  have hl : lv_has ls 3 [(0, .ref q.1), (1, .long b0)] := hl
  have hK := hKW.1
  have hinX0 : ∀ w ∈ u_ws RX0 TX0 11, w ∈ wsX0_takeValue := by decide +kernel
  have hD := hD0.self (sz := s.heap.size)
  generalize hAe : va_A (GZ cI cJ q x) s.heap.size = A at hD ⊢
  have hA : ∀ q : Nat, s.heap.size ≤ q → A q := fun q h => by rw [← hAe]; exact Or.inr h
  have hS : va_S A s.heap s.heap [] := va_S.rf
  have hP : va_P D vwCl [(q.1, .inr (0, [.ref q.2.1, .ref q.2.2.1, .ref q.2.2.2, .int (gK x), .int (gC x), .long (gV x), .int (gM x), .long (gH x), .long (gL x), .int (gR x), .int (gW x)])), (q.2.1, .inl (cI, 8, .inl (gSo x))), (q.2.2.1, .inl (cI, 8, .inl (gSr x))), (q.2.2.2, .inl (cJ, 8, .inr (.inl (gOp x))))] s.heap := hP
  have hD : va_D A [(q.1, .inr (0, [.ref q.2.1, .ref q.2.2.1, .ref q.2.2.2, .int (gK x), .int (gC x), .long (gV x), .int (gM x), .long (gH x), .long (gL x), .int (gR x), .int (gW x)])), (q.2.1, .inl (cI, 8, .inl (gSo x))), (q.2.2.1, .inl (cI, 8, .inl (gSr x))), (q.2.2.2, .inl (cJ, 8, .inr (.inl (gOp x))))] := hD
  refine lv_aload_n hx hb dX0_takeValue_0 rfl (lv_at hl 0 rfl) ?_
  refine lv_dup hx hb dX0_takeValue_1 rfl ?_
  refine va_get (D := D) (ci := 0) (v := .int (gR x)) (C := RX0) (T := TX0) (N := 11) hx hb hts hinX0 hown hK hP 0 rfl rfl 9 (by decide) (hts (.fieldLink RX0 37 "GaugeBoard$Gauge" "readings" "I") (by decide +kernel)) (fun _ h9 => h9) rfl dX0_takeValue_2 ?_
  refine lv_iconst (v := 1) hx hb dX0_takeValue_5 (by decide) ?_
  refine lv_iadd hx hb dX0_takeValue_6 ?_
  refine va_put (D := D) (ci := 0) (v := .int ((gR x) + (1 : Int32))) (ty := .int) (C := RX0) (T := TX0) (N := 11) hx hb hts hinX0 tyX0 tyX0_ok nmX0 hown hK hP hD hS 0 rfl rfl 9 (by decide) (hts (.fieldLink RX0 37 "GaugeBoard$Gauge" "readings" "I") (by decide +kernel)) (fun _ h9 => h9) rfl (by decide +kernel) rfl rfl (Nat.le_of_ble_eq_true rfl) dX0_takeValue_7 (fun H locs hP hD hS => ?_)
  have hP : va_P D vwCl [(q.1, .inr (0, [.ref q.2.1, .ref q.2.2.1, .ref q.2.2.2, .int (gK x), .int (gC x), .long (gV x), .int (gM x), .long (gH x), .long (gL x), .int ((gR x) + (1 : Int32)), .int (gW x)])), (q.2.1, .inl (cI, 8, .inl (gSo x))), (q.2.2.1, .inl (cI, 8, .inl (gSr x))), (q.2.2.2, .inl (cJ, 8, .inr (.inl (gOp x))))] H := hP
  have hD : va_D A [(q.1, .inr (0, [.ref q.2.1, .ref q.2.2.1, .ref q.2.2.2, .int (gK x), .int (gC x), .long (gV x), .int (gM x), .long (gH x), .long (gL x), .int ((gR x) + (1 : Int32)), .int (gW x)])), (q.2.1, .inl (cI, 8, .inl (gSo x))), (q.2.2.1, .inl (cI, 8, .inl (gSr x))), (q.2.2.2, .inl (cJ, 8, .inr (.inl (gOp x))))] := hD
  refine lv_lload_n hx hb dX0_takeValue_10 rfl (lv_at hl 1 rfl) ?_
  refine pu_SN (As := [.long b0]) (rest := []) ⟨hx, hb, hml, hown, hts⟩ (c_X1_signOf l H b0) puK_T trivial ⟨va_cnB 1 hts gX0_takeValue_X1_signOf_n50 rfl rfl rfl (hKW.2 _ (List.mem_of_getElem? (i := 16) rfl)) (hts (.initialized RX1) (by decide +kernel)) (by decide +kernel) ⟨Nat.le_of_ble_eq_true rfl, Nat.le_of_ble_eq_true rfl⟩, hts (.static yX1_signOf) (by decide +kernel), trivial⟩ rfl hl.1 rfl (Nat.le_of_ble_eq_true rfl) dX0_takeValue_11 ⟨Nat.zero_le _, Nat.zero_le _⟩ ?_
  refine W.eq (g2 := F0 m 14 ls [.int (f_X1_signOf b0)]) rfl ?_
  refine lv_aload_n hx hb dX0_takeValue_14 rfl (lv_at hl 0 rfl) ?_
  refine va_get (D := D) (ci := 0) (v := .long (gV x)) (C := RX0) (T := TX0) (N := 11) hx hb hts hinX0 hown hK hP 0 rfl rfl 5 (by decide) (hts (.fieldLink RX0 29 "GaugeBoard$Gauge" "value" "J") (by decide +kernel)) (fun _ h9 => h9) rfl dX0_takeValue_15 ?_
  refine pu_SN (As := [.long (gV x)]) (rest := [.int (f_X1_signOf b0)]) ⟨hx, hb, hml, hown, hts⟩ (c_X1_signOf l H (gV x)) puK_T trivial ⟨va_cnB 1 hts gX0_takeValue_X1_signOf_n50 rfl rfl rfl (hKW.2 _ (List.mem_of_getElem? (i := 16) rfl)) (hts (.initialized RX1) (by decide +kernel)) (by decide +kernel) ⟨Nat.le_of_ble_eq_true rfl, Nat.le_of_ble_eq_true rfl⟩, hts (.static yX1_signOf) (by decide +kernel), trivial⟩ rfl hl.1 rfl (Nat.le_of_ble_eq_true rfl) dX0_takeValue_18 ⟨Nat.zero_le _, Nat.zero_le _⟩ ?_
  refine W.eq (g2 := F0 m 21 ls [.int (f_X1_signOf (gV x)), .int (f_X1_signOf b0)]) rfl ?_
  refine lv_icmp_eq (tgt := 34) hx hb dX0_takeValue_21 (by decide) (fun c_1 => ?_) (fun c_1 => ?_)
  · refine lv_aload_n hx hb dX0_takeValue_34 rfl (lv_at hl 0 rfl) ?_
    refine lv_aload_n hx hb dX0_takeValue_35 rfl (lv_at hl 0 rfl) ?_
    refine va_get (D := D) (ci := 0) (v := .int (gM x)) (C := RX0) (T := TX0) (N := 11) hx hb hts hinX0 hown hK hP 0 rfl rfl 6 (by decide) (hts (.fieldLink RX0 33 "GaugeBoard$Gauge" "marked" "Z") (by decide +kernel)) (fun _ h9 => h9) rfl dX0_takeValue_36 ?_
    refine lv_if_eq (tgt := 57) hx hb dX0_takeValue_39 (by decide) (fun c_2 => ?_) (fun c_2 => ?_)
    · refine lv_lload_n hx hb dX0_takeValue_57 rfl (lv_at hl 1 rfl) ?_
      refine va_put (D := D) (ci := 0) (v := .long b0) (ty := .long) (C := RX0) (T := TX0) (N := 11) hx hb hts hinX0 tyX0 tyX0_ok nmX0 hown hK hP hD hS 0 rfl rfl 7 (by decide) (hts (.fieldLink RX0 54 "GaugeBoard$Gauge" "high" "J") (by decide +kernel)) (fun _ h9 => h9) rfl (by decide +kernel) rfl rfl (Nat.le_of_ble_eq_true rfl) dX0_takeValue_58 (fun H locs hP hD hS => ?_)
      have hP : va_P D vwCl [(q.1, .inr (0, [.ref q.2.1, .ref q.2.2.1, .ref q.2.2.2, .int (gK x), .int (gC x), .long (gV x), .int (gM x), .long b0, .long (gL x), .int ((gR x) + (1 : Int32)), .int (gW x)])), (q.2.1, .inl (cI, 8, .inl (gSo x))), (q.2.2.1, .inl (cI, 8, .inl (gSr x))), (q.2.2.2, .inl (cJ, 8, .inr (.inl (gOp x))))] H := hP
      have hD : va_D A [(q.1, .inr (0, [.ref q.2.1, .ref q.2.2.1, .ref q.2.2.2, .int (gK x), .int (gC x), .long (gV x), .int (gM x), .long b0, .long (gL x), .int ((gR x) + (1 : Int32)), .int (gW x)])), (q.2.1, .inl (cI, 8, .inl (gSo x))), (q.2.2.1, .inl (cI, 8, .inl (gSr x))), (q.2.2.2, .inl (cJ, 8, .inr (.inl (gOp x))))] := hD
      refine lv_aload_n hx hb dX0_takeValue_61 rfl (lv_at hl 0 rfl) ?_
      refine lv_aload_n hx hb dX0_takeValue_62 rfl (lv_at hl 0 rfl) ?_
      refine va_get (D := D) (ci := 0) (v := .int (gM x)) (C := RX0) (T := TX0) (N := 11) hx hb hts hinX0 hown hK hP 0 rfl rfl 6 (by decide) (hts (.fieldLink RX0 33 "GaugeBoard$Gauge" "marked" "Z") (by decide +kernel)) (fun _ h9 => h9) rfl dX0_takeValue_63 ?_
      refine lv_if_eq (tgt := 84) hx hb dX0_takeValue_66 (by decide) (fun z_9 => ?_) (fun z_9 => absurd c_2 z_9)
      refine lv_lload_n hx hb dX0_takeValue_84 rfl (lv_at hl 1 rfl) ?_
      refine va_put (D := D) (ci := 0) (v := .long b0) (ty := .long) (C := RX0) (T := TX0) (N := 11) hx hb hts hinX0 tyX0 tyX0_ok nmX0 hown hK hP hD hS 0 rfl rfl 8 (by decide) (hts (.fieldLink RX0 61 "GaugeBoard$Gauge" "low" "J") (by decide +kernel)) (fun _ h9 => h9) rfl (by decide +kernel) rfl rfl (Nat.le_of_ble_eq_true rfl) dX0_takeValue_85 (fun H locs hP hD hS => ?_)
      have hP : va_P D vwCl [(q.1, .inr (0, [.ref q.2.1, .ref q.2.2.1, .ref q.2.2.2, .int (gK x), .int (gC x), .long (gV x), .int (gM x), .long b0, .long b0, .int ((gR x) + (1 : Int32)), .int (gW x)])), (q.2.1, .inl (cI, 8, .inl (gSo x))), (q.2.2.1, .inl (cI, 8, .inl (gSr x))), (q.2.2.2, .inl (cJ, 8, .inr (.inl (gOp x))))] H := hP
      have hD : va_D A [(q.1, .inr (0, [.ref q.2.1, .ref q.2.2.1, .ref q.2.2.2, .int (gK x), .int (gC x), .long (gV x), .int (gM x), .long b0, .long b0, .int ((gR x) + (1 : Int32)), .int (gW x)])), (q.2.1, .inl (cI, 8, .inl (gSo x))), (q.2.2.1, .inl (cI, 8, .inl (gSr x))), (q.2.2.2, .inl (cJ, 8, .inr (.inl (gOp x))))] := hD
      refine lv_aload_n hx hb dX0_takeValue_88 rfl (lv_at hl 0 rfl) ?_
      refine lv_iconst (v := 1) hx hb dX0_takeValue_89 (by decide) ?_
      refine va_put (D := D) (ci := 0) (v := .int (1 : Int32)) (ty := .boolean) (C := RX0) (T := TX0) (N := 11) hx hb hts hinX0 tyX0 tyX0_ok nmX0 hown hK hP hD hS 0 rfl rfl 6 (by decide) (hts (.fieldLink RX0 33 "GaugeBoard$Gauge" "marked" "Z") (by decide +kernel)) (fun _ h9 => h9) rfl (by decide +kernel) rfl rfl (Nat.le_of_ble_eq_true rfl) dX0_takeValue_90 (fun H locs hP hD hS => ?_)
      have hP : va_P D vwCl [(q.1, .inr (0, [.ref q.2.1, .ref q.2.2.1, .ref q.2.2.2, .int (gK x), .int (gC x), .long (gV x), .int (1 : Int32), .long b0, .long b0, .int ((gR x) + (1 : Int32)), .int (gW x)])), (q.2.1, .inl (cI, 8, .inl (gSo x))), (q.2.2.1, .inl (cI, 8, .inl (gSr x))), (q.2.2.2, .inl (cJ, 8, .inr (.inl (gOp x))))] H := hP
      have hD : va_D A [(q.1, .inr (0, [.ref q.2.1, .ref q.2.2.1, .ref q.2.2.2, .int (gK x), .int (gC x), .long (gV x), .int (1 : Int32), .long b0, .long b0, .int ((gR x) + (1 : Int32)), .int (gW x)])), (q.2.1, .inl (cI, 8, .inl (gSo x))), (q.2.2.1, .inl (cI, 8, .inl (gSr x))), (q.2.2.2, .inl (cJ, 8, .inr (.inl (gOp x))))] := hD
      refine lv_aload_n hx hb dX0_takeValue_93 rfl (lv_at hl 0 rfl) ?_
      refine lv_lload_n hx hb dX0_takeValue_94 rfl (lv_at hl 1 rfl) ?_
      refine va_put (D := D) (ci := 0) (v := .long b0) (ty := .long) (C := RX0) (T := TX0) (N := 11) hx hb hts hinX0 tyX0 tyX0_ok nmX0 hown hK hP hD hS 0 rfl rfl 5 (by decide) (hts (.fieldLink RX0 29 "GaugeBoard$Gauge" "value" "J") (by decide +kernel)) (fun _ h9 => h9) rfl (by decide +kernel) rfl rfl (Nat.le_of_ble_eq_true rfl) dX0_takeValue_95 (fun H locs hP hD hS => ?_)
      have hP : va_P D vwCl [(q.1, .inr (0, [.ref q.2.1, .ref q.2.2.1, .ref q.2.2.2, .int (gK x), .int (gC x), .long b0, .int (1 : Int32), .long b0, .long b0, .int ((gR x) + (1 : Int32)), .int (gW x)])), (q.2.1, .inl (cI, 8, .inl (gSo x))), (q.2.2.1, .inl (cI, 8, .inl (gSr x))), (q.2.2.2, .inl (cJ, 8, .inr (.inl (gOp x))))] H := hP
      have hD : va_D A [(q.1, .inr (0, [.ref q.2.1, .ref q.2.2.1, .ref q.2.2.2, .int (gK x), .int (gC x), .long b0, .int (1 : Int32), .long b0, .long b0, .int ((gR x) + (1 : Int32)), .int (gW x)])), (q.2.1, .inl (cI, 8, .inl (gSo x))), (q.2.2.1, .inl (cI, 8, .inl (gSr x))), (q.2.2.2, .inl (cJ, 8, .inr (.inl (gOp x))))] := hD
      have hF : F_X0_takeValue x b0 = (gSo x, gSr x, gOp x, gK x, gC x, b0, (1 : Int32), b0, b0, (gR x) + (1 : Int32), gW x) := by
        unfold F_X0_takeValue; rw [if_pos c_1, if_pos c_2]
      have hP9 : va_P D vwCl (GZ cI cJ q (gSo x, gSr x, gOp x, gK x, gC x, b0, (1 : Int32), b0, b0, (gR x) + (1 : Int32), gW x)) H := by rw [GZ_eq]; exact hP
      have hD9 : va_D A (GZ cI cJ q (gSo x, gSr x, gOp x, gK x, gC x, b0, (1 : Int32), b0, b0, (gR x) + (1 : Int32), gW x)) := by rw [GZ_eq]; exact hD
      rw [← hF] at hP9 hD9
      exact W.vret hx hb hr (fun t ht hW => ⟨rfl, _, rfl, by rw [ht]; exact hP9, hD9, (hS.F ht).1, (hS.F ht).2⟩) hS.2.2 dX0_takeValue_98
    · refine lv_aload_n hx hb dX0_takeValue_42 rfl (lv_at hl 0 rfl) ?_
      refine va_get (D := D) (ci := 0) (v := .long (gH x)) (C := RX0) (T := TX0) (N := 11) hx hb hts hinX0 hown hK hP 0 rfl rfl 7 (by decide) (hts (.fieldLink RX0 54 "GaugeBoard$Gauge" "high" "J") (by decide +kernel)) (fun _ h9 => h9) rfl dX0_takeValue_43 ?_
      refine lv_lload_n hx hb dX0_takeValue_46 rfl (lv_at hl 1 rfl) ?_
      refine lv_aload_n hx hb dX0_takeValue_47 rfl (lv_at hl 0 rfl) ?_
      refine va_get (D := D) (ci := 0) (v := .int (gK x)) (C := RX0) (T := TX0) (N := 11) hx hb hts hinX0 hown hK hP 0 rfl rfl 3 (by decide) (hts (.fieldLink RX0 22 "GaugeBoard$Gauge" "kind" "I") (by decide +kernel)) (fun _ h9 => h9) rfl dX0_takeValue_48 ?_
      refine pu_SN (As := [.long (gH x), .long b0, .int (gK x)]) (rest := [.ref q.1]) ⟨hx, hb, hml, hown, hts⟩ (c_X1_higher l H (gH x) b0 (gK x)) puK_T trivial ⟨va_cnB 3 hts gX0_takeValue_X1_higher_n57 rfl rfl rfl (hKW.2 _ (List.mem_of_getElem? (i := 17) rfl)) (hts (.initialized RX1) (by decide +kernel)) (by decide +kernel) ⟨Nat.le_of_ble_eq_true rfl, Nat.le_of_ble_eq_true rfl⟩, hts (.static yX1_higher) (by decide +kernel), trivial⟩ rfl hl.1 rfl (Nat.le_of_ble_eq_true rfl) dX0_takeValue_51 ⟨Nat.zero_le _, Nat.zero_le _⟩ ?_
      refine W.eq (g2 := F0 m 54 ls [.long (f_X1_higher (gH x) b0 (gK x)), .ref q.1]) rfl ?_
      refine lv_goto (tgt := 58) hx hb dX0_takeValue_54 (by decide) ?_
      refine va_put (D := D) (ci := 0) (v := .long (f_X1_higher (gH x) b0 (gK x))) (ty := .long) (C := RX0) (T := TX0) (N := 11) hx hb hts hinX0 tyX0 tyX0_ok nmX0 hown hK hP hD hS 0 rfl rfl 7 (by decide) (hts (.fieldLink RX0 54 "GaugeBoard$Gauge" "high" "J") (by decide +kernel)) (fun _ h9 => h9) rfl (by decide +kernel) rfl rfl (Nat.le_of_ble_eq_true rfl) dX0_takeValue_58 (fun H locs hP hD hS => ?_)
      have hP : va_P D vwCl [(q.1, .inr (0, [.ref q.2.1, .ref q.2.2.1, .ref q.2.2.2, .int (gK x), .int (gC x), .long (gV x), .int (gM x), .long (f_X1_higher (gH x) b0 (gK x)), .long (gL x), .int ((gR x) + (1 : Int32)), .int (gW x)])), (q.2.1, .inl (cI, 8, .inl (gSo x))), (q.2.2.1, .inl (cI, 8, .inl (gSr x))), (q.2.2.2, .inl (cJ, 8, .inr (.inl (gOp x))))] H := hP
      have hD : va_D A [(q.1, .inr (0, [.ref q.2.1, .ref q.2.2.1, .ref q.2.2.2, .int (gK x), .int (gC x), .long (gV x), .int (gM x), .long (f_X1_higher (gH x) b0 (gK x)), .long (gL x), .int ((gR x) + (1 : Int32)), .int (gW x)])), (q.2.1, .inl (cI, 8, .inl (gSo x))), (q.2.2.1, .inl (cI, 8, .inl (gSr x))), (q.2.2.2, .inl (cJ, 8, .inr (.inl (gOp x))))] := hD
      refine lv_aload_n hx hb dX0_takeValue_61 rfl (lv_at hl 0 rfl) ?_
      refine lv_aload_n hx hb dX0_takeValue_62 rfl (lv_at hl 0 rfl) ?_
      refine va_get (D := D) (ci := 0) (v := .int (gM x)) (C := RX0) (T := TX0) (N := 11) hx hb hts hinX0 hown hK hP 0 rfl rfl 6 (by decide) (hts (.fieldLink RX0 33 "GaugeBoard$Gauge" "marked" "Z") (by decide +kernel)) (fun _ h9 => h9) rfl dX0_takeValue_63 ?_
      refine lv_if_eq (tgt := 84) hx hb dX0_takeValue_66 (by decide) (fun z_9 => absurd z_9 c_2) (fun z_9 => ?_)
      refine lv_aload_n hx hb dX0_takeValue_69 rfl (lv_at hl 0 rfl) ?_
      refine va_get (D := D) (ci := 0) (v := .long (gL x)) (C := RX0) (T := TX0) (N := 11) hx hb hts hinX0 hown hK hP 0 rfl rfl 8 (by decide) (hts (.fieldLink RX0 61 "GaugeBoard$Gauge" "low" "J") (by decide +kernel)) (fun _ h9 => h9) rfl dX0_takeValue_70 ?_
      refine lv_lload_n hx hb dX0_takeValue_73 rfl (lv_at hl 1 rfl) ?_
      refine lv_aload_n hx hb dX0_takeValue_74 rfl (lv_at hl 0 rfl) ?_
      refine va_get (D := D) (ci := 0) (v := .int (gK x)) (C := RX0) (T := TX0) (N := 11) hx hb hts hinX0 hown hK hP 0 rfl rfl 3 (by decide) (hts (.fieldLink RX0 22 "GaugeBoard$Gauge" "kind" "I") (by decide +kernel)) (fun _ h9 => h9) rfl dX0_takeValue_75 ?_
      refine pu_SN (As := [.long (gL x), .long b0, .int (gK x)]) (rest := [.ref q.1]) ⟨hx, hb, hml, hown, hts⟩ (c_X1_lower l H (gL x) b0 (gK x)) puK_T trivial ⟨va_cnB 3 hts gX0_takeValue_X1_lower_n64 rfl rfl rfl (hKW.2 _ (List.mem_of_getElem? (i := 18) rfl)) (hts (.initialized RX1) (by decide +kernel)) (by decide +kernel) ⟨Nat.le_of_ble_eq_true rfl, Nat.le_of_ble_eq_true rfl⟩, hts (.static yX1_lower) (by decide +kernel), trivial⟩ rfl hl.1 rfl (Nat.le_of_ble_eq_true rfl) dX0_takeValue_78 ⟨Nat.zero_le _, Nat.zero_le _⟩ ?_
      refine W.eq (g2 := F0 m 81 ls [.long (f_X1_lower (gL x) b0 (gK x)), .ref q.1]) rfl ?_
      refine lv_goto (tgt := 85) hx hb dX0_takeValue_81 (by decide) ?_
      refine va_put (D := D) (ci := 0) (v := .long (f_X1_lower (gL x) b0 (gK x))) (ty := .long) (C := RX0) (T := TX0) (N := 11) hx hb hts hinX0 tyX0 tyX0_ok nmX0 hown hK hP hD hS 0 rfl rfl 8 (by decide) (hts (.fieldLink RX0 61 "GaugeBoard$Gauge" "low" "J") (by decide +kernel)) (fun _ h9 => h9) rfl (by decide +kernel) rfl rfl (Nat.le_of_ble_eq_true rfl) dX0_takeValue_85 (fun H locs hP hD hS => ?_)
      have hP : va_P D vwCl [(q.1, .inr (0, [.ref q.2.1, .ref q.2.2.1, .ref q.2.2.2, .int (gK x), .int (gC x), .long (gV x), .int (gM x), .long (f_X1_higher (gH x) b0 (gK x)), .long (f_X1_lower (gL x) b0 (gK x)), .int ((gR x) + (1 : Int32)), .int (gW x)])), (q.2.1, .inl (cI, 8, .inl (gSo x))), (q.2.2.1, .inl (cI, 8, .inl (gSr x))), (q.2.2.2, .inl (cJ, 8, .inr (.inl (gOp x))))] H := hP
      have hD : va_D A [(q.1, .inr (0, [.ref q.2.1, .ref q.2.2.1, .ref q.2.2.2, .int (gK x), .int (gC x), .long (gV x), .int (gM x), .long (f_X1_higher (gH x) b0 (gK x)), .long (f_X1_lower (gL x) b0 (gK x)), .int ((gR x) + (1 : Int32)), .int (gW x)])), (q.2.1, .inl (cI, 8, .inl (gSo x))), (q.2.2.1, .inl (cI, 8, .inl (gSr x))), (q.2.2.2, .inl (cJ, 8, .inr (.inl (gOp x))))] := hD
      refine lv_aload_n hx hb dX0_takeValue_88 rfl (lv_at hl 0 rfl) ?_
      refine lv_iconst (v := 1) hx hb dX0_takeValue_89 (by decide) ?_
      refine va_put (D := D) (ci := 0) (v := .int (1 : Int32)) (ty := .boolean) (C := RX0) (T := TX0) (N := 11) hx hb hts hinX0 tyX0 tyX0_ok nmX0 hown hK hP hD hS 0 rfl rfl 6 (by decide) (hts (.fieldLink RX0 33 "GaugeBoard$Gauge" "marked" "Z") (by decide +kernel)) (fun _ h9 => h9) rfl (by decide +kernel) rfl rfl (Nat.le_of_ble_eq_true rfl) dX0_takeValue_90 (fun H locs hP hD hS => ?_)
      have hP : va_P D vwCl [(q.1, .inr (0, [.ref q.2.1, .ref q.2.2.1, .ref q.2.2.2, .int (gK x), .int (gC x), .long (gV x), .int (1 : Int32), .long (f_X1_higher (gH x) b0 (gK x)), .long (f_X1_lower (gL x) b0 (gK x)), .int ((gR x) + (1 : Int32)), .int (gW x)])), (q.2.1, .inl (cI, 8, .inl (gSo x))), (q.2.2.1, .inl (cI, 8, .inl (gSr x))), (q.2.2.2, .inl (cJ, 8, .inr (.inl (gOp x))))] H := hP
      have hD : va_D A [(q.1, .inr (0, [.ref q.2.1, .ref q.2.2.1, .ref q.2.2.2, .int (gK x), .int (gC x), .long (gV x), .int (1 : Int32), .long (f_X1_higher (gH x) b0 (gK x)), .long (f_X1_lower (gL x) b0 (gK x)), .int ((gR x) + (1 : Int32)), .int (gW x)])), (q.2.1, .inl (cI, 8, .inl (gSo x))), (q.2.2.1, .inl (cI, 8, .inl (gSr x))), (q.2.2.2, .inl (cJ, 8, .inr (.inl (gOp x))))] := hD
      refine lv_aload_n hx hb dX0_takeValue_93 rfl (lv_at hl 0 rfl) ?_
      refine lv_lload_n hx hb dX0_takeValue_94 rfl (lv_at hl 1 rfl) ?_
      refine va_put (D := D) (ci := 0) (v := .long b0) (ty := .long) (C := RX0) (T := TX0) (N := 11) hx hb hts hinX0 tyX0 tyX0_ok nmX0 hown hK hP hD hS 0 rfl rfl 5 (by decide) (hts (.fieldLink RX0 29 "GaugeBoard$Gauge" "value" "J") (by decide +kernel)) (fun _ h9 => h9) rfl (by decide +kernel) rfl rfl (Nat.le_of_ble_eq_true rfl) dX0_takeValue_95 (fun H locs hP hD hS => ?_)
      have hP : va_P D vwCl [(q.1, .inr (0, [.ref q.2.1, .ref q.2.2.1, .ref q.2.2.2, .int (gK x), .int (gC x), .long b0, .int (1 : Int32), .long (f_X1_higher (gH x) b0 (gK x)), .long (f_X1_lower (gL x) b0 (gK x)), .int ((gR x) + (1 : Int32)), .int (gW x)])), (q.2.1, .inl (cI, 8, .inl (gSo x))), (q.2.2.1, .inl (cI, 8, .inl (gSr x))), (q.2.2.2, .inl (cJ, 8, .inr (.inl (gOp x))))] H := hP
      have hD : va_D A [(q.1, .inr (0, [.ref q.2.1, .ref q.2.2.1, .ref q.2.2.2, .int (gK x), .int (gC x), .long b0, .int (1 : Int32), .long (f_X1_higher (gH x) b0 (gK x)), .long (f_X1_lower (gL x) b0 (gK x)), .int ((gR x) + (1 : Int32)), .int (gW x)])), (q.2.1, .inl (cI, 8, .inl (gSo x))), (q.2.2.1, .inl (cI, 8, .inl (gSr x))), (q.2.2.2, .inl (cJ, 8, .inr (.inl (gOp x))))] := hD
      have hF : F_X0_takeValue x b0 = (gSo x, gSr x, gOp x, gK x, gC x, b0, (1 : Int32), f_X1_higher (gH x) b0 (gK x), f_X1_lower (gL x) b0 (gK x), (gR x) + (1 : Int32), gW x) := by
        unfold F_X0_takeValue; rw [if_pos c_1, if_neg c_2]
      have hP9 : va_P D vwCl (GZ cI cJ q (gSo x, gSr x, gOp x, gK x, gC x, b0, (1 : Int32), f_X1_higher (gH x) b0 (gK x), f_X1_lower (gL x) b0 (gK x), (gR x) + (1 : Int32), gW x)) H := by rw [GZ_eq]; exact hP
      have hD9 : va_D A (GZ cI cJ q (gSo x, gSr x, gOp x, gK x, gC x, b0, (1 : Int32), f_X1_higher (gH x) b0 (gK x), f_X1_lower (gL x) b0 (gK x), (gR x) + (1 : Int32), gW x)) := by rw [GZ_eq]; exact hD
      rw [← hF] at hP9 hD9
      exact W.vret hx hb hr (fun t ht hW => ⟨rfl, _, rfl, by rw [ht]; exact hP9, hD9, (hS.F ht).1, (hS.F ht).2⟩) hS.2.2 dX0_takeValue_98
  · refine lv_aload_n hx hb dX0_takeValue_24 rfl (lv_at hl 0 rfl) ?_
    refine lv_dup hx hb dX0_takeValue_25 rfl ?_
    refine va_get (D := D) (ci := 0) (v := .int (gW x)) (C := RX0) (T := TX0) (N := 11) hx hb hts hinX0 hown hK hP 0 rfl rfl 10 (by decide) (hts (.fieldLink RX0 40 "GaugeBoard$Gauge" "swings" "I") (by decide +kernel)) (fun _ h9 => h9) rfl dX0_takeValue_26 ?_
    refine lv_iconst (v := 1) hx hb dX0_takeValue_29 (by decide) ?_
    refine lv_iadd hx hb dX0_takeValue_30 ?_
    refine va_put (D := D) (ci := 0) (v := .int ((gW x) + (1 : Int32))) (ty := .int) (C := RX0) (T := TX0) (N := 11) hx hb hts hinX0 tyX0 tyX0_ok nmX0 hown hK hP hD hS 0 rfl rfl 10 (by decide) (hts (.fieldLink RX0 40 "GaugeBoard$Gauge" "swings" "I") (by decide +kernel)) (fun _ h9 => h9) rfl (by decide +kernel) rfl rfl (Nat.le_of_ble_eq_true rfl) dX0_takeValue_31 (fun H locs hP hD hS => ?_)
    have hP : va_P D vwCl [(q.1, .inr (0, [.ref q.2.1, .ref q.2.2.1, .ref q.2.2.2, .int (gK x), .int (gC x), .long (gV x), .int (gM x), .long (gH x), .long (gL x), .int ((gR x) + (1 : Int32)), .int ((gW x) + (1 : Int32))])), (q.2.1, .inl (cI, 8, .inl (gSo x))), (q.2.2.1, .inl (cI, 8, .inl (gSr x))), (q.2.2.2, .inl (cJ, 8, .inr (.inl (gOp x))))] H := hP
    have hD : va_D A [(q.1, .inr (0, [.ref q.2.1, .ref q.2.2.1, .ref q.2.2.2, .int (gK x), .int (gC x), .long (gV x), .int (gM x), .long (gH x), .long (gL x), .int ((gR x) + (1 : Int32)), .int ((gW x) + (1 : Int32))])), (q.2.1, .inl (cI, 8, .inl (gSo x))), (q.2.2.1, .inl (cI, 8, .inl (gSr x))), (q.2.2.2, .inl (cJ, 8, .inr (.inl (gOp x))))] := hD
    refine lv_aload_n hx hb dX0_takeValue_34 rfl (lv_at hl 0 rfl) ?_
    refine lv_aload_n hx hb dX0_takeValue_35 rfl (lv_at hl 0 rfl) ?_
    refine va_get (D := D) (ci := 0) (v := .int (gM x)) (C := RX0) (T := TX0) (N := 11) hx hb hts hinX0 hown hK hP 0 rfl rfl 6 (by decide) (hts (.fieldLink RX0 33 "GaugeBoard$Gauge" "marked" "Z") (by decide +kernel)) (fun _ h9 => h9) rfl dX0_takeValue_36 ?_
    refine lv_if_eq (tgt := 57) hx hb dX0_takeValue_39 (by decide) (fun c_3 => ?_) (fun c_3 => ?_)
    · refine lv_lload_n hx hb dX0_takeValue_57 rfl (lv_at hl 1 rfl) ?_
      refine va_put (D := D) (ci := 0) (v := .long b0) (ty := .long) (C := RX0) (T := TX0) (N := 11) hx hb hts hinX0 tyX0 tyX0_ok nmX0 hown hK hP hD hS 0 rfl rfl 7 (by decide) (hts (.fieldLink RX0 54 "GaugeBoard$Gauge" "high" "J") (by decide +kernel)) (fun _ h9 => h9) rfl (by decide +kernel) rfl rfl (Nat.le_of_ble_eq_true rfl) dX0_takeValue_58 (fun H locs hP hD hS => ?_)
      have hP : va_P D vwCl [(q.1, .inr (0, [.ref q.2.1, .ref q.2.2.1, .ref q.2.2.2, .int (gK x), .int (gC x), .long (gV x), .int (gM x), .long b0, .long (gL x), .int ((gR x) + (1 : Int32)), .int ((gW x) + (1 : Int32))])), (q.2.1, .inl (cI, 8, .inl (gSo x))), (q.2.2.1, .inl (cI, 8, .inl (gSr x))), (q.2.2.2, .inl (cJ, 8, .inr (.inl (gOp x))))] H := hP
      have hD : va_D A [(q.1, .inr (0, [.ref q.2.1, .ref q.2.2.1, .ref q.2.2.2, .int (gK x), .int (gC x), .long (gV x), .int (gM x), .long b0, .long (gL x), .int ((gR x) + (1 : Int32)), .int ((gW x) + (1 : Int32))])), (q.2.1, .inl (cI, 8, .inl (gSo x))), (q.2.2.1, .inl (cI, 8, .inl (gSr x))), (q.2.2.2, .inl (cJ, 8, .inr (.inl (gOp x))))] := hD
      refine lv_aload_n hx hb dX0_takeValue_61 rfl (lv_at hl 0 rfl) ?_
      refine lv_aload_n hx hb dX0_takeValue_62 rfl (lv_at hl 0 rfl) ?_
      refine va_get (D := D) (ci := 0) (v := .int (gM x)) (C := RX0) (T := TX0) (N := 11) hx hb hts hinX0 hown hK hP 0 rfl rfl 6 (by decide) (hts (.fieldLink RX0 33 "GaugeBoard$Gauge" "marked" "Z") (by decide +kernel)) (fun _ h9 => h9) rfl dX0_takeValue_63 ?_
      refine lv_if_eq (tgt := 84) hx hb dX0_takeValue_66 (by decide) (fun z_9 => ?_) (fun z_9 => absurd c_3 z_9)
      refine lv_lload_n hx hb dX0_takeValue_84 rfl (lv_at hl 1 rfl) ?_
      refine va_put (D := D) (ci := 0) (v := .long b0) (ty := .long) (C := RX0) (T := TX0) (N := 11) hx hb hts hinX0 tyX0 tyX0_ok nmX0 hown hK hP hD hS 0 rfl rfl 8 (by decide) (hts (.fieldLink RX0 61 "GaugeBoard$Gauge" "low" "J") (by decide +kernel)) (fun _ h9 => h9) rfl (by decide +kernel) rfl rfl (Nat.le_of_ble_eq_true rfl) dX0_takeValue_85 (fun H locs hP hD hS => ?_)
      have hP : va_P D vwCl [(q.1, .inr (0, [.ref q.2.1, .ref q.2.2.1, .ref q.2.2.2, .int (gK x), .int (gC x), .long (gV x), .int (gM x), .long b0, .long b0, .int ((gR x) + (1 : Int32)), .int ((gW x) + (1 : Int32))])), (q.2.1, .inl (cI, 8, .inl (gSo x))), (q.2.2.1, .inl (cI, 8, .inl (gSr x))), (q.2.2.2, .inl (cJ, 8, .inr (.inl (gOp x))))] H := hP
      have hD : va_D A [(q.1, .inr (0, [.ref q.2.1, .ref q.2.2.1, .ref q.2.2.2, .int (gK x), .int (gC x), .long (gV x), .int (gM x), .long b0, .long b0, .int ((gR x) + (1 : Int32)), .int ((gW x) + (1 : Int32))])), (q.2.1, .inl (cI, 8, .inl (gSo x))), (q.2.2.1, .inl (cI, 8, .inl (gSr x))), (q.2.2.2, .inl (cJ, 8, .inr (.inl (gOp x))))] := hD
      refine lv_aload_n hx hb dX0_takeValue_88 rfl (lv_at hl 0 rfl) ?_
      refine lv_iconst (v := 1) hx hb dX0_takeValue_89 (by decide) ?_
      refine va_put (D := D) (ci := 0) (v := .int (1 : Int32)) (ty := .boolean) (C := RX0) (T := TX0) (N := 11) hx hb hts hinX0 tyX0 tyX0_ok nmX0 hown hK hP hD hS 0 rfl rfl 6 (by decide) (hts (.fieldLink RX0 33 "GaugeBoard$Gauge" "marked" "Z") (by decide +kernel)) (fun _ h9 => h9) rfl (by decide +kernel) rfl rfl (Nat.le_of_ble_eq_true rfl) dX0_takeValue_90 (fun H locs hP hD hS => ?_)
      have hP : va_P D vwCl [(q.1, .inr (0, [.ref q.2.1, .ref q.2.2.1, .ref q.2.2.2, .int (gK x), .int (gC x), .long (gV x), .int (1 : Int32), .long b0, .long b0, .int ((gR x) + (1 : Int32)), .int ((gW x) + (1 : Int32))])), (q.2.1, .inl (cI, 8, .inl (gSo x))), (q.2.2.1, .inl (cI, 8, .inl (gSr x))), (q.2.2.2, .inl (cJ, 8, .inr (.inl (gOp x))))] H := hP
      have hD : va_D A [(q.1, .inr (0, [.ref q.2.1, .ref q.2.2.1, .ref q.2.2.2, .int (gK x), .int (gC x), .long (gV x), .int (1 : Int32), .long b0, .long b0, .int ((gR x) + (1 : Int32)), .int ((gW x) + (1 : Int32))])), (q.2.1, .inl (cI, 8, .inl (gSo x))), (q.2.2.1, .inl (cI, 8, .inl (gSr x))), (q.2.2.2, .inl (cJ, 8, .inr (.inl (gOp x))))] := hD
      refine lv_aload_n hx hb dX0_takeValue_93 rfl (lv_at hl 0 rfl) ?_
      refine lv_lload_n hx hb dX0_takeValue_94 rfl (lv_at hl 1 rfl) ?_
      refine va_put (D := D) (ci := 0) (v := .long b0) (ty := .long) (C := RX0) (T := TX0) (N := 11) hx hb hts hinX0 tyX0 tyX0_ok nmX0 hown hK hP hD hS 0 rfl rfl 5 (by decide) (hts (.fieldLink RX0 29 "GaugeBoard$Gauge" "value" "J") (by decide +kernel)) (fun _ h9 => h9) rfl (by decide +kernel) rfl rfl (Nat.le_of_ble_eq_true rfl) dX0_takeValue_95 (fun H locs hP hD hS => ?_)
      have hP : va_P D vwCl [(q.1, .inr (0, [.ref q.2.1, .ref q.2.2.1, .ref q.2.2.2, .int (gK x), .int (gC x), .long b0, .int (1 : Int32), .long b0, .long b0, .int ((gR x) + (1 : Int32)), .int ((gW x) + (1 : Int32))])), (q.2.1, .inl (cI, 8, .inl (gSo x))), (q.2.2.1, .inl (cI, 8, .inl (gSr x))), (q.2.2.2, .inl (cJ, 8, .inr (.inl (gOp x))))] H := hP
      have hD : va_D A [(q.1, .inr (0, [.ref q.2.1, .ref q.2.2.1, .ref q.2.2.2, .int (gK x), .int (gC x), .long b0, .int (1 : Int32), .long b0, .long b0, .int ((gR x) + (1 : Int32)), .int ((gW x) + (1 : Int32))])), (q.2.1, .inl (cI, 8, .inl (gSo x))), (q.2.2.1, .inl (cI, 8, .inl (gSr x))), (q.2.2.2, .inl (cJ, 8, .inr (.inl (gOp x))))] := hD
      have hF : F_X0_takeValue x b0 = (gSo x, gSr x, gOp x, gK x, gC x, b0, (1 : Int32), b0, b0, (gR x) + (1 : Int32), (gW x) + (1 : Int32)) := by
        unfold F_X0_takeValue; rw [if_neg c_1, if_pos c_3]
      have hP9 : va_P D vwCl (GZ cI cJ q (gSo x, gSr x, gOp x, gK x, gC x, b0, (1 : Int32), b0, b0, (gR x) + (1 : Int32), (gW x) + (1 : Int32))) H := by rw [GZ_eq]; exact hP
      have hD9 : va_D A (GZ cI cJ q (gSo x, gSr x, gOp x, gK x, gC x, b0, (1 : Int32), b0, b0, (gR x) + (1 : Int32), (gW x) + (1 : Int32))) := by rw [GZ_eq]; exact hD
      rw [← hF] at hP9 hD9
      exact W.vret hx hb hr (fun t ht hW => ⟨rfl, _, rfl, by rw [ht]; exact hP9, hD9, (hS.F ht).1, (hS.F ht).2⟩) hS.2.2 dX0_takeValue_98
    · refine lv_aload_n hx hb dX0_takeValue_42 rfl (lv_at hl 0 rfl) ?_
      refine va_get (D := D) (ci := 0) (v := .long (gH x)) (C := RX0) (T := TX0) (N := 11) hx hb hts hinX0 hown hK hP 0 rfl rfl 7 (by decide) (hts (.fieldLink RX0 54 "GaugeBoard$Gauge" "high" "J") (by decide +kernel)) (fun _ h9 => h9) rfl dX0_takeValue_43 ?_
      refine lv_lload_n hx hb dX0_takeValue_46 rfl (lv_at hl 1 rfl) ?_
      refine lv_aload_n hx hb dX0_takeValue_47 rfl (lv_at hl 0 rfl) ?_
      refine va_get (D := D) (ci := 0) (v := .int (gK x)) (C := RX0) (T := TX0) (N := 11) hx hb hts hinX0 hown hK hP 0 rfl rfl 3 (by decide) (hts (.fieldLink RX0 22 "GaugeBoard$Gauge" "kind" "I") (by decide +kernel)) (fun _ h9 => h9) rfl dX0_takeValue_48 ?_
      refine pu_SN (As := [.long (gH x), .long b0, .int (gK x)]) (rest := [.ref q.1]) ⟨hx, hb, hml, hown, hts⟩ (c_X1_higher l H (gH x) b0 (gK x)) puK_T trivial ⟨va_cnB 3 hts gX0_takeValue_X1_higher_n57 rfl rfl rfl (hKW.2 _ (List.mem_of_getElem? (i := 17) rfl)) (hts (.initialized RX1) (by decide +kernel)) (by decide +kernel) ⟨Nat.le_of_ble_eq_true rfl, Nat.le_of_ble_eq_true rfl⟩, hts (.static yX1_higher) (by decide +kernel), trivial⟩ rfl hl.1 rfl (Nat.le_of_ble_eq_true rfl) dX0_takeValue_51 ⟨Nat.zero_le _, Nat.zero_le _⟩ ?_
      refine W.eq (g2 := F0 m 54 ls [.long (f_X1_higher (gH x) b0 (gK x)), .ref q.1]) rfl ?_
      refine lv_goto (tgt := 58) hx hb dX0_takeValue_54 (by decide) ?_
      refine va_put (D := D) (ci := 0) (v := .long (f_X1_higher (gH x) b0 (gK x))) (ty := .long) (C := RX0) (T := TX0) (N := 11) hx hb hts hinX0 tyX0 tyX0_ok nmX0 hown hK hP hD hS 0 rfl rfl 7 (by decide) (hts (.fieldLink RX0 54 "GaugeBoard$Gauge" "high" "J") (by decide +kernel)) (fun _ h9 => h9) rfl (by decide +kernel) rfl rfl (Nat.le_of_ble_eq_true rfl) dX0_takeValue_58 (fun H locs hP hD hS => ?_)
      have hP : va_P D vwCl [(q.1, .inr (0, [.ref q.2.1, .ref q.2.2.1, .ref q.2.2.2, .int (gK x), .int (gC x), .long (gV x), .int (gM x), .long (f_X1_higher (gH x) b0 (gK x)), .long (gL x), .int ((gR x) + (1 : Int32)), .int ((gW x) + (1 : Int32))])), (q.2.1, .inl (cI, 8, .inl (gSo x))), (q.2.2.1, .inl (cI, 8, .inl (gSr x))), (q.2.2.2, .inl (cJ, 8, .inr (.inl (gOp x))))] H := hP
      have hD : va_D A [(q.1, .inr (0, [.ref q.2.1, .ref q.2.2.1, .ref q.2.2.2, .int (gK x), .int (gC x), .long (gV x), .int (gM x), .long (f_X1_higher (gH x) b0 (gK x)), .long (gL x), .int ((gR x) + (1 : Int32)), .int ((gW x) + (1 : Int32))])), (q.2.1, .inl (cI, 8, .inl (gSo x))), (q.2.2.1, .inl (cI, 8, .inl (gSr x))), (q.2.2.2, .inl (cJ, 8, .inr (.inl (gOp x))))] := hD
      refine lv_aload_n hx hb dX0_takeValue_61 rfl (lv_at hl 0 rfl) ?_
      refine lv_aload_n hx hb dX0_takeValue_62 rfl (lv_at hl 0 rfl) ?_
      refine va_get (D := D) (ci := 0) (v := .int (gM x)) (C := RX0) (T := TX0) (N := 11) hx hb hts hinX0 hown hK hP 0 rfl rfl 6 (by decide) (hts (.fieldLink RX0 33 "GaugeBoard$Gauge" "marked" "Z") (by decide +kernel)) (fun _ h9 => h9) rfl dX0_takeValue_63 ?_
      refine lv_if_eq (tgt := 84) hx hb dX0_takeValue_66 (by decide) (fun z_9 => absurd z_9 c_3) (fun z_9 => ?_)
      refine lv_aload_n hx hb dX0_takeValue_69 rfl (lv_at hl 0 rfl) ?_
      refine va_get (D := D) (ci := 0) (v := .long (gL x)) (C := RX0) (T := TX0) (N := 11) hx hb hts hinX0 hown hK hP 0 rfl rfl 8 (by decide) (hts (.fieldLink RX0 61 "GaugeBoard$Gauge" "low" "J") (by decide +kernel)) (fun _ h9 => h9) rfl dX0_takeValue_70 ?_
      refine lv_lload_n hx hb dX0_takeValue_73 rfl (lv_at hl 1 rfl) ?_
      refine lv_aload_n hx hb dX0_takeValue_74 rfl (lv_at hl 0 rfl) ?_
      refine va_get (D := D) (ci := 0) (v := .int (gK x)) (C := RX0) (T := TX0) (N := 11) hx hb hts hinX0 hown hK hP 0 rfl rfl 3 (by decide) (hts (.fieldLink RX0 22 "GaugeBoard$Gauge" "kind" "I") (by decide +kernel)) (fun _ h9 => h9) rfl dX0_takeValue_75 ?_
      refine pu_SN (As := [.long (gL x), .long b0, .int (gK x)]) (rest := [.ref q.1]) ⟨hx, hb, hml, hown, hts⟩ (c_X1_lower l H (gL x) b0 (gK x)) puK_T trivial ⟨va_cnB 3 hts gX0_takeValue_X1_lower_n64 rfl rfl rfl (hKW.2 _ (List.mem_of_getElem? (i := 18) rfl)) (hts (.initialized RX1) (by decide +kernel)) (by decide +kernel) ⟨Nat.le_of_ble_eq_true rfl, Nat.le_of_ble_eq_true rfl⟩, hts (.static yX1_lower) (by decide +kernel), trivial⟩ rfl hl.1 rfl (Nat.le_of_ble_eq_true rfl) dX0_takeValue_78 ⟨Nat.zero_le _, Nat.zero_le _⟩ ?_
      refine W.eq (g2 := F0 m 81 ls [.long (f_X1_lower (gL x) b0 (gK x)), .ref q.1]) rfl ?_
      refine lv_goto (tgt := 85) hx hb dX0_takeValue_81 (by decide) ?_
      refine va_put (D := D) (ci := 0) (v := .long (f_X1_lower (gL x) b0 (gK x))) (ty := .long) (C := RX0) (T := TX0) (N := 11) hx hb hts hinX0 tyX0 tyX0_ok nmX0 hown hK hP hD hS 0 rfl rfl 8 (by decide) (hts (.fieldLink RX0 61 "GaugeBoard$Gauge" "low" "J") (by decide +kernel)) (fun _ h9 => h9) rfl (by decide +kernel) rfl rfl (Nat.le_of_ble_eq_true rfl) dX0_takeValue_85 (fun H locs hP hD hS => ?_)
      have hP : va_P D vwCl [(q.1, .inr (0, [.ref q.2.1, .ref q.2.2.1, .ref q.2.2.2, .int (gK x), .int (gC x), .long (gV x), .int (gM x), .long (f_X1_higher (gH x) b0 (gK x)), .long (f_X1_lower (gL x) b0 (gK x)), .int ((gR x) + (1 : Int32)), .int ((gW x) + (1 : Int32))])), (q.2.1, .inl (cI, 8, .inl (gSo x))), (q.2.2.1, .inl (cI, 8, .inl (gSr x))), (q.2.2.2, .inl (cJ, 8, .inr (.inl (gOp x))))] H := hP
      have hD : va_D A [(q.1, .inr (0, [.ref q.2.1, .ref q.2.2.1, .ref q.2.2.2, .int (gK x), .int (gC x), .long (gV x), .int (gM x), .long (f_X1_higher (gH x) b0 (gK x)), .long (f_X1_lower (gL x) b0 (gK x)), .int ((gR x) + (1 : Int32)), .int ((gW x) + (1 : Int32))])), (q.2.1, .inl (cI, 8, .inl (gSo x))), (q.2.2.1, .inl (cI, 8, .inl (gSr x))), (q.2.2.2, .inl (cJ, 8, .inr (.inl (gOp x))))] := hD
      refine lv_aload_n hx hb dX0_takeValue_88 rfl (lv_at hl 0 rfl) ?_
      refine lv_iconst (v := 1) hx hb dX0_takeValue_89 (by decide) ?_
      refine va_put (D := D) (ci := 0) (v := .int (1 : Int32)) (ty := .boolean) (C := RX0) (T := TX0) (N := 11) hx hb hts hinX0 tyX0 tyX0_ok nmX0 hown hK hP hD hS 0 rfl rfl 6 (by decide) (hts (.fieldLink RX0 33 "GaugeBoard$Gauge" "marked" "Z") (by decide +kernel)) (fun _ h9 => h9) rfl (by decide +kernel) rfl rfl (Nat.le_of_ble_eq_true rfl) dX0_takeValue_90 (fun H locs hP hD hS => ?_)
      have hP : va_P D vwCl [(q.1, .inr (0, [.ref q.2.1, .ref q.2.2.1, .ref q.2.2.2, .int (gK x), .int (gC x), .long (gV x), .int (1 : Int32), .long (f_X1_higher (gH x) b0 (gK x)), .long (f_X1_lower (gL x) b0 (gK x)), .int ((gR x) + (1 : Int32)), .int ((gW x) + (1 : Int32))])), (q.2.1, .inl (cI, 8, .inl (gSo x))), (q.2.2.1, .inl (cI, 8, .inl (gSr x))), (q.2.2.2, .inl (cJ, 8, .inr (.inl (gOp x))))] H := hP
      have hD : va_D A [(q.1, .inr (0, [.ref q.2.1, .ref q.2.2.1, .ref q.2.2.2, .int (gK x), .int (gC x), .long (gV x), .int (1 : Int32), .long (f_X1_higher (gH x) b0 (gK x)), .long (f_X1_lower (gL x) b0 (gK x)), .int ((gR x) + (1 : Int32)), .int ((gW x) + (1 : Int32))])), (q.2.1, .inl (cI, 8, .inl (gSo x))), (q.2.2.1, .inl (cI, 8, .inl (gSr x))), (q.2.2.2, .inl (cJ, 8, .inr (.inl (gOp x))))] := hD
      refine lv_aload_n hx hb dX0_takeValue_93 rfl (lv_at hl 0 rfl) ?_
      refine lv_lload_n hx hb dX0_takeValue_94 rfl (lv_at hl 1 rfl) ?_
      refine va_put (D := D) (ci := 0) (v := .long b0) (ty := .long) (C := RX0) (T := TX0) (N := 11) hx hb hts hinX0 tyX0 tyX0_ok nmX0 hown hK hP hD hS 0 rfl rfl 5 (by decide) (hts (.fieldLink RX0 29 "GaugeBoard$Gauge" "value" "J") (by decide +kernel)) (fun _ h9 => h9) rfl (by decide +kernel) rfl rfl (Nat.le_of_ble_eq_true rfl) dX0_takeValue_95 (fun H locs hP hD hS => ?_)
      have hP : va_P D vwCl [(q.1, .inr (0, [.ref q.2.1, .ref q.2.2.1, .ref q.2.2.2, .int (gK x), .int (gC x), .long b0, .int (1 : Int32), .long (f_X1_higher (gH x) b0 (gK x)), .long (f_X1_lower (gL x) b0 (gK x)), .int ((gR x) + (1 : Int32)), .int ((gW x) + (1 : Int32))])), (q.2.1, .inl (cI, 8, .inl (gSo x))), (q.2.2.1, .inl (cI, 8, .inl (gSr x))), (q.2.2.2, .inl (cJ, 8, .inr (.inl (gOp x))))] H := hP
      have hD : va_D A [(q.1, .inr (0, [.ref q.2.1, .ref q.2.2.1, .ref q.2.2.2, .int (gK x), .int (gC x), .long b0, .int (1 : Int32), .long (f_X1_higher (gH x) b0 (gK x)), .long (f_X1_lower (gL x) b0 (gK x)), .int ((gR x) + (1 : Int32)), .int ((gW x) + (1 : Int32))])), (q.2.1, .inl (cI, 8, .inl (gSo x))), (q.2.2.1, .inl (cI, 8, .inl (gSr x))), (q.2.2.2, .inl (cJ, 8, .inr (.inl (gOp x))))] := hD
      have hF : F_X0_takeValue x b0 = (gSo x, gSr x, gOp x, gK x, gC x, b0, (1 : Int32), f_X1_higher (gH x) b0 (gK x), f_X1_lower (gL x) b0 (gK x), (gR x) + (1 : Int32), (gW x) + (1 : Int32)) := by
        unfold F_X0_takeValue; rw [if_neg c_1, if_neg c_3]
      have hP9 : va_P D vwCl (GZ cI cJ q (gSo x, gSr x, gOp x, gK x, gC x, b0, (1 : Int32), f_X1_higher (gH x) b0 (gK x), f_X1_lower (gL x) b0 (gK x), (gR x) + (1 : Int32), (gW x) + (1 : Int32))) H := by rw [GZ_eq]; exact hP
      have hD9 : va_D A (GZ cI cJ q (gSo x, gSr x, gOp x, gK x, gC x, b0, (1 : Int32), f_X1_higher (gH x) b0 (gK x), f_X1_lower (gL x) b0 (gK x), (gR x) + (1 : Int32), (gW x) + (1 : Int32))) := by rw [GZ_eq]; exact hD
      rw [← hF] at hP9 hD9
      exact W.vret hx hb hr (fun t ht hW => ⟨rfl, _, rfl, by rw [ht]; exact hP9, hD9, (hS.F ht).1, (hS.F ht).2⟩) hS.2.2 dX0_takeValue_98
