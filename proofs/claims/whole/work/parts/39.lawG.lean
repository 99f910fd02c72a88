set_option maxHeartbeats 4000000 in
set_option maxRecDepth 100000 in
theorem k_hand {p : Program} {l : Launch} {e : Env} {s : State} {m : MethodId} {below : List Frame} {meth : Method} {c : Code} {Q : State → Prop} {sb L : Nat} {xs : Nat → Int32} {D : va_G} {cI cJ cZ cG : ClassId} {Sim : (Nat → Option GS) → MS → Prop}
    (hx : p.tables.exec = Jvm.exec) (hb : c.code = code) (hml : c.maxLocals = 8) (hown : s.vm.findClass RL = some m.cls) (hts : ∀ w ∈ wsL_law, w.before #[Value.ref sb] s = true) (hX : va_X sb L xs s s.heap) (hsb : sb < s.heap.size) (hst : l.stackTraces = false) (hL : L ≤ 2560) (hKX : KX D cI cJ cZ cG s.heap.size s.heap s) (hSim : SimOK Sim)
    {H : Heap} {locs : List Loc} {cells slots : Nat} {o b P m0 : Nat} {ad : Nat → ga} {st : Nat → Option GS} {f : Nat → Int64} {a : Nat → Nat} {x : MS} (i : Nat) (hi : i + 5 ≤ L) (hP : va_P D vwCl (GM cI cJ cZ cG o b P ad st f m0 a x) H) (hD : va_D (fun q => s.heap.size ≤ q) (GM cI cJ cZ cG o b P ad st f m0 a x)) (hS : va_S (fun q => s.heap.size ≤ q) s.heap H locs) (hsim : Sim st x) (hrm : cells + 4 ≤ 601024 ∧ slots + 35 ≤ 7293034) {ls : Array Slot} (hl : lv_has ls 8 [(0, .ref sb), (1, .ref b), (2, .ref m0), (3, .ref o), (4, .int (nI i))])
    (kk : ∀ (H : Heap) (locs : List Loc) (ad : Nat → ga) (st : Nat → Option GS) (f : Nat → Int64) (x : MS) (ls : Array Slot), va_P D vwCl (GM cI cJ cZ cG o b P ad st f m0 a x) H → va_D (fun q => s.heap.size ≤ q) (GM cI cJ cZ cG o b P ad st f m0 a x) → va_S (fun q => s.heap.size ≤ q) s.heap H locs → Sim st x → lv_has ls 8 [(0, .ref sb), (1, .ref b), (2, .ref m0), (3, .ref o), (4, .int (nI i))] → W p l e room_1 s m #[Value.ref sb] below meth c H locs (cells + 4) (slots + 35) Q (F0 m 1170 ls [])) : W p l e room_1 s m #[Value.ref sb] below meth c H locs cells slots Q (F0 m 602 ls []) := by
  have hKW := hKX.1.1
  have hK := hKW.1
  refine lv_aload_n hx hb dL_law_602 rfl (lv_at hl 1 rfl) ?_
  refine lv_aload_n hx hb dL_law_603 rfl (lv_at hl 0 rfl) ?_
  refine lv_iload hx hb dL_law_604 (lv_at hl 4 rfl) ?_
  refine lv_iconst (v := 1) hx hb dL_law_606 (by decide) ?_
  refine lv_iadd hx hb dL_law_607 ?_
  refine va_sld hx hb hX hsb (Nat.not_le.mpr hsb) hS (sx 1 hi hL (by decide)) dL_law_608 ?_
  refine lv_aload_n hx hb dL_law_609 rfl (lv_at hl 0 rfl) ?_
  refine lv_iload hx hb dL_law_610 (lv_at hl 4 rfl) ?_
  refine lv_iconst (v := 2) hx hb dL_law_612 (by decide) ?_
  refine lv_iadd hx hb dL_law_613 ?_
  refine va_sld hx hb hX hsb (Nat.not_le.mpr hsb) hS (sx 2 hi hL (by decide)) dL_law_614 ?_
  refine lv_aload_n hx hb dL_law_615 rfl (lv_at hl 3 rfl) ?_
  have hP1 : va_P D vwCl (OW cI cJ cG o b P ad st f) H := wd_P.part hP (fun _ h => List.mem_append_left _ h)
  have hD1 : va_D (fun _ => True) (OW cI cJ cG o b P ad st f) := wd_D.left (hD.weaken (fun _ _ _ _ => trivial))
  refine wr_SW (A := (fun q => s.heap.size ≤ q)) (As := [.ref b, .int (xs ((nI i) + (1 : Int32)).toNatClampNeg), .int (xs ((nI i) + (2 : Int32)).toNatClampNeg), .ref o]) (rest := []) (Rw := MW cI cJ cZ m0 a x) ⟨hx, hb, hml, hown, hts⟩ (c_L_hand l hst s.heap.size H hS.1 D cI cJ cZ cG b P ad st o f (xs ((nI i) + (1 : Int32)).toNatClampNeg) (xs ((nI i) + (2 : Int32)).toNatClampNeg) (hSim.2.1 st x hsim) hP1 hD1) (KX_puK D cI cJ cZ cG s.heap.size H) (hKX.kept hS.2.1) (vx_cwSW 4 hts gL_law_L_hand rfl rfl rfl (by decide +kernel) ⟨Nat.le_of_ble_eq_true rfl, Nat.le_of_ble_eq_true rfl⟩) rfl hl.1 rfl (Nat.le_of_ble_eq_true rfl) dL_law_616 ⟨hrm.1, hrm.2⟩ hP hD hS (fun q h => h) (fun w1 H locs hw hP hD hS => ?_)
  obtain ⟨ad2, f2, hw, hv⟩ := hw
  subst hw
  obtain ⟨kc, hkc⟩ : ∃ u, u = (ob_hand st (xs ((nI i) + (1 : Int32)).toNatClampNeg) (xs ((nI i) + (2 : Int32)).toNatClampNeg)).1 := ⟨_, rfl⟩
  obtain ⟨st2, hst2⟩ : ∃ u, u = (ob_hand st (xs ((nI i) + (1 : Int32)).toNatClampNeg) (xs ((nI i) + (2 : Int32)).toNatClampNeg)).2.1 := ⟨_, rfl⟩
  rw [← hst2] at hP hD
  rw [← hkc] at hv
  refine W.eq (g2 := F0 m 619 ls [.int kc]) (by rw [hkc]; rfl) ?_
  refine lv_istore (lv' := [(5, .int kc), (0, .ref sb), (1, .ref b), (2, .ref m0), (3, .ref o), (4, .int (nI i))]) hx hb dL_law_619 hl (by decide) rfl (fun ls hl => ?_)
  refine lv_aload_n hx hb dL_law_621 rfl (lv_at hl 3 rfl) ?_
  refine lv_aload_n hx hb dL_law_622 rfl (lv_at hl 1 rfl) ?_
  refine lv_iload hx hb dL_law_623 (lv_at hl 5 rfl) ?_
  refine lv_iconst (v := 1) hx hb dL_law_625 (by decide) ?_
  refine lv_iadd hx hb dL_law_626 ?_
  refine va_sld hx hb hX hsb (Nat.not_le.mpr hsb) hS (sx 1 hi hL (by decide)) dL_law_627 ?_
  refine lv_aload_n hx hb dL_law_628 rfl (lv_at hl 1 rfl) ?_
  refine lv_iload hx hb dL_law_629 (lv_at hl 5 rfl) ?_
  refine lv_iconst (v := 2) hx hb dL_law_631 (by decide) ?_
  refine lv_iadd hx hb dL_law_632 ?_
  refine va_sld hx hb hX hsb (Nat.not_le.mpr hsb) hS (sx 2 hi hL (by decide)) dL_law_633 ?_
  have hP := wd_P.perm hP List.perm_append_comm
  have hD := wd_D.perm hD List.perm_append_comm
  have hPM : va_P D vwCl (MW cI cJ cZ m0 a x) H := wd_P.part hP (fun _ h => List.mem_append_left _ h)
  refine wr_V (A := (fun q => s.heap.size ≤ q)) (As := [.int (xs ((nI i) + (1 : Int32)).toNatClampNeg), .int (xs ((nI i) + (2 : Int32)).toNatClampNeg)]) (rest := []) (Rw := OW cI cJ cG o b P ad2 st2 f2) ⟨hx, hb, hml, hown, hts⟩ (c_X2_hand l H D cI cJ cZ cG m0 a x (xs ((nI i) + (1 : Int32)).toNatClampNeg) (xs ((nI i) + (2 : Int32)).toNatClampNeg) (hSim.2.2.1 st x hsim) hPM (wd_D.left (hD.weaken (fun _ _ _ _ => trivial)))) (KW_puK D cI cJ cZ cG) hKW (cwV 2 hts gL_law_X2_hand rfl rfl rfl (by decide +kernel) ⟨Nat.le_of_ble_eq_true rfl, Nat.le_of_ble_eq_true rfl⟩) (va_recv hK hPM (ci := 2) (q0 := 0) rfl rfl) rfl hl.1 rfl (Nat.le_of_ble_eq_true rfl) dL_law_634 ⟨by show _ ≤ 601024; omega, by show _ ≤ 7293034; omega⟩ hP hD hS (fun q h => h) (fun w1 H locs hw hP hD hS => ?_)
  subst hw
  obtain ⟨an, han⟩ : ∃ u, u = (F_X2_hand x (xs ((nI i) + (1 : Int32)).toNatClampNeg) (xs ((nI i) + (2 : Int32)).toNatClampNeg)).1 := ⟨_, rfl⟩
  obtain ⟨x2, hx2⟩ : ∃ u, u = (F_X2_hand x (xs ((nI i) + (1 : Int32)).toNatClampNeg) (xs ((nI i) + (2 : Int32)).toNatClampNeg)).2 := ⟨_, rfl⟩
  rw [← hx2] at hP hD
  have hP := wd_P.perm hP List.perm_append_comm
  have hD := wd_D.perm hD List.perm_append_comm
  have hsm := hSim.2.2.2.2.2.2.2.2.2.1 st x (xs ((nI i) + (1 : Int32)).toNatClampNeg) (xs ((nI i) + (2 : Int32)).toNatClampNeg) hsim
  rw [← hx2, ← hkc, ← hst2, ← han] at hsm
  have hthr : (mth x2) = kc := hsm.1
  refine W.eq (g2 := F0 m 637 ls [.long an]) (by rw [han]; rfl) ?_
  refine lv_lstore (lv' := [(6, .long an), (5, .int kc), (0, .ref sb), (1, .ref b), (2, .ref m0), (3, .ref o), (4, .int (nI i))]) hx hb dL_law_637 hl (by decide) rfl (fun ls hl => ?_)
  refine lv_aload_n hx hb dL_law_639 rfl (lv_at hl 4 rfl) ?_
  have hPM : va_P D vwCl (MW cI cJ cZ m0 a x2) H := wd_P.part hP (fun _ h => List.mem_append_right _ h)
  refine pu_V (As := []) (rest := []) ⟨hx, hb, hml, hown, hts⟩ (c_X2_thrown l H D cI cJ cZ cG m0 a x2 hPM) (KW_puK D cI cJ cZ cG) hKW (cwV 0 hts gL_law_X2_thrown rfl rfl rfl (by decide +kernel) ⟨Nat.le_of_ble_eq_true rfl, Nat.le_of_ble_eq_true rfl⟩) (va_recv hK hPM (ci := 2) (q0 := 0) rfl rfl) rfl hl.1 rfl (Nat.le_of_ble_eq_true rfl) dL_law_640 ⟨by show _ ≤ 601024; omega, by show _ ≤ 7293034; omega⟩ ?_
  refine W.eq (g2 := F0 m 643 ls [.int (mth x2)]) rfl ?_
  refine lv_iload hx hb dL_law_643 (lv_at hl 1 rfl) ?_
  refine lv_icmp_eq (tgt := 650) hx hb dL_law_645 (by decide) (fun z_9 => ?_) (fun z_9 => absurd hthr z_9)
  refine lv_iload hx hb dL_law_650 (lv_at hl 1 rfl) ?_
  refine lv_if_ne (tgt := 666) hx hb dL_law_652 (by decide) (fun c_1 => ?_) (fun c_1 => ?_)
  · refine lv_goto (tgt := 1170) hx hb dL_law_666 (by decide) ?_
    exact kk H locs ad2 st2 f2 x2 ls hP hD hS hsm.2.2 (lv_sub hl [2, 3, 4, 5, 6] rfl)
  · refine lv_aload_n hx hb dL_law_655 rfl (lv_at hl 5 rfl) ?_
    refine lv_iconst (v := 0) hx hb dL_law_656 (by decide) ?_
    refine va_lald hx hb hK hP 0 1 rfl rfl (show vp_in (nI 0) 1 from vp_in_nI (by decide) (by decide)) dL_law_657 ?_
    refine lv_lload hx hb dL_law_658 (lv_at hl 0 rfl) ?_
    have hcq : (lg_cmp (f2 (0 : Int32).toNatClampNeg) an) = 0 := (lg_cmp_eq _ _).mpr ((hv c_1).trans (hsm.2.1 c_1))
    refine W.lcmp hx hb dL_law_660 ?_
    refine lv_if_eq (tgt := 666) hx hb dL_law_661 (by decide) (fun z_9 => ?_) (fun z_9 => absurd hcq z_9)
    refine lv_goto (tgt := 1170) hx hb dL_law_666 (by decide) ?_
    exact kk H locs ad2 st2 f2 x2 ls hP hD hS hsm.2.2 (lv_sub hl [2, 3, 4, 5, 6] rfl)
set_option maxHeartbeats 4000000 in
set_option maxRecDepth 100000 in
theorem k_clear {p : Program} {l : Launch} {e : Env} {s : State} {m : MethodId} {below : List Frame} {meth : Method} {c : Code} {Q : State → Prop} {sb L : Nat} {xs : Nat → Int32} {D : va_G} {cI cJ cZ cG : ClassId} {Sim : (Nat → Option GS) → MS → Prop}
    (hx : p.tables.exec = Jvm.exec) (hb : c.code = code) (hml : c.maxLocals = 8) (hown : s.vm.findClass RL = some m.cls) (hts : ∀ w ∈ wsL_law, w.before #[Value.ref sb] s = true) (hX : va_X sb L xs s s.heap) (hsb : sb < s.heap.size) (hst : l.stackTraces = false) (hL : L ≤ 2560) (hKX : KX D cI cJ cZ cG s.heap.size s.heap s) (hSim : SimOK Sim)
    {H : Heap} {locs : List Loc} {cells slots : Nat} {o b P m0 : Nat} {ad : Nat → ga} {st : Nat → Option GS} {f : Nat → Int64} {a : Nat → Nat} {x : MS} (i : Nat) (hi : i + 5 ≤ L) (hP : va_P D vwCl (GM cI cJ cZ cG o b P ad st f m0 a x) H) (hD : va_D (fun q => s.heap.size ≤ q) (GM cI cJ cZ cG o b P ad st f m0 a x)) (hS : va_S (fun q => s.heap.size ≤ q) s.heap H locs) (hsim : Sim st x) (hrm : cells + 4 ≤ 601024 ∧ slots + 35 ≤ 7293034) {ls : Array Slot} (hl : lv_has ls 8 [(0, .ref sb), (1, .ref b), (2, .ref m0), (3, .ref o), (4, .int (nI i))])
    (kk : ∀ (H : Heap) (locs : List Loc) (ad : Nat → ga) (st : Nat → Option GS) (f : Nat → Int64) (x : MS) (ls : Array Slot), va_P D vwCl (GM cI cJ cZ cG o b P ad st f m0 a x) H → va_D (fun q => s.heap.size ≤ q) (GM cI cJ cZ cG o b P ad st f m0 a x) → va_S (fun q => s.heap.size ≤ q) s.heap H locs → Sim st x → lv_has ls 8 [(0, .ref sb), (1, .ref b), (2, .ref m0), (3, .ref o), (4, .int (nI i))] → W p l e room_1 s m #[Value.ref sb] below meth c H locs (cells + 4) (slots + 35) Q (F0 m 1170 ls [])) : W p l e room_1 s m #[Value.ref sb] below meth c H locs cells slots Q (F0 m 669 ls []) := by
  have hKW := hKX.1.1
  have hK := hKW.1
  refine lv_aload_n hx hb dL_law_669 rfl (lv_at hl 1 rfl) ?_
  refine lv_aload_n hx hb dL_law_670 rfl (lv_at hl 0 rfl) ?_
  refine lv_iload hx hb dL_law_671 (lv_at hl 4 rfl) ?_
  refine lv_iconst (v := 1) hx hb dL_law_673 (by decide) ?_
  refine lv_iadd hx hb dL_law_674 ?_
  refine va_sld hx hb hX hsb (Nat.not_le.mpr hsb) hS (sx 1 hi hL (by decide)) dL_law_675 ?_
  refine lv_aload_n hx hb dL_law_676 rfl (lv_at hl 3 rfl) ?_
  have hP1 : va_P D vwCl (OW cI cJ cG o b P ad st f) H := wd_P.part hP (fun _ h => List.mem_append_left _ h)
  have hD1 : va_D (fun _ => True) (OW cI cJ cG o b P ad st f) := wd_D.left (hD.weaken (fun _ _ _ _ => trivial))
  refine wr_SW (A := (fun q => s.heap.size ≤ q)) (As := [.ref b, .int (xs ((nI i) + (1 : Int32)).toNatClampNeg), .ref o]) (rest := []) (Rw := MW cI cJ cZ m0 a x) ⟨hx, hb, hml, hown, hts⟩ (c_L_clear l hst s.heap.size H hS.1 D cI cJ cZ cG b P ad st o f (xs ((nI i) + (1 : Int32)).toNatClampNeg) (hSim.2.1 st x hsim) hP1 hD1) (KX_puK D cI cJ cZ cG s.heap.size H) (hKX.kept hS.2.1) (vx_cwSW 3 hts gL_law_L_clear rfl rfl rfl (by decide +kernel) ⟨Nat.le_of_ble_eq_true rfl, Nat.le_of_ble_eq_true rfl⟩) rfl hl.1 rfl (Nat.le_of_ble_eq_true rfl) dL_law_677 ⟨hrm.1, hrm.2⟩ hP hD hS (fun q h => h) (fun w1 H locs hw hP hD hS => ?_)
  obtain ⟨ad2, f2, hw, hv⟩ := hw
  subst hw
  obtain ⟨kc, hkc⟩ : ∃ u, u = (ob_clear st (xs ((nI i) + (1 : Int32)).toNatClampNeg)).1 := ⟨_, rfl⟩
  obtain ⟨st2, hst2⟩ : ∃ u, u = (ob_clear st (xs ((nI i) + (1 : Int32)).toNatClampNeg)).2.1 := ⟨_, rfl⟩
  rw [← hst2] at hP hD
  rw [← hkc] at hv
  refine W.eq (g2 := F0 m 680 ls [.int kc]) (by rw [hkc]; rfl) ?_
  refine lv_istore (lv' := [(5, .int kc), (0, .ref sb), (1, .ref b), (2, .ref m0), (3, .ref o), (4, .int (nI i))]) hx hb dL_law_680 hl (by decide) rfl (fun ls hl => ?_)
  refine lv_aload_n hx hb dL_law_682 rfl (lv_at hl 3 rfl) ?_
  refine lv_aload_n hx hb dL_law_683 rfl (lv_at hl 1 rfl) ?_
  refine lv_iload hx hb dL_law_684 (lv_at hl 5 rfl) ?_
  refine lv_iconst (v := 1) hx hb dL_law_686 (by decide) ?_
  refine lv_iadd hx hb dL_law_687 ?_
  refine va_sld hx hb hX hsb (Nat.not_le.mpr hsb) hS (sx 1 hi hL (by decide)) dL_law_688 ?_
  have hP := wd_P.perm hP List.perm_append_comm
  have hD := wd_D.perm hD List.perm_append_comm
  have hPM : va_P D vwCl (MW cI cJ cZ m0 a x) H := wd_P.part hP (fun _ h => List.mem_append_left _ h)
  refine wr_V (A := (fun q => s.heap.size ≤ q)) (As := [.int (xs ((nI i) + (1 : Int32)).toNatClampNeg)]) (rest := []) (Rw := OW cI cJ cG o b P ad2 st2 f2) ⟨hx, hb, hml, hown, hts⟩ (c_X2_clear l H D cI cJ cZ cG m0 a x (xs ((nI i) + (1 : Int32)).toNatClampNeg) (hSim.2.2.1 st x hsim) hPM (wd_D.left (hD.weaken (fun _ _ _ _ => trivial)))) (KW_puK D cI cJ cZ cG) hKW (cwV 1 hts gL_law_X2_clear rfl rfl rfl (by decide +kernel) ⟨Nat.le_of_ble_eq_true rfl, Nat.le_of_ble_eq_true rfl⟩) (va_recv hK hPM (ci := 2) (q0 := 0) rfl rfl) rfl hl.1 rfl (Nat.le_of_ble_eq_true rfl) dL_law_689 ⟨by show _ ≤ 601024; omega, by show _ ≤ 7293034; omega⟩ hP hD hS (fun q h => h) (fun w1 H locs hw hP hD hS => ?_)
  subst hw
  obtain ⟨an, han⟩ : ∃ u, u = (F_X2_clear x (xs ((nI i) + (1 : Int32)).toNatClampNeg)).1 := ⟨_, rfl⟩
  obtain ⟨x2, hx2⟩ : ∃ u, u = (F_X2_clear x (xs ((nI i) + (1 : Int32)).toNatClampNeg)).2 := ⟨_, rfl⟩
  rw [← hx2] at hP hD
  have hP := wd_P.perm hP List.perm_append_comm
  have hD := wd_D.perm hD List.perm_append_comm
  have hsm := hSim.2.2.2.2.2.2.2.2.2.2.1 st x (xs ((nI i) + (1 : Int32)).toNatClampNeg) hsim
  rw [← hx2, ← hkc, ← hst2, ← han] at hsm
  have hthr : (mth x2) = kc := hsm.1
  refine W.eq (g2 := F0 m 692 ls [.int an]) (by rw [han]; rfl) ?_
  refine lv_istore (lv' := [(6, .int an), (5, .int kc), (0, .ref sb), (1, .ref b), (2, .ref m0), (3, .ref o), (4, .int (nI i))]) hx hb dL_law_692 hl (by decide) rfl (fun ls hl => ?_)
  refine lv_aload_n hx hb dL_law_694 rfl (lv_at hl 4 rfl) ?_
  have hPM : va_P D vwCl (MW cI cJ cZ m0 a x2) H := wd_P.part hP (fun _ h => List.mem_append_right _ h)
  refine pu_V (As := []) (rest := []) ⟨hx, hb, hml, hown, hts⟩ (c_X2_thrown l H D cI cJ cZ cG m0 a x2 hPM) (KW_puK D cI cJ cZ cG) hKW (cwV 0 hts gL_law_X2_thrown rfl rfl rfl (by decide +kernel) ⟨Nat.le_of_ble_eq_true rfl, Nat.le_of_ble_eq_true rfl⟩) (va_recv hK hPM (ci := 2) (q0 := 0) rfl rfl) rfl hl.1 rfl (Nat.le_of_ble_eq_true rfl) dL_law_695 ⟨by show _ ≤ 601024; omega, by show _ ≤ 7293034; omega⟩ ?_
  refine W.eq (g2 := F0 m 698 ls [.int (mth x2)]) rfl ?_
  refine lv_iload hx hb dL_law_698 (lv_at hl 1 rfl) ?_
  refine lv_icmp_eq (tgt := 705) hx hb dL_law_700 (by decide) (fun z_9 => ?_) (fun z_9 => absurd hthr z_9)
  refine lv_iload hx hb dL_law_705 (lv_at hl 1 rfl) ?_
  refine lv_if_ne (tgt := 729) hx hb dL_law_707 (by decide) (fun c_1 => ?_) (fun c_1 => ?_)
  · refine lv_goto (tgt := 1170) hx hb dL_law_729 (by decide) ?_
    exact kk H locs ad2 st2 f2 x2 ls hP hD hS hsm.2.2 (lv_sub hl [2, 3, 4, 5, 6] rfl)
  · refine lv_aload_n hx hb dL_law_710 rfl (lv_at hl 5 rfl) ?_
    refine lv_iconst (v := 0) hx hb dL_law_711 (by decide) ?_
    refine va_lald hx hb hK hP 0 1 rfl rfl (show vp_in (nI 0) 1 from vp_in_nI (by decide) (by decide)) dL_law_712 ?_
    refine lv_iload hx hb dL_law_713 (lv_at hl 0 rfl) ?_
    refine lv_if_eq (tgt := 722) hx hb dL_law_715 (by decide) (fun c_2 => ?_) (fun c_2 => ?_)
    · refine lv_lconst (v := 0) hx hb dL_law_722 (by decide) ?_
      have hcq : (lg_cmp (f2 (0 : Int32).toNatClampNeg) (0 : Int64)) = 0 := (lg_cmp_eq _ _).mpr (((hv c_1).trans (hsm.2.1 c_1)).trans (by rw [if_pos c_2]))
      refine W.lcmp hx hb dL_law_723 ?_
      refine lv_if_eq (tgt := 729) hx hb dL_law_724 (by decide) (fun z_9 => ?_) (fun z_9 => absurd hcq z_9)
      refine lv_goto (tgt := 1170) hx hb dL_law_729 (by decide) ?_
      exact kk H locs ad2 st2 f2 x2 ls hP hD hS hsm.2.2 (lv_sub hl [2, 3, 4, 5, 6] rfl)
    · refine lv_lconst (v := 1) hx hb dL_law_718 (by decide) ?_
      refine lv_goto (tgt := 723) hx hb dL_law_719 (by decide) ?_
      have hcq : (lg_cmp (f2 (0 : Int32).toNatClampNeg) (1 : Int64)) = 0 := (lg_cmp_eq _ _).mpr (((hv c_1).trans (hsm.2.1 c_1)).trans (by rw [if_neg c_2]))
      refine W.lcmp hx hb dL_law_723 ?_
      refine lv_if_eq (tgt := 729) hx hb dL_law_724 (by decide) (fun z_9 => ?_) (fun z_9 => absurd hcq z_9)
      refine lv_goto (tgt := 1170) hx hb dL_law_729 (by decide) ?_
      exact kk H locs ad2 st2 f2 x2 ls hP hD hS hsm.2.2 (lv_sub hl [2, 3, 4, 5, 6] rfl)
set_option maxHeartbeats 4000000 in
set_option maxRecDepth 100000 in
theorem k_value {p : Program} {l : Launch} {e : Env} {s : State} {m : MethodId} {below : List Frame} {meth : Method} {c : Code} {Q : State → Prop} {sb L : Nat} {xs : Nat → Int32} {D : va_G} {cI cJ cZ cG : ClassId} {Sim : (Nat → Option GS) → MS → Prop}
    (hx : p.tables.exec = Jvm.exec) (hb : c.code = code) (hml : c.maxLocals = 8) (hown : s.vm.findClass RL = some m.cls) (hts : ∀ w ∈ wsL_law, w.before #[Value.ref sb] s = true) (hX : va_X sb L xs s s.heap) (hsb : sb < s.heap.size) (hst : l.stackTraces = false) (hL : L ≤ 2560) (hKX : KX D cI cJ cZ cG s.heap.size s.heap s) (hSim : SimOK Sim)
    {H : Heap} {locs : List Loc} {cells slots : Nat} {o b P m0 : Nat} {ad : Nat → ga} {st : Nat → Option GS} {f : Nat → Int64} {a : Nat → Nat} {x : MS} (i : Nat) (hi : i + 5 ≤ L) (hP : va_P D vwCl (GM cI cJ cZ cG o b P ad st f m0 a x) H) (hD : va_D (fun q => s.heap.size ≤ q) (GM cI cJ cZ cG o b P ad st f m0 a x)) (hS : va_S (fun q => s.heap.size ≤ q) s.heap H locs) (hsim : Sim st x) (hrm : cells + 4 ≤ 601024 ∧ slots + 35 ≤ 7293034) {ls : Array Slot} (hl : lv_has ls 8 [(0, .ref sb), (1, .ref b), (2, .ref m0), (3, .ref o), (4, .int (nI i))])
    (kk : ∀ (H : Heap) (locs : List Loc) (ad : Nat → ga) (st : Nat → Option GS) (f : Nat → Int64) (x : MS) (ls : Array Slot), va_P D vwCl (GM cI cJ cZ cG o b P ad st f m0 a x) H → va_D (fun q => s.heap.size ≤ q) (GM cI cJ cZ cG o b P ad st f m0 a x) → va_S (fun q => s.heap.size ≤ q) s.heap H locs → Sim st x → lv_has ls 8 [(0, .ref sb), (1, .ref b), (2, .ref m0), (3, .ref o), (4, .int (nI i))] → W p l e room_1 s m #[Value.ref sb] below meth c H locs (cells + 4) (slots + 35) Q (F0 m 1170 ls [])) : W p l e room_1 s m #[Value.ref sb] below meth c H locs cells slots Q (F0 m 732 ls []) := by
  have hKW := hKX.1.1
  have hK := hKW.1
  refine lv_aload_n hx hb dL_law_732 rfl (lv_at hl 1 rfl) ?_
  refine lv_aload_n hx hb dL_law_733 rfl (lv_at hl 0 rfl) ?_
  refine lv_iload hx hb dL_law_734 (lv_at hl 4 rfl) ?_
  refine lv_iconst (v := 1) hx hb dL_law_736 (by decide) ?_
  refine lv_iadd hx hb dL_law_737 ?_
  refine va_sld hx hb hX hsb (Nat.not_le.mpr hsb) hS (sx 1 hi hL (by decide)) dL_law_738 ?_
  refine lv_aload_n hx hb dL_law_739 rfl (lv_at hl 3 rfl) ?_
  have hP1 : va_P D vwCl (OW cI cJ cG o b P ad st f) H := wd_P.part hP (fun _ h => List.mem_append_left _ h)
  have hD1 : va_D (fun _ => True) (OW cI cJ cG o b P ad st f) := wd_D.left (hD.weaken (fun _ _ _ _ => trivial))
  refine wr_SW (A := (fun q => s.heap.size ≤ q)) (As := [.ref b, .int (xs ((nI i) + (1 : Int32)).toNatClampNeg), .ref o]) (rest := []) (Rw := MW cI cJ cZ m0 a x) ⟨hx, hb, hml, hown, hts⟩ (c_L_value l hst s.heap.size H hS.1 D cI cJ cZ cG b P ad st o f (xs ((nI i) + (1 : Int32)).toNatClampNeg) (hSim.2.1 st x hsim) hP1 hD1) (KX_puK D cI cJ cZ cG s.heap.size H) (hKX.kept hS.2.1) (vx_cwSW 3 hts gL_law_L_value rfl rfl rfl (by decide +kernel) ⟨Nat.le_of_ble_eq_true rfl, Nat.le_of_ble_eq_true rfl⟩) rfl hl.1 rfl (Nat.le_of_ble_eq_true rfl) dL_law_740 ⟨hrm.1, hrm.2⟩ hP hD hS (fun q h => h) (fun w1 H locs hw hP hD hS => ?_)
  obtain ⟨ad2, f2, hw, hv⟩ := hw
  subst hw
  obtain ⟨kc, hkc⟩ : ∃ u, u = (ob_value st (xs ((nI i) + (1 : Int32)).toNatClampNeg)).1 := ⟨_, rfl⟩
  obtain ⟨st2, hst2⟩ : ∃ u, u = (ob_value st (xs ((nI i) + (1 : Int32)).toNatClampNeg)).2.1 := ⟨_, rfl⟩
  rw [← hst2] at hP hD
  rw [← hkc] at hv
  refine W.eq (g2 := F0 m 743 ls [.int kc]) (by rw [hkc]; rfl) ?_
  refine lv_istore (lv' := [(5, .int kc), (0, .ref sb), (1, .ref b), (2, .ref m0), (3, .ref o), (4, .int (nI i))]) hx hb dL_law_743 hl (by decide) rfl (fun ls hl => ?_)
  refine lv_aload_n hx hb dL_law_745 rfl (lv_at hl 3 rfl) ?_
  refine lv_aload_n hx hb dL_law_746 rfl (lv_at hl 1 rfl) ?_
  refine lv_iload hx hb dL_law_747 (lv_at hl 5 rfl) ?_
  refine lv_iconst (v := 1) hx hb dL_law_749 (by decide) ?_
  refine lv_iadd hx hb dL_law_750 ?_
  refine va_sld hx hb hX hsb (Nat.not_le.mpr hsb) hS (sx 1 hi hL (by decide)) dL_law_751 ?_
  have hP := wd_P.perm hP List.perm_append_comm
  have hD := wd_D.perm hD List.perm_append_comm
  have hPM : va_P D vwCl (MW cI cJ cZ m0 a x) H := wd_P.part hP (fun _ h => List.mem_append_left _ h)
  refine wr_V (A := (fun q => s.heap.size ≤ q)) (As := [.int (xs ((nI i) + (1 : Int32)).toNatClampNeg)]) (rest := []) (Rw := OW cI cJ cG o b P ad2 st2 f2) ⟨hx, hb, hml, hown, hts⟩ (c_X2_value l H D cI cJ cZ cG m0 a x (xs ((nI i) + (1 : Int32)).toNatClampNeg) hPM (wd_D.left (hD.weaken (fun _ _ _ _ => trivial)))) (KW_puK D cI cJ cZ cG) hKW (cwV 1 hts gL_law_X2_value rfl rfl rfl (by decide +kernel) ⟨Nat.le_of_ble_eq_true rfl, Nat.le_of_ble_eq_true rfl⟩) (va_recv hK hPM (ci := 2) (q0 := 0) rfl rfl) rfl hl.1 rfl (Nat.le_of_ble_eq_true rfl) dL_law_752 ⟨by show _ ≤ 601024; omega, by show _ ≤ 7293034; omega⟩ hP hD hS (fun q h => h) (fun w1 H locs hw hP hD hS => ?_)
  subst hw
  obtain ⟨an, han⟩ : ∃ u, u = (F_X2_value x (xs ((nI i) + (1 : Int32)).toNatClampNeg)).1 := ⟨_, rfl⟩
  obtain ⟨x2, hx2⟩ : ∃ u, u = (F_X2_value x (xs ((nI i) + (1 : Int32)).toNatClampNeg)).2 := ⟨_, rfl⟩
  rw [← hx2] at hP hD
  have hP := wd_P.perm hP List.perm_append_comm
  have hD := wd_D.perm hD List.perm_append_comm
  have hsm := hSim.2.2.2.2.2.2.2.2.2.2.2.1 st x (xs ((nI i) + (1 : Int32)).toNatClampNeg) hsim
  rw [← hx2, ← hkc, ← hst2, ← han] at hsm
  have hthr : (mth x2) = kc := hsm.1
  refine W.eq (g2 := F0 m 755 ls [.long an]) (by rw [han]; rfl) ?_
  refine lv_lstore (lv' := [(6, .long an), (5, .int kc), (0, .ref sb), (1, .ref b), (2, .ref m0), (3, .ref o), (4, .int (nI i))]) hx hb dL_law_755 hl (by decide) rfl (fun ls hl => ?_)
  refine lv_aload_n hx hb dL_law_757 rfl (lv_at hl 4 rfl) ?_
  have hPM : va_P D vwCl (MW cI cJ cZ m0 a x2) H := wd_P.part hP (fun _ h => List.mem_append_right _ h)
  refine pu_V (As := []) (rest := []) ⟨hx, hb, hml, hown, hts⟩ (c_X2_thrown l H D cI cJ cZ cG m0 a x2 hPM) (KW_puK D cI cJ cZ cG) hKW (cwV 0 hts gL_law_X2_thrown rfl rfl rfl (by decide +kernel) ⟨Nat.le_of_ble_eq_true rfl, Nat.le_of_ble_eq_true rfl⟩) (va_recv hK hPM (ci := 2) (q0 := 0) rfl rfl) rfl hl.1 rfl (Nat.le_of_ble_eq_true rfl) dL_law_758 ⟨by show _ ≤ 601024; omega, by show _ ≤ 7293034; omega⟩ ?_
  refine W.eq (g2 := F0 m 761 ls [.int (mth x2)]) rfl ?_
  refine lv_iload hx hb dL_law_761 (lv_at hl 1 rfl) ?_
  refine lv_icmp_eq (tgt := 768) hx hb dL_law_763 (by decide) (fun z_9 => ?_) (fun z_9 => absurd hthr z_9)
  refine lv_iload hx hb dL_law_768 (lv_at hl 1 rfl) ?_
  refine lv_if_ne (tgt := 784) hx hb dL_law_770 (by decide) (fun c_1 => ?_) (fun c_1 => ?_)
  · refine lv_goto (tgt := 1170) hx hb dL_law_784 (by decide) ?_
    exact kk H locs ad2 st2 f2 x2 ls hP hD hS hsm.2.2 (lv_sub hl [2, 3, 4, 5, 6] rfl)
  · refine lv_aload_n hx hb dL_law_773 rfl (lv_at hl 5 rfl) ?_
    refine lv_iconst (v := 0) hx hb dL_law_774 (by decide) ?_
    refine va_lald hx hb hK hP 0 1 rfl rfl (show vp_in (nI 0) 1 from vp_in_nI (by decide) (by decide)) dL_law_775 ?_
    refine lv_lload hx hb dL_law_776 (lv_at hl 0 rfl) ?_
    have hcq : (lg_cmp (f2 (0 : Int32).toNatClampNeg) an) = 0 := (lg_cmp_eq _ _).mpr ((hv c_1).trans (hsm.2.1 c_1))
    refine W.lcmp hx hb dL_law_778 ?_
    refine lv_if_eq (tgt := 784) hx hb dL_law_779 (by decide) (fun z_9 => ?_) (fun z_9 => absurd hcq z_9)
    refine lv_goto (tgt := 1170) hx hb dL_law_784 (by decide) ?_
    exact kk H locs ad2 st2 f2 x2 ls hP hD hS hsm.2.2 (lv_sub hl [2, 3, 4, 5, 6] rfl)
set_option maxHeartbeats 4000000 in
set_option maxRecDepth 100000 in
theorem k_mark {p : Program} {l : Launch} {e : Env} {s : State} {m : MethodId} {below : List Frame} {meth : Method} {c : Code} {Q : State → Prop} {sb L : Nat} {xs : Nat → Int32} {D : va_G} {cI cJ cZ cG : ClassId} {Sim : (Nat → Option GS) → MS → Prop}
    (hx : p.tables.exec = Jvm.exec) (hb : c.code = code) (hml : c.maxLocals = 8) (hown : s.vm.findClass RL = some m.cls) (hts : ∀ w ∈ wsL_law, w.before #[Value.ref sb] s = true) (hX : va_X sb L xs s s.heap) (hsb : sb < s.heap.size) (hst : l.stackTraces = false) (hL : L ≤ 2560) (hKX : KX D cI cJ cZ cG s.heap.size s.heap s) (hSim : SimOK Sim)
    {H : Heap} {locs : List Loc} {cells slots : Nat} {o b P m0 : Nat} {ad : Nat → ga} {st : Nat → Option GS} {f : Nat → Int64} {a : Nat → Nat} {x : MS} (i : Nat) (hi : i + 5 ≤ L) (hP : va_P D vwCl (GM cI cJ cZ cG o b P ad st f m0 a x) H) (hD : va_D (fun q => s.heap.size ≤ q) (GM cI cJ cZ cG o b P ad st f m0 a x)) (hS : va_S (fun q => s.heap.size ≤ q) s.heap H locs) (hsim : Sim st x) (hrm : cells + 4 ≤ 601024 ∧ slots + 35 ≤ 7293034) {ls : Array Slot} (hl : lv_has ls 8 [(0, .ref sb), (1, .ref b), (2, .ref m0), (3, .ref o), (4, .int (nI i))])
    (kk : ∀ (H : Heap) (locs : List Loc) (ad : Nat → ga) (st : Nat → Option GS) (f : Nat → Int64) (x : MS) (ls : Array Slot), va_P D vwCl (GM cI cJ cZ cG o b P ad st f m0 a x) H → va_D (fun q => s.heap.size ≤ q) (GM cI cJ cZ cG o b P ad st f m0 a x) → va_S (fun q => s.heap.size ≤ q) s.heap H locs → Sim st x → lv_has ls 8 [(0, .ref sb), (1, .ref b), (2, .ref m0), (3, .ref o), (4, .int (nI i))] → W p l e room_1 s m #[Value.ref sb] below meth c H locs (cells + 4) (slots + 35) Q (F0 m 1170 ls [])) : W p l e room_1 s m #[Value.ref sb] below meth c H locs cells slots Q (F0 m 787 ls []) := by
  have hKW := hKX.1.1
  have hK := hKW.1
  refine lv_aload_n hx hb dL_law_787 rfl (lv_at hl 1 rfl) ?_
  refine lv_aload_n hx hb dL_law_788 rfl (lv_at hl 0 rfl) ?_
  refine lv_iload hx hb dL_law_789 (lv_at hl 4 rfl) ?_
  refine lv_iconst (v := 1) hx hb dL_law_791 (by decide) ?_
  refine lv_iadd hx hb dL_law_792 ?_
  refine va_sld hx hb hX hsb (Nat.not_le.mpr hsb) hS (sx 1 hi hL (by decide)) dL_law_793 ?_
  refine lv_aload_n hx hb dL_law_794 rfl (lv_at hl 0 rfl) ?_
  refine lv_iload hx hb dL_law_795 (lv_at hl 4 rfl) ?_
  refine lv_iconst (v := 2) hx hb dL_law_797 (by decide) ?_
  refine lv_iadd hx hb dL_law_798 ?_
  refine va_sld hx hb hX hsb (Nat.not_le.mpr hsb) hS (sx 2 hi hL (by decide)) dL_law_799 ?_
  refine lv_if_eq (tgt := 807) hx hb dL_law_800 (by decide) (fun c_1 => ?_) (fun c_1 => ?_)
  · refine lv_iconst (v := 0) hx hb dL_law_807 (by decide) ?_
    refine lv_aload_n hx hb dL_law_808 rfl (lv_at hl 3 rfl) ?_
    have hP1 : va_P D vwCl (OW cI cJ cG o b P ad st f) H := wd_P.part hP (fun _ h => List.mem_append_left _ h)
    have hD1 : va_D (fun _ => True) (OW cI cJ cG o b P ad st f) := wd_D.left (hD.weaken (fun _ _ _ _ => trivial))
    refine wr_SW (A := (fun q => s.heap.size ≤ q)) (As := [.ref b, .int (xs ((nI i) + (1 : Int32)).toNatClampNeg), .int (0 : Int32), .ref o]) (rest := []) (Rw := MW cI cJ cZ m0 a x) ⟨hx, hb, hml, hown, hts⟩ (c_L_mark l hst s.heap.size H hS.1 D cI cJ cZ cG b P ad st o f (xs ((nI i) + (1 : Int32)).toNatClampNeg) (0 : Int32) (hSim.2.1 st x hsim) hP1 hD1) (KX_puK D cI cJ cZ cG s.heap.size H) (hKX.kept hS.2.1) (vx_cwSW 4 hts gL_law_L_mark rfl rfl rfl (by decide +kernel) ⟨Nat.le_of_ble_eq_true rfl, Nat.le_of_ble_eq_true rfl⟩) rfl hl.1 rfl (Nat.le_of_ble_eq_true rfl) dL_law_809 ⟨hrm.1, hrm.2⟩ hP hD hS (fun q h => h) (fun w1 H locs hw hP hD hS => ?_)
    obtain ⟨ad2, f2, hw, hv⟩ := hw
    subst hw
    obtain ⟨kc, hkc⟩ : ∃ u, u = (ob_mark st (xs ((nI i) + (1 : Int32)).toNatClampNeg) (0 : Int32)).1 := ⟨_, rfl⟩
    obtain ⟨st2, hst2⟩ : ∃ u, u = (ob_mark st (xs ((nI i) + (1 : Int32)).toNatClampNeg) (0 : Int32)).2.1 := ⟨_, rfl⟩
    rw [← hst2] at hP hD
    rw [← hkc] at hv
    refine W.eq (g2 := F0 m 812 ls [.int kc]) (by rw [hkc]; rfl) ?_
    refine lv_istore (lv' := [(5, .int kc), (0, .ref sb), (1, .ref b), (2, .ref m0), (3, .ref o), (4, .int (nI i))]) hx hb dL_law_812 hl (by decide) rfl (fun ls hl => ?_)
    refine lv_aload_n hx hb dL_law_814 rfl (lv_at hl 3 rfl) ?_
    refine lv_aload_n hx hb dL_law_815 rfl (lv_at hl 1 rfl) ?_
    refine lv_iload hx hb dL_law_816 (lv_at hl 5 rfl) ?_
    refine lv_iconst (v := 1) hx hb dL_law_818 (by decide) ?_
    refine lv_iadd hx hb dL_law_819 ?_
    refine va_sld hx hb hX hsb (Nat.not_le.mpr hsb) hS (sx 1 hi hL (by decide)) dL_law_820 ?_
    refine lv_aload_n hx hb dL_law_821 rfl (lv_at hl 1 rfl) ?_
    refine lv_iload hx hb dL_law_822 (lv_at hl 5 rfl) ?_
    refine lv_iconst (v := 2) hx hb dL_law_824 (by decide) ?_
    refine lv_iadd hx hb dL_law_825 ?_
    refine va_sld hx hb hX hsb (Nat.not_le.mpr hsb) hS (sx 2 hi hL (by decide)) dL_law_826 ?_
    refine lv_if_eq (tgt := 834) hx hb dL_law_827 (by decide) (fun z_9 => ?_) (fun z_9 => absurd c_1 z_9)
    refine lv_iconst (v := 0) hx hb dL_law_834 (by decide) ?_
    have hP := wd_P.perm hP List.perm_append_comm
    have hD := wd_D.perm hD List.perm_append_comm
    have hPM : va_P D vwCl (MW cI cJ cZ m0 a x) H := wd_P.part hP (fun _ h => List.mem_append_left _ h)
    refine wr_V (A := (fun q => s.heap.size ≤ q)) (As := [.int (xs ((nI i) + (1 : Int32)).toNatClampNeg), .int (0 : Int32)]) (rest := []) (Rw := OW cI cJ cG o b P ad2 st2 f2) ⟨hx, hb, hml, hown, hts⟩ (c_X2_mark l H D cI cJ cZ cG m0 a x (xs ((nI i) + (1 : Int32)).toNatClampNeg) (0 : Int32) hPM (wd_D.left (hD.weaken (fun _ _ _ _ => trivial)))) (KW_puK D cI cJ cZ cG) hKW (cwV 2 hts gL_law_X2_mark rfl rfl rfl (by decide +kernel) ⟨Nat.le_of_ble_eq_true rfl, Nat.le_of_ble_eq_true rfl⟩) (va_recv hK hPM (ci := 2) (q0 := 0) rfl rfl) rfl hl.1 rfl (Nat.le_of_ble_eq_true rfl) dL_law_835 ⟨by show _ ≤ 601024; omega, by show _ ≤ 7293034; omega⟩ hP hD hS (fun q h => h) (fun w1 H locs hw hP hD hS => ?_)
    subst hw
    obtain ⟨an, han⟩ : ∃ u, u = (F_X2_mark x (xs ((nI i) + (1 : Int32)).toNatClampNeg) (0 : Int32)).1 := ⟨_, rfl⟩
    obtain ⟨x2, hx2⟩ : ∃ u, u = (F_X2_mark x (xs ((nI i) + (1 : Int32)).toNatClampNeg) (0 : Int32)).2 := ⟨_, rfl⟩
    rw [← hx2] at hP hD
    have hP := wd_P.perm hP List.perm_append_comm
    have hD := wd_D.perm hD List.perm_append_comm
    have hsm := hSim.2.2.2.2.2.2.2.2.2.2.2.2.1 st x (xs ((nI i) + (1 : Int32)).toNatClampNeg) (0 : Int32) hsim (Or.inl rfl)
    rw [← hx2, ← hkc, ← hst2, ← han] at hsm
    have hthr : (mth x2) = kc := hsm.1
    refine W.eq (g2 := F0 m 838 ls [.long an]) (by rw [han]; rfl) ?_
    refine lv_lstore (lv' := [(6, .long an), (5, .int kc), (0, .ref sb), (1, .ref b), (2, .ref m0), (3, .ref o), (4, .int (nI i))]) hx hb dL_law_838 hl (by decide) rfl (fun ls hl => ?_)
    refine lv_aload_n hx hb dL_law_840 rfl (lv_at hl 4 rfl) ?_
    have hPM : va_P D vwCl (MW cI cJ cZ m0 a x2) H := wd_P.part hP (fun _ h => List.mem_append_right _ h)
    refine pu_V (As := []) (rest := []) ⟨hx, hb, hml, hown, hts⟩ (c_X2_thrown l H D cI cJ cZ cG m0 a x2 hPM) (KW_puK D cI cJ cZ cG) hKW (cwV 0 hts gL_law_X2_thrown rfl rfl rfl (by decide +kernel) ⟨Nat.le_of_ble_eq_true rfl, Nat.le_of_ble_eq_true rfl⟩) (va_recv hK hPM (ci := 2) (q0 := 0) rfl rfl) rfl hl.1 rfl (Nat.le_of_ble_eq_true rfl) dL_law_841 ⟨by show _ ≤ 601024; omega, by show _ ≤ 7293034; omega⟩ ?_
    refine W.eq (g2 := F0 m 844 ls [.int (mth x2)]) rfl ?_
    refine lv_iload hx hb dL_law_844 (lv_at hl 1 rfl) ?_
    refine lv_icmp_eq (tgt := 851) hx hb dL_law_846 (by decide) (fun z_9 => ?_) (fun z_9 => absurd hthr z_9)
    refine lv_iload hx hb dL_law_851 (lv_at hl 1 rfl) ?_
    refine lv_if_ne (tgt := 867) hx hb dL_law_853 (by decide) (fun c_2 => ?_) (fun c_2 => ?_)
    · refine lv_goto (tgt := 1170) hx hb dL_law_867 (by decide) ?_
      exact kk H locs ad2 st2 f2 x2 ls hP hD hS hsm.2.2 (lv_sub hl [2, 3, 4, 5, 6] rfl)
    · refine lv_aload_n hx hb dL_law_856 rfl (lv_at hl 5 rfl) ?_
      refine lv_iconst (v := 0) hx hb dL_law_857 (by decide) ?_
      refine va_lald hx hb hK hP 0 1 rfl rfl (show vp_in (nI 0) 1 from vp_in_nI (by decide) (by decide)) dL_law_858 ?_
      refine lv_lload hx hb dL_law_859 (lv_at hl 0 rfl) ?_
      have hcq : (lg_cmp (f2 (0 : Int32).toNatClampNeg) an) = 0 := (lg_cmp_eq _ _).mpr ((hv c_2).trans (hsm.2.1 c_2))
      refine W.lcmp hx hb dL_law_861 ?_
      refine lv_if_eq (tgt := 867) hx hb dL_law_862 (by decide) (fun z_9 => ?_) (fun z_9 => absurd hcq z_9)
      refine lv_goto (tgt := 1170) hx hb dL_law_867 (by decide) ?_
      exact kk H locs ad2 st2 f2 x2 ls hP hD hS hsm.2.2 (lv_sub hl [2, 3, 4, 5, 6] rfl)
  · refine lv_iconst (v := 1) hx hb dL_law_803 (by decide) ?_
    refine lv_goto (tgt := 808) hx hb dL_law_804 (by decide) ?_
    refine lv_aload_n hx hb dL_law_808 rfl (lv_at hl 3 rfl) ?_
    have hP1 : va_P D vwCl (OW cI cJ cG o b P ad st f) H := wd_P.part hP (fun _ h => List.mem_append_left _ h)
    have hD1 : va_D (fun _ => True) (OW cI cJ cG o b P ad st f) := wd_D.left (hD.weaken (fun _ _ _ _ => trivial))
    refine wr_SW (A := (fun q => s.heap.size ≤ q)) (As := [.ref b, .int (xs ((nI i) + (1 : Int32)).toNatClampNeg), .int (1 : Int32), .ref o]) (rest := []) (Rw := MW cI cJ cZ m0 a x) ⟨hx, hb, hml, hown, hts⟩ (c_L_mark l hst s.heap.size H hS.1 D cI cJ cZ cG b P ad st o f (xs ((nI i) + (1 : Int32)).toNatClampNeg) (1 : Int32) (hSim.2.1 st x hsim) hP1 hD1) (KX_puK D cI cJ cZ cG s.heap.size H) (hKX.kept hS.2.1) (vx_cwSW 4 hts gL_law_L_mark rfl rfl rfl (by decide +kernel) ⟨Nat.le_of_ble_eq_true rfl, Nat.le_of_ble_eq_true rfl⟩) rfl hl.1 rfl (Nat.le_of_ble_eq_true rfl) dL_law_809 ⟨hrm.1, hrm.2⟩ hP hD hS (fun q h => h) (fun w1 H locs hw hP hD hS => ?_)
    obtain ⟨ad2, f2, hw, hv⟩ := hw
    subst hw
    obtain ⟨kc, hkc⟩ : ∃ u, u = (ob_mark st (xs ((nI i) + (1 : Int32)).toNatClampNeg) (1 : Int32)).1 := ⟨_, rfl⟩
    obtain ⟨st2, hst2⟩ : ∃ u, u = (ob_mark st (xs ((nI i) + (1 : Int32)).toNatClampNeg) (1 : Int32)).2.1 := ⟨_, rfl⟩
    rw [← hst2] at hP hD
    rw [← hkc] at hv
    refine W.eq (g2 := F0 m 812 ls [.int kc]) (by rw [hkc]; rfl) ?_
    refine lv_istore (lv' := [(5, .int kc), (0, .ref sb), (1, .ref b), (2, .ref m0), (3, .ref o), (4, .int (nI i))]) hx hb dL_law_812 hl (by decide) rfl (fun ls hl => ?_)
    refine lv_aload_n hx hb dL_law_814 rfl (lv_at hl 3 rfl) ?_
    refine lv_aload_n hx hb dL_law_815 rfl (lv_at hl 1 rfl) ?_
    refine lv_iload hx hb dL_law_816 (lv_at hl 5 rfl) ?_
    refine lv_iconst (v := 1) hx hb dL_law_818 (by decide) ?_
    refine lv_iadd hx hb dL_law_819 ?_
    refine va_sld hx hb hX hsb (Nat.not_le.mpr hsb) hS (sx 1 hi hL (by decide)) dL_law_820 ?_
    refine lv_aload_n hx hb dL_law_821 rfl (lv_at hl 1 rfl) ?_
    refine lv_iload hx hb dL_law_822 (lv_at hl 5 rfl) ?_
    refine lv_iconst (v := 2) hx hb dL_law_824 (by decide) ?_
    refine lv_iadd hx hb dL_law_825 ?_
    refine va_sld hx hb hX hsb (Nat.not_le.mpr hsb) hS (sx 2 hi hL (by decide)) dL_law_826 ?_
    refine lv_if_eq (tgt := 834) hx hb dL_law_827 (by decide) (fun z_9 => absurd z_9 c_1) (fun z_9 => ?_)
    refine lv_iconst (v := 1) hx hb dL_law_830 (by decide) ?_
    refine lv_goto (tgt := 835) hx hb dL_law_831 (by decide) ?_
    have hP := wd_P.perm hP List.perm_append_comm
    have hD := wd_D.perm hD List.perm_append_comm
    have hPM : va_P D vwCl (MW cI cJ cZ m0 a x) H := wd_P.part hP (fun _ h => List.mem_append_left _ h)
    refine wr_V (A := (fun q => s.heap.size ≤ q)) (As := [.int (xs ((nI i) + (1 : Int32)).toNatClampNeg), .int (1 : Int32)]) (rest := []) (Rw := OW cI cJ cG o b P ad2 st2 f2) ⟨hx, hb, hml, hown, hts⟩ (c_X2_mark l H D cI cJ cZ cG m0 a x (xs ((nI i) + (1 : Int32)).toNatClampNeg) (1 : Int32) hPM (wd_D.left (hD.weaken (fun _ _ _ _ => trivial)))) (KW_puK D cI cJ cZ cG) hKW (cwV 2 hts gL_law_X2_mark rfl rfl rfl (by decide +kernel) ⟨Nat.le_of_ble_eq_true rfl, Nat.le_of_ble_eq_true rfl⟩) (va_recv hK hPM (ci := 2) (q0 := 0) rfl rfl) rfl hl.1 rfl (Nat.le_of_ble_eq_true rfl) dL_law_835 ⟨by show _ ≤ 601024; omega, by show _ ≤ 7293034; omega⟩ hP hD hS (fun q h => h) (fun w1 H locs hw hP hD hS => ?_)
    subst hw
    obtain ⟨an, han⟩ : ∃ u, u = (F_X2_mark x (xs ((nI i) + (1 : Int32)).toNatClampNeg) (1 : Int32)).1 := ⟨_, rfl⟩
    obtain ⟨x2, hx2⟩ : ∃ u, u = (F_X2_mark x (xs ((nI i) + (1 : Int32)).toNatClampNeg) (1 : Int32)).2 := ⟨_, rfl⟩
    rw [← hx2] at hP hD
    have hP := wd_P.perm hP List.perm_append_comm
    have hD := wd_D.perm hD List.perm_append_comm
    have hsm := hSim.2.2.2.2.2.2.2.2.2.2.2.2.1 st x (xs ((nI i) + (1 : Int32)).toNatClampNeg) (1 : Int32) hsim (Or.inr rfl)
    rw [← hx2, ← hkc, ← hst2, ← han] at hsm
    have hthr : (mth x2) = kc := hsm.1
    refine W.eq (g2 := F0 m 838 ls [.long an]) (by rw [han]; rfl) ?_
    refine lv_lstore (lv' := [(6, .long an), (5, .int kc), (0, .ref sb), (1, .ref b), (2, .ref m0), (3, .ref o), (4, .int (nI i))]) hx hb dL_law_838 hl (by decide) rfl (fun ls hl => ?_)
    refine lv_aload_n hx hb dL_law_840 rfl (lv_at hl 4 rfl) ?_
    have hPM : va_P D vwCl (MW cI cJ cZ m0 a x2) H := wd_P.part hP (fun _ h => List.mem_append_right _ h)
    refine pu_V (As := []) (rest := []) ⟨hx, hb, hml, hown, hts⟩ (c_X2_thrown l H D cI cJ cZ cG m0 a x2 hPM) (KW_puK D cI cJ cZ cG) hKW (cwV 0 hts gL_law_X2_thrown rfl rfl rfl (by decide +kernel) ⟨Nat.le_of_ble_eq_true rfl, Nat.le_of_ble_eq_true rfl⟩) (va_recv hK hPM (ci := 2) (q0 := 0) rfl rfl) rfl hl.1 rfl (Nat.le_of_ble_eq_true rfl) dL_law_841 ⟨by show _ ≤ 601024; omega, by show _ ≤ 7293034; omega⟩ ?_
    refine W.eq (g2 := F0 m 844 ls [.int (mth x2)]) rfl ?_
    refine lv_iload hx hb dL_law_844 (lv_at hl 1 rfl) ?_
    refine lv_icmp_eq (tgt := 851) hx hb dL_law_846 (by decide) (fun z_9 => ?_) (fun z_9 => absurd hthr z_9)
    refine lv_iload hx hb dL_law_851 (lv_at hl 1 rfl) ?_
    refine lv_if_ne (tgt := 867) hx hb dL_law_853 (by decide) (fun c_3 => ?_) (fun c_3 => ?_)
    · refine lv_goto (tgt := 1170) hx hb dL_law_867 (by decide) ?_
      exact kk H locs ad2 st2 f2 x2 ls hP hD hS hsm.2.2 (lv_sub hl [2, 3, 4, 5, 6] rfl)
    · refine lv_aload_n hx hb dL_law_856 rfl (lv_at hl 5 rfl) ?_
      refine lv_iconst (v := 0) hx hb dL_law_857 (by decide) ?_
      refine va_lald hx hb hK hP 0 1 rfl rfl (show vp_in (nI 0) 1 from vp_in_nI (by decide) (by decide)) dL_law_858 ?_
      refine lv_lload hx hb dL_law_859 (lv_at hl 0 rfl) ?_
      have hcq : (lg_cmp (f2 (0 : Int32).toNatClampNeg) an) = 0 := (lg_cmp_eq _ _).mpr ((hv c_3).trans (hsm.2.1 c_3))
      refine W.lcmp hx hb dL_law_861 ?_
      refine lv_if_eq (tgt := 867) hx hb dL_law_862 (by decide) (fun z_9 => ?_) (fun z_9 => absurd hcq z_9)
      refine lv_goto (tgt := 1170) hx hb dL_law_867 (by decide) ?_
      exact kk H locs ad2 st2 f2 x2 ls hP hD hS hsm.2.2 (lv_sub hl [2, 3, 4, 5, 6] rfl)
