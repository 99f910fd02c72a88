set_option maxHeartbeats 4000000 in
set_option maxRecDepth 100000 in
theorem k_stepOf {p : Program} {l : Launch} {e : Env} {s : State} {m : MethodId} {below : List Frame} {meth : Method} {c : Code} {Q : State → Prop} {sb L : Nat} {xs : Nat → Int32} {D : va_G} {cI cJ cZ cG : ClassId} {Sim : (Nat → Option GS) → MS → Prop}
    (hx : p.tables.exec = Jvm.exec) (hb : c.code = code) (hml : c.maxLocals = 8) (hown : s.vm.findClass RL = some m.cls) (hts : ∀ w ∈ wsL_law, w.before #[Value.ref sb] s = true) (hX : va_X sb L xs s s.heap) (hsb : sb < s.heap.size) (hst : l.stackTraces = false) (hL : L ≤ 2560) (hKX : KX D cI cJ cZ cG s.heap.size s.heap s) (hSim : SimOK Sim)
    {H : Heap} {locs : List Loc} {cells slots : Nat} {o b P m0 : Nat} {ad : Nat → ga} {st : Nat → Option GS} {f : Nat → Int64} {a : Nat → Nat} {x : MS} (i : Nat) (hi : i + 5 ≤ L) (hP : va_P D vwCl (GM cI cJ cZ cG o b P ad st f m0 a x) H) (hD : va_D (fun q => s.heap.size ≤ q) (GM cI cJ cZ cG o b P ad st f m0 a x)) (hS : va_S (fun q => s.heap.size ≤ q) s.heap H locs) (hsim : Sim st x) (hrm : cells + 4 ≤ 601024 ∧ slots + 35 ≤ 7293034) {ls : Array Slot} (hl : lv_has ls 8 [(0, .ref sb), (1, .ref b), (2, .ref m0), (3, .ref o), (4, .int (nI i))])
    (kk : ∀ (H : Heap) (locs : List Loc) (ad : Nat → ga) (st : Nat → Option GS) (f : Nat → Int64) (x : MS) (ls : Array Slot), va_P D vwCl (GM cI cJ cZ cG o b P ad st f m0 a x) H → va_D (fun q => s.heap.size ≤ q) (GM cI cJ cZ cG o b P ad st f m0 a x) → va_S (fun q => s.heap.size ≤ q) s.heap H locs → Sim st x → lv_has ls 8 [(0, .ref sb), (1, .ref b), (2, .ref m0), (3, .ref o), (4, .int (nI i))] → W p l e room_1 s m #[Value.ref sb] below meth c H locs (cells + 4) (slots + 35) Q (F0 m 1170 ls [])) : W p l e room_1 s m #[Value.ref sb] below meth c H locs cells slots Q (F0 m 367 ls []) := by
  have hKW := hKX.1.1
  have hK := hKW.1
  refine lv_aload_n hx hb dL_law_367 rfl (lv_at hl 1 rfl) ?_
  refine lv_aload_n hx hb dL_law_368 rfl (lv_at hl 0 rfl) ?_
  refine lv_iload hx hb dL_law_369 (lv_at hl 4 rfl) ?_
  refine lv_iconst (v := 1) hx hb dL_law_371 (by decide) ?_
  refine lv_iadd hx hb dL_law_372 ?_
  refine va_sld hx hb hX hsb (Nat.not_le.mpr hsb) hS (sx 1 hi hL (by decide)) dL_law_373 ?_
  refine lv_aload_n hx hb dL_law_374 rfl (lv_at hl 0 rfl) ?_
  refine lv_iload hx hb dL_law_375 (lv_at hl 4 rfl) ?_
  refine lv_iconst (v := 2) hx hb dL_law_377 (by decide) ?_
  refine lv_iadd hx hb dL_law_378 ?_
  refine va_sld hx hb hX hsb (Nat.not_le.mpr hsb) hS (sx 2 hi hL (by decide)) dL_law_379 ?_
  refine lv_aload_n hx hb dL_law_380 rfl (lv_at hl 0 rfl) ?_
  refine lv_iload hx hb dL_law_381 (lv_at hl 4 rfl) ?_
  refine lv_iconst (v := 3) hx hb dL_law_383 (by decide) ?_
  refine lv_iadd hx hb dL_law_384 ?_
  refine va_sld hx hb hX hsb (Nat.not_le.mpr hsb) hS (sx 3 hi hL (by decide)) dL_law_385 ?_
  refine lv_aload_n hx hb dL_law_386 rfl (lv_at hl 3 rfl) ?_
  have hP1 : va_P D vwCl (OW cI cJ cG o b P ad st f) H := wd_P.part hP (fun _ h => List.mem_append_left _ h)
  have hD1 : va_D (fun _ => True) (OW cI cJ cG o b P ad st f) := wd_D.left (hD.weaken (fun _ _ _ _ => trivial))
  refine wr_SW (A := (fun q => s.heap.size ≤ q)) (As := [.ref b, .int (xs ((nI i) + (1 : Int32)).toNatClampNeg), .int (xs ((nI i) + (2 : Int32)).toNatClampNeg), .int (xs ((nI i) + (3 : Int32)).toNatClampNeg), .ref o]) (rest := []) (Rw := MW cI cJ cZ m0 a x) ⟨hx, hb, hml, hown, hts⟩ (c_L_stepOf l hst s.heap.size H hS.1 D cI cJ cZ cG b P ad st o f (xs ((nI i) + (1 : Int32)).toNatClampNeg) (xs ((nI i) + (2 : Int32)).toNatClampNeg) (xs ((nI i) + (3 : Int32)).toNatClampNeg) (hSim.2.1 st x hsim) hP1 hD1) (KX_puK D cI cJ cZ cG s.heap.size H) (hKX.kept hS.2.1) (vx_cwSW 5 hts gL_law_L_stepOf rfl rfl rfl (by decide +kernel) ⟨Nat.le_of_ble_eq_true rfl, Nat.le_of_ble_eq_true rfl⟩) rfl hl.1 rfl (Nat.le_of_ble_eq_true rfl) dL_law_387 ⟨hrm.1, hrm.2⟩ hP hD hS (fun q h => h) (fun w1 H locs hw hP hD hS => ?_)
  obtain ⟨ad2, f2, hw, hv⟩ := hw
  subst hw
  obtain ⟨kc, hkc⟩ : ∃ u, u = (ob_stepOf st (xs ((nI i) + (1 : Int32)).toNatClampNeg) (xs ((nI i) + (2 : Int32)).toNatClampNeg) (xs ((nI i) + (3 : Int32)).toNatClampNeg)).1 := ⟨_, rfl⟩
  obtain ⟨st2, hst2⟩ : ∃ u, u = (ob_stepOf st (xs ((nI i) + (1 : Int32)).toNatClampNeg) (xs ((nI i) + (2 : Int32)).toNatClampNeg) (xs ((nI i) + (3 : Int32)).toNatClampNeg)).2.1 := ⟨_, rfl⟩
  rw [← hst2] at hP hD
  rw [← hkc] at hv
  refine W.eq (g2 := F0 m 390 ls [.int kc]) (by rw [hkc]; rfl) ?_
  refine lv_istore (lv' := [(5, .int kc), (0, .ref sb), (1, .ref b), (2, .ref m0), (3, .ref o), (4, .int (nI i))]) hx hb dL_law_390 hl (by decide) rfl (fun ls hl => ?_)
  refine lv_aload_n hx hb dL_law_392 rfl (lv_at hl 3 rfl) ?_
  refine lv_aload_n hx hb dL_law_393 rfl (lv_at hl 1 rfl) ?_
  refine lv_iload hx hb dL_law_394 (lv_at hl 5 rfl) ?_
  refine lv_iconst (v := 1) hx hb dL_law_396 (by decide) ?_
  refine lv_iadd hx hb dL_law_397 ?_
  refine va_sld hx hb hX hsb (Nat.not_le.mpr hsb) hS (sx 1 hi hL (by decide)) dL_law_398 ?_
  refine lv_aload_n hx hb dL_law_399 rfl (lv_at hl 1 rfl) ?_
  refine lv_iload hx hb dL_law_400 (lv_at hl 5 rfl) ?_
  refine lv_iconst (v := 2) hx hb dL_law_402 (by decide) ?_
  refine lv_iadd hx hb dL_law_403 ?_
  refine va_sld hx hb hX hsb (Nat.not_le.mpr hsb) hS (sx 2 hi hL (by decide)) dL_law_404 ?_
  refine lv_aload_n hx hb dL_law_405 rfl (lv_at hl 1 rfl) ?_
  refine lv_iload hx hb dL_law_406 (lv_at hl 5 rfl) ?_
  refine lv_iconst (v := 3) hx hb dL_law_408 (by decide) ?_
  refine lv_iadd hx hb dL_law_409 ?_
  refine va_sld hx hb hX hsb (Nat.not_le.mpr hsb) hS (sx 3 hi hL (by decide)) dL_law_410 ?_
  have hP := wd_P.perm hP List.perm_append_comm
  have hD := wd_D.perm hD List.perm_append_comm
  have hPM : va_P D vwCl (MW cI cJ cZ m0 a x) H := wd_P.part hP (fun _ h => List.mem_append_left _ h)
  refine wr_V (A := (fun q => s.heap.size ≤ q)) (As := [.int (xs ((nI i) + (1 : Int32)).toNatClampNeg), .int (xs ((nI i) + (2 : Int32)).toNatClampNeg), .int (xs ((nI i) + (3 : Int32)).toNatClampNeg)]) (rest := []) (Rw := OW cI cJ cG o b P ad2 st2 f2) ⟨hx, hb, hml, hown, hts⟩ (c_X2_stepOf l H D cI cJ cZ cG m0 a x (xs ((nI i) + (1 : Int32)).toNatClampNeg) (xs ((nI i) + (2 : Int32)).toNatClampNeg) (xs ((nI i) + (3 : Int32)).toNatClampNeg) (hSim.2.2.1 st x hsim) hPM (wd_D.left (hD.weaken (fun _ _ _ _ => trivial)))) (KW_puK D cI cJ cZ cG) hKW (cwV 3 hts gL_law_X2_stepOf rfl rfl rfl (by decide +kernel) ⟨Nat.le_of_ble_eq_true rfl, Nat.le_of_ble_eq_true rfl⟩) (va_recv hK hPM (ci := 2) (q0 := 0) rfl rfl) rfl hl.1 rfl (Nat.le_of_ble_eq_true rfl) dL_law_411 ⟨by show _ ≤ 601024; omega, by show _ ≤ 7293034; omega⟩ hP hD hS (fun q h => h) (fun w1 H locs hw hP hD hS => ?_)
  subst hw
  obtain ⟨an, han⟩ : ∃ u, u = (F_X2_stepOf x (xs ((nI i) + (1 : Int32)).toNatClampNeg) (xs ((nI i) + (2 : Int32)).toNatClampNeg) (xs ((nI i) + (3 : Int32)).toNatClampNeg)).1 := ⟨_, rfl⟩
  obtain ⟨x2, hx2⟩ : ∃ u, u = (F_X2_stepOf x (xs ((nI i) + (1 : Int32)).toNatClampNeg) (xs ((nI i) + (2 : Int32)).toNatClampNeg) (xs ((nI i) + (3 : Int32)).toNatClampNeg)).2 := ⟨_, rfl⟩
  rw [← hx2] at hP hD
  have hP := wd_P.perm hP List.perm_append_comm
  have hD := wd_D.perm hD List.perm_append_comm
  have hsm := hSim.2.2.2.2.2.2.1 st x (xs ((nI i) + (1 : Int32)).toNatClampNeg) (xs ((nI i) + (2 : Int32)).toNatClampNeg) (xs ((nI i) + (3 : Int32)).toNatClampNeg) hsim
  rw [← hx2, ← hkc, ← hst2, ← han] at hsm
  have hthr : (mth x2) = kc := hsm.1
  refine W.eq (g2 := F0 m 414 ls [.int an]) (by rw [han]; rfl) ?_
  refine lv_istore (lv' := [(6, .int an), (5, .int kc), (0, .ref sb), (1, .ref b), (2, .ref m0), (3, .ref o), (4, .int (nI i))]) hx hb dL_law_414 hl (by decide) rfl (fun ls hl => ?_)
  refine lv_aload_n hx hb dL_law_416 rfl (lv_at hl 4 rfl) ?_
  have hPM : va_P D vwCl (MW cI cJ cZ m0 a x2) H := wd_P.part hP (fun _ h => List.mem_append_right _ h)
  refine pu_V (As := []) (rest := []) ⟨hx, hb, hml, hown, hts⟩ (c_X2_thrown l H D cI cJ cZ cG m0 a x2 hPM) (KW_puK D cI cJ cZ cG) hKW (cwV 0 hts gL_law_X2_thrown rfl rfl rfl (by decide +kernel) ⟨Nat.le_of_ble_eq_true rfl, Nat.le_of_ble_eq_true rfl⟩) (va_recv hK hPM (ci := 2) (q0 := 0) rfl rfl) rfl hl.1 rfl (Nat.le_of_ble_eq_true rfl) dL_law_417 ⟨by show _ ≤ 601024; omega, by show _ ≤ 7293034; omega⟩ ?_
  refine W.eq (g2 := F0 m 420 ls [.int (mth x2)]) rfl ?_
  refine lv_iload hx hb dL_law_420 (lv_at hl 1 rfl) ?_
  refine lv_icmp_eq (tgt := 427) hx hb dL_law_422 (by decide) (fun z_9 => ?_) (fun z_9 => absurd hthr z_9)
  refine lv_iload hx hb dL_law_427 (lv_at hl 1 rfl) ?_
  refine lv_if_ne (tgt := 444) hx hb dL_law_429 (by decide) (fun c_1 => ?_) (fun c_1 => ?_)
  · refine lv_goto (tgt := 1170) hx hb dL_law_444 (by decide) ?_
    exact kk H locs ad2 st2 f2 x2 ls hP hD hS hsm.2.2 (lv_sub hl [2, 3, 4, 5, 6] rfl)
  · refine lv_aload_n hx hb dL_law_432 rfl (lv_at hl 5 rfl) ?_
    refine lv_iconst (v := 0) hx hb dL_law_433 (by decide) ?_
    refine va_lald hx hb hK hP 0 1 rfl rfl (show vp_in (nI 0) 1 from vp_in_nI (by decide) (by decide)) dL_law_434 ?_
    refine lv_iload hx hb dL_law_435 (lv_at hl 0 rfl) ?_
    refine lv_i2l hx hb dL_law_437 rfl ?_
    have hcq : (lg_cmp (f2 (0 : Int32).toNatClampNeg) an.toInt64) = 0 := (lg_cmp_eq _ _).mpr ((hv c_1).trans (hsm.2.1 c_1))
    refine W.lcmp hx hb dL_law_438 ?_
    refine lv_if_eq (tgt := 444) hx hb dL_law_439 (by decide) (fun z_9 => ?_) (fun z_9 => absurd hcq z_9)
    refine lv_goto (tgt := 1170) hx hb dL_law_444 (by decide) ?_
    exact kk H locs ad2 st2 f2 x2 ls hP hD hS hsm.2.2 (lv_sub hl [2, 3, 4, 5, 6] rfl)
set_option maxHeartbeats 4000000 in
set_option maxRecDepth 100000 in
theorem k_bare {p : Program} {l : Launch} {e : Env} {s : State} {m : MethodId} {below : List Frame} {meth : Method} {c : Code} {Q : State → Prop} {sb L : Nat} {xs : Nat → Int32} {D : va_G} {cI cJ cZ cG : ClassId} {Sim : (Nat → Option GS) → MS → Prop}
    (hx : p.tables.exec = Jvm.exec) (hb : c.code = code) (hml : c.maxLocals = 8) (hown : s.vm.findClass RL = some m.cls) (hts : ∀ w ∈ wsL_law, w.before #[Value.ref sb] s = true) (hX : va_X sb L xs s s.heap) (hsb : sb < s.heap.size) (hst : l.stackTraces = false) (hL : L ≤ 2560) (hKX : KX D cI cJ cZ cG s.heap.size s.heap s) (hSim : SimOK Sim)
    {H : Heap} {locs : List Loc} {cells slots : Nat} {o b P m0 : Nat} {ad : Nat → ga} {st : Nat → Option GS} {f : Nat → Int64} {a : Nat → Nat} {x : MS} (i : Nat) (hi : i + 5 ≤ L) (hP : va_P D vwCl (GM cI cJ cZ cG o b P ad st f m0 a x) H) (hD : va_D (fun q => s.heap.size ≤ q) (GM cI cJ cZ cG o b P ad st f m0 a x)) (hS : va_S (fun q => s.heap.size ≤ q) s.heap H locs) (hsim : Sim st x) (hrm : cells + 4 ≤ 601024 ∧ slots + 35 ≤ 7293034) {ls : Array Slot} (hl : lv_has ls 8 [(0, .ref sb), (1, .ref b), (2, .ref m0), (3, .ref o), (4, .int (nI i))])
    (kk : ∀ (H : Heap) (locs : List Loc) (ad : Nat → ga) (st : Nat → Option GS) (f : Nat → Int64) (x : MS) (ls : Array Slot), va_P D vwCl (GM cI cJ cZ cG o b P ad st f m0 a x) H → va_D (fun q => s.heap.size ≤ q) (GM cI cJ cZ cG o b P ad st f m0 a x) → va_S (fun q => s.heap.size ≤ q) s.heap H locs → Sim st x → lv_has ls 8 [(0, .ref sb), (1, .ref b), (2, .ref m0), (3, .ref o), (4, .int (nI i))] → W p l e room_1 s m #[Value.ref sb] below meth c H locs (cells + 4) (slots + 35) Q (F0 m 1170 ls [])) : W p l e room_1 s m #[Value.ref sb] below meth c H locs cells slots Q (F0 m 447 ls []) := by
  have hKW := hKX.1.1
  have hK := hKW.1
  refine lv_aload_n hx hb dL_law_447 rfl (lv_at hl 1 rfl) ?_
  refine lv_aload_n hx hb dL_law_448 rfl (lv_at hl 0 rfl) ?_
  refine lv_iload hx hb dL_law_449 (lv_at hl 4 rfl) ?_
  refine lv_iconst (v := 1) hx hb dL_law_451 (by decide) ?_
  refine lv_iadd hx hb dL_law_452 ?_
  refine va_sld hx hb hX hsb (Nat.not_le.mpr hsb) hS (sx 1 hi hL (by decide)) dL_law_453 ?_
  refine lv_aload_n hx hb dL_law_454 rfl (lv_at hl 3 rfl) ?_
  have hP1 : va_P D vwCl (OW cI cJ cG o b P ad st f) H := wd_P.part hP (fun _ h => List.mem_append_left _ h)
  have hD1 : va_D (fun _ => True) (OW cI cJ cG o b P ad st f) := wd_D.left (hD.weaken (fun _ _ _ _ => trivial))
  refine wr_SW (A := (fun q => s.heap.size ≤ q)) (As := [.ref b, .int (xs ((nI i) + (1 : Int32)).toNatClampNeg), .ref o]) (rest := []) (Rw := MW cI cJ cZ m0 a x) ⟨hx, hb, hml, hown, hts⟩ (c_L_bare l hst s.heap.size H hS.1 D cI cJ cZ cG b P ad st o f (xs ((nI i) + (1 : Int32)).toNatClampNeg) (hSim.2.1 st x hsim) hP1 hD1) (KX_puK D cI cJ cZ cG s.heap.size H) (hKX.kept hS.2.1) (vx_cwSW 3 hts gL_law_L_bare rfl rfl rfl (by decide +kernel) ⟨Nat.le_of_ble_eq_true rfl, Nat.le_of_ble_eq_true rfl⟩) rfl hl.1 rfl (Nat.le_of_ble_eq_true rfl) dL_law_455 ⟨hrm.1, hrm.2⟩ hP hD hS (fun q h => h) (fun w1 H locs hw hP hD hS => ?_)
  obtain ⟨ad2, f2, hw, hv⟩ := hw
  subst hw
  obtain ⟨kc, hkc⟩ : ∃ u, u = (ob_bare st (xs ((nI i) + (1 : Int32)).toNatClampNeg)).1 := ⟨_, rfl⟩
  obtain ⟨st2, hst2⟩ : ∃ u, u = (ob_bare st (xs ((nI i) + (1 : Int32)).toNatClampNeg)).2.1 := ⟨_, rfl⟩
  rw [← hst2] at hP hD
  rw [← hkc] at hv
  refine W.eq (g2 := F0 m 458 ls [.int kc]) (by rw [hkc]; rfl) ?_
  refine lv_istore (lv' := [(5, .int kc), (0, .ref sb), (1, .ref b), (2, .ref m0), (3, .ref o), (4, .int (nI i))]) hx hb dL_law_458 hl (by decide) rfl (fun ls hl => ?_)
  refine lv_aload_n hx hb dL_law_460 rfl (lv_at hl 3 rfl) ?_
  refine lv_aload_n hx hb dL_law_461 rfl (lv_at hl 1 rfl) ?_
  refine lv_iload hx hb dL_law_462 (lv_at hl 5 rfl) ?_
  refine lv_iconst (v := 1) hx hb dL_law_464 (by decide) ?_
  refine lv_iadd hx hb dL_law_465 ?_
  refine va_sld hx hb hX hsb (Nat.not_le.mpr hsb) hS (sx 1 hi hL (by decide)) dL_law_466 ?_
  have hP := wd_P.perm hP List.perm_append_comm
  have hD := wd_D.perm hD List.perm_append_comm
  have hPM : va_P D vwCl (MW cI cJ cZ m0 a x) H := wd_P.part hP (fun _ h => List.mem_append_left _ h)
  refine wr_V (A := (fun q => s.heap.size ≤ q)) (As := [.int (xs ((nI i) + (1 : Int32)).toNatClampNeg)]) (rest := []) (Rw := OW cI cJ cG o b P ad2 st2 f2) ⟨hx, hb, hml, hown, hts⟩ (c_X2_bare l H D cI cJ cZ cG m0 a x (xs ((nI i) + (1 : Int32)).toNatClampNeg) hPM (wd_D.left (hD.weaken (fun _ _ _ _ => trivial)))) (KW_puK D cI cJ cZ cG) hKW (cwV 1 hts gL_law_X2_bare rfl rfl rfl (by decide +kernel) ⟨Nat.le_of_ble_eq_true rfl, Nat.le_of_ble_eq_true rfl⟩) (va_recv hK hPM (ci := 2) (q0 := 0) rfl rfl) rfl hl.1 rfl (Nat.le_of_ble_eq_true rfl) dL_law_467 ⟨by show _ ≤ 601024; omega, by show _ ≤ 7293034; omega⟩ hP hD hS (fun q h => h) (fun w1 H locs hw hP hD hS => ?_)
  subst hw
  obtain ⟨an, han⟩ : ∃ u, u = (F_X2_bare x (xs ((nI i) + (1 : Int32)).toNatClampNeg)).1 := ⟨_, rfl⟩
  obtain ⟨x2, hx2⟩ : ∃ u, u = (F_X2_bare x (xs ((nI i) + (1 : Int32)).toNatClampNeg)).2 := ⟨_, rfl⟩
  rw [← hx2] at hP hD
  have hP := wd_P.perm hP List.perm_append_comm
  have hD := wd_D.perm hD List.perm_append_comm
  have hsm := hSim.2.2.2.2.2.2.2.1 st x (xs ((nI i) + (1 : Int32)).toNatClampNeg) hsim
  rw [← hx2, ← hkc, ← hst2, ← han] at hsm
  have hthr : (mth x2) = kc := hsm.1
  refine W.eq (g2 := F0 m 470 ls [.int an]) (by rw [han]; rfl) ?_
  refine lv_istore (lv' := [(6, .int an), (5, .int kc), (0, .ref sb), (1, .ref b), (2, .ref m0), (3, .ref o), (4, .int (nI i))]) hx hb dL_law_470 hl (by decide) rfl (fun ls hl => ?_)
  refine lv_aload_n hx hb dL_law_472 rfl (lv_at hl 4 rfl) ?_
  have hPM : va_P D vwCl (MW cI cJ cZ m0 a x2) H := wd_P.part hP (fun _ h => List.mem_append_right _ h)
  refine pu_V (As := []) (rest := []) ⟨hx, hb, hml, hown, hts⟩ (c_X2_thrown l H D cI cJ cZ cG m0 a x2 hPM) (KW_puK D cI cJ cZ cG) hKW (cwV 0 hts gL_law_X2_thrown rfl rfl rfl (by decide +kernel) ⟨Nat.le_of_ble_eq_true rfl, Nat.le_of_ble_eq_true rfl⟩) (va_recv hK hPM (ci := 2) (q0 := 0) rfl rfl) rfl hl.1 rfl (Nat.le_of_ble_eq_true rfl) dL_law_473 ⟨by show _ ≤ 601024; omega, by show _ ≤ 7293034; omega⟩ ?_
  refine W.eq (g2 := F0 m 476 ls [.int (mth x2)]) rfl ?_
  refine lv_iload hx hb dL_law_476 (lv_at hl 1 rfl) ?_
  refine lv_icmp_eq (tgt := 483) hx hb dL_law_478 (by decide) (fun z_9 => ?_) (fun z_9 => absurd hthr z_9)
  refine lv_iload hx hb dL_law_483 (lv_at hl 1 rfl) ?_
  refine lv_if_ne (tgt := 500) hx hb dL_law_485 (by decide) (fun c_1 => ?_) (fun c_1 => ?_)
  · refine lv_goto (tgt := 1170) hx hb dL_law_500 (by decide) ?_
    exact kk H locs ad2 st2 f2 x2 ls hP hD hS hsm.2.2 (lv_sub hl [2, 3, 4, 5, 6] rfl)
  · refine lv_aload_n hx hb dL_law_488 rfl (lv_at hl 5 rfl) ?_
    refine lv_iconst (v := 0) hx hb dL_law_489 (by decide) ?_
    refine va_lald hx hb hK hP 0 1 rfl rfl (show vp_in (nI 0) 1 from vp_in_nI (by decide) (by decide)) dL_law_490 ?_
    refine lv_iload hx hb dL_law_491 (lv_at hl 0 rfl) ?_
    refine lv_i2l hx hb dL_law_493 rfl ?_
    have hcq : (lg_cmp (f2 (0 : Int32).toNatClampNeg) an.toInt64) = 0 := (lg_cmp_eq _ _).mpr ((hv c_1).trans (hsm.2.1 c_1))
    refine W.lcmp hx hb dL_law_494 ?_
    refine lv_if_eq (tgt := 500) hx hb dL_law_495 (by decide) (fun z_9 => ?_) (fun z_9 => absurd hcq z_9)
    refine lv_goto (tgt := 1170) hx hb dL_law_500 (by decide) ?_
    exact kk H locs ad2 st2 f2 x2 ls hP hD hS hsm.2.2 (lv_sub hl [2, 3, 4, 5, 6] rfl)
set_option maxHeartbeats 4000000 in
set_option maxRecDepth 100000 in
theorem k_read {p : Program} {l : Launch} {e : Env} {s : State} {m : MethodId} {below : List Frame} {meth : Method} {c : Code} {Q : State → Prop} {sb L : Nat} {xs : Nat → Int32} {D : va_G} {cI cJ cZ cG : ClassId} {Sim : (Nat → Option GS) → MS → Prop}
    (hx : p.tables.exec = Jvm.exec) (hb : c.code = code) (hml : c.maxLocals = 8) (hown : s.vm.findClass RL = some m.cls) (hts : ∀ w ∈ wsL_law, w.before #[Value.ref sb] s = true) (hX : va_X sb L xs s s.heap) (hsb : sb < s.heap.size) (hst : l.stackTraces = false) (hL : L ≤ 2560) (hKX : KX D cI cJ cZ cG s.heap.size s.heap s) (hSim : SimOK Sim)
    {H : Heap} {locs : List Loc} {cells slots : Nat} {o b P m0 : Nat} {ad : Nat → ga} {st : Nat → Option GS} {f : Nat → Int64} {a : Nat → Nat} {x : MS} (i : Nat) (hi : i + 5 ≤ L) (hP : va_P D vwCl (GM cI cJ cZ cG o b P ad st f m0 a x) H) (hD : va_D (fun q => s.heap.size ≤ q) (GM cI cJ cZ cG o b P ad st f m0 a x)) (hS : va_S (fun q => s.heap.size ≤ q) s.heap H locs) (hsim : Sim st x) (hrm : cells + 4 ≤ 601024 ∧ slots + 35 ≤ 7293034) {ls : Array Slot} (hl : lv_has ls 8 [(0, .ref sb), (1, .ref b), (2, .ref m0), (3, .ref o), (4, .int (nI i))])
    (kk : ∀ (H : Heap) (locs : List Loc) (ad : Nat → ga) (st : Nat → Option GS) (f : Nat → Int64) (x : MS) (ls : Array Slot), va_P D vwCl (GM cI cJ cZ cG o b P ad st f m0 a x) H → va_D (fun q => s.heap.size ≤ q) (GM cI cJ cZ cG o b P ad st f m0 a x) → va_S (fun q => s.heap.size ≤ q) s.heap H locs → Sim st x → lv_has ls 8 [(0, .ref sb), (1, .ref b), (2, .ref m0), (3, .ref o), (4, .int (nI i))] → W p l e room_1 s m #[Value.ref sb] below meth c H locs (cells + 4) (slots + 35) Q (F0 m 1170 ls [])) : W p l e room_1 s m #[Value.ref sb] below meth c H locs cells slots Q (F0 m 503 ls []) := by
  have hKW := hKX.1.1
  have hK := hKW.1
  refine lv_aload_n hx hb dL_law_503 rfl (lv_at hl 1 rfl) ?_
  refine lv_aload_n hx hb dL_law_504 rfl (lv_at hl 0 rfl) ?_
  refine lv_iload hx hb dL_law_505 (lv_at hl 4 rfl) ?_
  refine lv_iconst (v := 1) hx hb dL_law_507 (by decide) ?_
  refine lv_iadd hx hb dL_law_508 ?_
  refine va_sld hx hb hX hsb (Nat.not_le.mpr hsb) hS (sx 1 hi hL (by decide)) dL_law_509 ?_
  refine lv_aload_n hx hb dL_law_510 rfl (lv_at hl 0 rfl) ?_
  refine lv_iload hx hb dL_law_511 (lv_at hl 4 rfl) ?_
  refine lv_iconst (v := 2) hx hb dL_law_513 (by decide) ?_
  refine lv_iadd hx hb dL_law_514 ?_
  refine va_sld hx hb hX hsb (Nat.not_le.mpr hsb) hS (sx 2 hi hL (by decide)) dL_law_515 ?_
  refine lv_i2l hx hb dL_law_516 rfl ?_
  refine lv_bipush (v := 32) hx hb dL_law_517 (by decide) ?_
  refine lv_lshl hx hb dL_law_519 rfl ?_
  refine lv_aload_n hx hb dL_law_520 rfl (lv_at hl 0 rfl) ?_
  refine lv_iload hx hb dL_law_521 (lv_at hl 4 rfl) ?_
  refine lv_iconst (v := 3) hx hb dL_law_523 (by decide) ?_
  refine lv_iadd hx hb dL_law_524 ?_
  refine va_sld hx hb hX hsb (Nat.not_le.mpr hsb) hS (sx 3 hi hL (by decide)) dL_law_525 ?_
  refine lv_i2l hx hb dL_law_526 rfl ?_
  refine lv_ldc2 (v := 4294967295) hx hb hown (hts (.constantLong RL 84 4294967295) (by decide +kernel)) dL_law_527 ?_
  refine lv_land hx hb dL_law_530 ?_
  refine lv_lor hx hb dL_law_531 ?_
  refine lv_aload_n hx hb dL_law_532 rfl (lv_at hl 3 rfl) ?_
  have hP1 : va_P D vwCl (OW cI cJ cG o b P ad st f) H := wd_P.part hP (fun _ h => List.mem_append_left _ h)
  have hD1 : va_D (fun _ => True) (OW cI cJ cG o b P ad st f) := wd_D.left (hD.weaken (fun _ _ _ _ => trivial))
  refine wr_SW (A := (fun q => s.heap.size ≤ q)) (As := [.ref b, .int (xs ((nI i) + (1 : Int32)).toNatClampNeg), .long ((((xs ((nI i) + (2 : Int32)).toNatClampNeg).toInt64) <<< ((32 : Int32).toInt64 &&& 63)) ||| (((xs ((nI i) + (3 : Int32)).toNatClampNeg).toInt64) &&& (4294967295 : Int64))), .ref o]) (rest := []) (Rw := MW cI cJ cZ m0 a x) ⟨hx, hb, hml, hown, hts⟩ (c_L_read l hst s.heap.size H hS.1 D cI cJ cZ cG b P ad st o f (xs ((nI i) + (1 : Int32)).toNatClampNeg) ((((xs ((nI i) + (2 : Int32)).toNatClampNeg).toInt64) <<< ((32 : Int32).toInt64 &&& 63)) ||| (((xs ((nI i) + (3 : Int32)).toNatClampNeg).toInt64) &&& (4294967295 : Int64))) (hSim.2.1 st x hsim) hP1 hD1) (KX_puK D cI cJ cZ cG s.heap.size H) (hKX.kept hS.2.1) (vx_cwSW 4 hts gL_law_L_read rfl rfl rfl (by decide +kernel) ⟨Nat.le_of_ble_eq_true rfl, Nat.le_of_ble_eq_true rfl⟩) rfl hl.1 rfl (Nat.le_of_ble_eq_true rfl) dL_law_533 ⟨hrm.1, hrm.2⟩ hP hD hS (fun q h => h) (fun w1 H locs hw hP hD hS => ?_)
  obtain ⟨ad2, f2, hw, hv⟩ := hw
  subst hw
  obtain ⟨kc, hkc⟩ : ∃ u, u = (ob_read st (xs ((nI i) + (1 : Int32)).toNatClampNeg) ((((xs ((nI i) + (2 : Int32)).toNatClampNeg).toInt64) <<< ((32 : Int32).toInt64 &&& 63)) ||| (((xs ((nI i) + (3 : Int32)).toNatClampNeg).toInt64) &&& (4294967295 : Int64)))).1 := ⟨_, rfl⟩
  obtain ⟨st2, hst2⟩ : ∃ u, u = (ob_read st (xs ((nI i) + (1 : Int32)).toNatClampNeg) ((((xs ((nI i) + (2 : Int32)).toNatClampNeg).toInt64) <<< ((32 : Int32).toInt64 &&& 63)) ||| (((xs ((nI i) + (3 : Int32)).toNatClampNeg).toInt64) &&& (4294967295 : Int64)))).2.1 := ⟨_, rfl⟩
  rw [← hst2] at hP hD
  rw [← hkc] at hv
  refine W.eq (g2 := F0 m 536 ls [.int kc]) (by rw [hkc]; rfl) ?_
  refine lv_istore (lv' := [(5, .int kc), (0, .ref sb), (1, .ref b), (2, .ref m0), (3, .ref o), (4, .int (nI i))]) hx hb dL_law_536 hl (by decide) rfl (fun ls hl => ?_)
  refine lv_aload_n hx hb dL_law_538 rfl (lv_at hl 3 rfl) ?_
  refine lv_aload_n hx hb dL_law_539 rfl (lv_at hl 1 rfl) ?_
  refine lv_iload hx hb dL_law_540 (lv_at hl 5 rfl) ?_
  refine lv_iconst (v := 1) hx hb dL_law_542 (by decide) ?_
  refine lv_iadd hx hb dL_law_543 ?_
  refine va_sld hx hb hX hsb (Nat.not_le.mpr hsb) hS (sx 1 hi hL (by decide)) dL_law_544 ?_
  refine lv_aload_n hx hb dL_law_545 rfl (lv_at hl 1 rfl) ?_
  refine lv_iload hx hb dL_law_546 (lv_at hl 5 rfl) ?_
  refine lv_iconst (v := 2) hx hb dL_law_548 (by decide) ?_
  refine lv_iadd hx hb dL_law_549 ?_
  refine va_sld hx hb hX hsb (Nat.not_le.mpr hsb) hS (sx 2 hi hL (by decide)) dL_law_550 ?_
  refine lv_i2l hx hb dL_law_551 rfl ?_
  refine lv_bipush (v := 32) hx hb dL_law_552 (by decide) ?_
  refine lv_lshl hx hb dL_law_554 rfl ?_
  refine lv_aload_n hx hb dL_law_555 rfl (lv_at hl 1 rfl) ?_
  refine lv_iload hx hb dL_law_556 (lv_at hl 5 rfl) ?_
  refine lv_iconst (v := 3) hx hb dL_law_558 (by decide) ?_
  refine lv_iadd hx hb dL_law_559 ?_
  refine va_sld hx hb hX hsb (Nat.not_le.mpr hsb) hS (sx 3 hi hL (by decide)) dL_law_560 ?_
  refine lv_i2l hx hb dL_law_561 rfl ?_
  refine lv_ldc2 (v := 4294967295) hx hb hown (hts (.constantLong RL 84 4294967295) (by decide +kernel)) dL_law_562 ?_
  refine lv_land hx hb dL_law_565 ?_
  refine lv_lor hx hb dL_law_566 ?_
  have hP := wd_P.perm hP List.perm_append_comm
  have hD := wd_D.perm hD List.perm_append_comm
  have hPM : va_P D vwCl (MW cI cJ cZ m0 a x) H := wd_P.part hP (fun _ h => List.mem_append_left _ h)
  refine wr_V (A := (fun q => s.heap.size ≤ q)) (As := [.int (xs ((nI i) + (1 : Int32)).toNatClampNeg), .long ((((xs ((nI i) + (2 : Int32)).toNatClampNeg).toInt64) <<< ((32 : Int32).toInt64 &&& 63)) ||| (((xs ((nI i) + (3 : Int32)).toNatClampNeg).toInt64) &&& (4294967295 : Int64)))]) (rest := []) (Rw := OW cI cJ cG o b P ad2 st2 f2) ⟨hx, hb, hml, hown, hts⟩ (c_X2_read l H D cI cJ cZ cG m0 a x (xs ((nI i) + (1 : Int32)).toNatClampNeg) ((((xs ((nI i) + (2 : Int32)).toNatClampNeg).toInt64) <<< ((32 : Int32).toInt64 &&& 63)) ||| (((xs ((nI i) + (3 : Int32)).toNatClampNeg).toInt64) &&& (4294967295 : Int64))) (hSim.2.2.1 st x hsim) hPM (wd_D.left (hD.weaken (fun _ _ _ _ => trivial)))) (KW_puK D cI cJ cZ cG) hKW (cwV 2 hts gL_law_X2_read rfl rfl rfl (by decide +kernel) ⟨Nat.le_of_ble_eq_true rfl, Nat.le_of_ble_eq_true rfl⟩) (va_recv hK hPM (ci := 2) (q0 := 0) rfl rfl) rfl hl.1 rfl (Nat.le_of_ble_eq_true rfl) dL_law_567 ⟨by show _ ≤ 601024; omega, by show _ ≤ 7293034; omega⟩ hP hD hS (fun q h => h) (fun w1 H locs hw hP hD hS => ?_)
  subst hw
  obtain ⟨an, han⟩ : ∃ u, u = (F_X2_read x (xs ((nI i) + (1 : Int32)).toNatClampNeg) ((((xs ((nI i) + (2 : Int32)).toNatClampNeg).toInt64) <<< ((32 : Int32).toInt64 &&& 63)) ||| (((xs ((nI i) + (3 : Int32)).toNatClampNeg).toInt64) &&& (4294967295 : Int64)))).1 := ⟨_, rfl⟩
  obtain ⟨x2, hx2⟩ : ∃ u, u = (F_X2_read x (xs ((nI i) + (1 : Int32)).toNatClampNeg) ((((xs ((nI i) + (2 : Int32)).toNatClampNeg).toInt64) <<< ((32 : Int32).toInt64 &&& 63)) ||| (((xs ((nI i) + (3 : Int32)).toNatClampNeg).toInt64) &&& (4294967295 : Int64)))).2 := ⟨_, rfl⟩
  rw [← hx2] at hP hD
  have hP := wd_P.perm hP List.perm_append_comm
  have hD := wd_D.perm hD List.perm_append_comm
  have hsm := hSim.2.2.2.2.2.2.2.2.1 st x (xs ((nI i) + (1 : Int32)).toNatClampNeg) ((((xs ((nI i) + (2 : Int32)).toNatClampNeg).toInt64) <<< ((32 : Int32).toInt64 &&& 63)) ||| (((xs ((nI i) + (3 : Int32)).toNatClampNeg).toInt64) &&& (4294967295 : Int64))) hsim
  rw [← hx2, ← hkc, ← hst2, ← han] at hsm
  have hthr : (mth x2) = kc := hsm.1
  refine W.eq (g2 := F0 m 570 ls [.long an]) (by rw [han]; rfl) ?_
  refine lv_lstore (lv' := [(6, .long an), (5, .int kc), (0, .ref sb), (1, .ref b), (2, .ref m0), (3, .ref o), (4, .int (nI i))]) hx hb dL_law_570 hl (by decide) rfl (fun ls hl => ?_)
  refine lv_aload_n hx hb dL_law_572 rfl (lv_at hl 4 rfl) ?_
  have hPM : va_P D vwCl (MW cI cJ cZ m0 a x2) H := wd_P.part hP (fun _ h => List.mem_append_right _ h)
  refine pu_V (As := []) (rest := []) ⟨hx, hb, hml, hown, hts⟩ (c_X2_thrown l H D cI cJ cZ cG m0 a x2 hPM) (KW_puK D cI cJ cZ cG) hKW (cwV 0 hts gL_law_X2_thrown rfl rfl rfl (by decide +kernel) ⟨Nat.le_of_ble_eq_true rfl, Nat.le_of_ble_eq_true rfl⟩) (va_recv hK hPM (ci := 2) (q0 := 0) rfl rfl) rfl hl.1 rfl (Nat.le_of_ble_eq_true rfl) dL_law_573 ⟨by show _ ≤ 601024; omega, by show _ ≤ 7293034; omega⟩ ?_
  refine W.eq (g2 := F0 m 576 ls [.int (mth x2)]) rfl ?_
  refine lv_iload hx hb dL_law_576 (lv_at hl 1 rfl) ?_
  refine lv_icmp_eq (tgt := 583) hx hb dL_law_578 (by decide) (fun z_9 => ?_) (fun z_9 => absurd hthr z_9)
  refine lv_iload hx hb dL_law_583 (lv_at hl 1 rfl) ?_
  refine lv_if_ne (tgt := 599) hx hb dL_law_585 (by decide) (fun c_1 => ?_) (fun c_1 => ?_)
  · refine lv_goto (tgt := 1170) hx hb dL_law_599 (by decide) ?_
    exact kk H locs ad2 st2 f2 x2 ls hP hD hS hsm.2.2 (lv_sub hl [2, 3, 4, 5, 6] rfl)
  · refine lv_aload_n hx hb dL_law_588 rfl (lv_at hl 5 rfl) ?_
    refine lv_iconst (v := 0) hx hb dL_law_589 (by decide) ?_
    refine va_lald hx hb hK hP 0 1 rfl rfl (show vp_in (nI 0) 1 from vp_in_nI (by decide) (by decide)) dL_law_590 ?_
    refine lv_lload hx hb dL_law_591 (lv_at hl 0 rfl) ?_
    have hcq : (lg_cmp (f2 (0 : Int32).toNatClampNeg) an) = 0 := (lg_cmp_eq _ _).mpr ((hv c_1).trans (hsm.2.1 c_1))
    refine W.lcmp hx hb dL_law_593 ?_
    refine lv_if_eq (tgt := 599) hx hb dL_law_594 (by decide) (fun z_9 => ?_) (fun z_9 => absurd hcq z_9)
    refine lv_goto (tgt := 1170) hx hb dL_law_599 (by decide) ?_
    exact kk H locs ad2 st2 f2 x2 ls hP hD hS hsm.2.2 (lv_sub hl [2, 3, 4, 5, 6] rfl)
