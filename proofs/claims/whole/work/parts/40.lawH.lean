set_option maxHeartbeats 4000000 in
set_option maxRecDepth 100000 in
theorem k_about {p : Program} {l : Launch} {e : Env} {s : State} {m : MethodId} {below : List Frame} {meth : Method} {c : Code} {Q : State → Prop} {sb L : Nat} {xs : Nat → Int32} {D : va_G} {cI cJ cZ cG : ClassId} {Sim : (Nat → Option GS) → MS → Prop}
    (hx : p.tables.exec = Jvm.exec) (hb : c.code = code) (hml : c.maxLocals = 8) (hown : s.vm.findClass RL = some m.cls) (hts : ∀ w ∈ wsL_law, w.before #[Value.ref sb] s = true) (hX : va_X sb L xs s s.heap) (hsb : sb < s.heap.size) (hst : l.stackTraces = false) (hL : L ≤ 2560) (hKX : KX D cI cJ cZ cG s.heap.size s.heap s) (hSim : SimOK Sim)
    {H : Heap} {locs : List Loc} {cells slots : Nat} {o b P m0 : Nat} {ad : Nat → ga} {st : Nat → Option GS} {f : Nat → Int64} {a : Nat → Nat} {x : MS} (i : Nat) (hi : i + 5 ≤ L) (hP : va_P D vwCl (GM cI cJ cZ cG o b P ad st f m0 a x) H) (hD : va_D (fun q => s.heap.size ≤ q) (GM cI cJ cZ cG o b P ad st f m0 a x)) (hS : va_S (fun q => s.heap.size ≤ q) s.heap H locs) (hsim : Sim st x) (hrm : cells + 4 ≤ 601024 ∧ slots + 35 ≤ 7293034) {ls : Array Slot} (hl : lv_has ls 8 [(0, .ref sb), (1, .ref b), (2, .ref m0), (3, .ref o), (4, .int (nI i))])
    (kk : ∀ (H : Heap) (locs : List Loc) (ad : Nat → ga) (st : Nat → Option GS) (f : Nat → Int64) (x : MS) (ls : Array Slot), va_P D vwCl (GM cI cJ cZ cG o b P ad st f m0 a x) H → va_D (fun q => s.heap.size ≤ q) (GM cI cJ cZ cG o b P ad st f m0 a x) → va_S (fun q => s.heap.size ≤ q) s.heap H locs → Sim st x → lv_has ls 8 [(0, .ref sb), (1, .ref b), (2, .ref m0), (3, .ref o), (4, .int (nI i))] → W p l e room_1 s m #[Value.ref sb] below meth c H locs (cells + 4) (slots + 35) Q (F0 m 1170 ls [])) : W p l e room_1 s m #[Value.ref sb] below meth c H locs cells slots Q (F0 m 870 ls []) := by
  have hKW := hKX.1.1
  have hK := hKW.1
  refine lv_aload_n hx hb dL_law_870 rfl (lv_at hl 1 rfl) ?_
  refine lv_aload_n hx hb dL_law_871 rfl (lv_at hl 0 rfl) ?_
  refine lv_iload hx hb dL_law_872 (lv_at hl 4 rfl) ?_
  refine lv_iconst (v := 1) hx hb dL_law_874 (by decide) ?_
  refine lv_iadd hx hb dL_law_875 ?_
  refine va_sld hx hb hX hsb (Nat.not_le.mpr hsb) hS (sx 1 hi hL (by decide)) dL_law_876 ?_
  refine lv_aload_n hx hb dL_law_877 rfl (lv_at hl 0 rfl) ?_
  refine lv_iload hx hb dL_law_878 (lv_at hl 4 rfl) ?_
  refine lv_iconst (v := 2) hx hb dL_law_880 (by decide) ?_
  refine lv_iadd hx hb dL_law_881 ?_
  refine va_sld hx hb hX hsb (Nat.not_le.mpr hsb) hS (sx 2 hi hL (by decide)) dL_law_882 ?_
  refine lv_aload_n hx hb dL_law_883 rfl (lv_at hl 3 rfl) ?_
  have hP1 : va_P D vwCl (OW cI cJ cG o b P ad st f) H := wd_P.part hP (fun _ h => List.mem_append_left _ h)
  have hD1 : va_D (fun _ => True) (OW cI cJ cG o b P ad st f) := wd_D.left (hD.weaken (fun _ _ _ _ => trivial))
  refine wr_SW (A := (fun q => s.heap.size ≤ q)) (As := [.ref b, .int (xs ((nI i) + (1 : Int32)).toNatClampNeg), .int (xs ((nI i) + (2 : Int32)).toNatClampNeg), .ref o]) (rest := []) (Rw := MW cI cJ cZ m0 a x) ⟨hx, hb, hml, hown, hts⟩ (c_L_about l hst s.heap.size H hS.1 D cI cJ cZ cG b P ad st o f (xs ((nI i) + (1 : Int32)).toNatClampNeg) (xs ((nI i) + (2 : Int32)).toNatClampNeg) (hSim.2.1 st x hsim) hP1 hD1) (KX_puK D cI cJ cZ cG s.heap.size H) (hKX.kept hS.2.1) (vx_cwSW 4 hts gL_law_L_about rfl rfl rfl (by decide +kernel) ⟨Nat.le_of_ble_eq_true rfl, Nat.le_of_ble_eq_true rfl⟩) rfl hl.1 rfl (Nat.le_of_ble_eq_true rfl) dL_law_884 ⟨hrm.1, hrm.2⟩ hP hD hS (fun q h => h) (fun w1 H locs hw hP hD hS => ?_)
  obtain ⟨ad2, f2, hw, hv⟩ := hw
  subst hw
  obtain ⟨kc, hkc⟩ : ∃ u, u = (ob_about st (xs ((nI i) + (1 : Int32)).toNatClampNeg) (xs ((nI i) + (2 : Int32)).toNatClampNeg)).1 := ⟨_, rfl⟩
  obtain ⟨st2, hst2⟩ : ∃ u, u = (ob_about st (xs ((nI i) + (1 : Int32)).toNatClampNeg) (xs ((nI i) + (2 : Int32)).toNatClampNeg)).2.1 := ⟨_, rfl⟩
  rw [← hst2] at hP hD
  rw [← hkc] at hv
  refine W.eq (g2 := F0 m 887 ls [.int kc]) (by rw [hkc]; rfl) ?_
  refine lv_istore (lv' := [(5, .int kc), (0, .ref sb), (1, .ref b), (2, .ref m0), (3, .ref o), (4, .int (nI i))]) hx hb dL_law_887 hl (by decide) rfl (fun ls hl => ?_)
  refine lv_aload_n hx hb dL_law_889 rfl (lv_at hl 3 rfl) ?_
  refine lv_aload_n hx hb dL_law_890 rfl (lv_at hl 1 rfl) ?_
  refine lv_iload hx hb dL_law_891 (lv_at hl 5 rfl) ?_
  refine lv_iconst (v := 1) hx hb dL_law_893 (by decide) ?_
  refine lv_iadd hx hb dL_law_894 ?_
  refine va_sld hx hb hX hsb (Nat.not_le.mpr hsb) hS (sx 1 hi hL (by decide)) dL_law_895 ?_
  refine lv_aload_n hx hb dL_law_896 rfl (lv_at hl 1 rfl) ?_
  refine lv_iload hx hb dL_law_897 (lv_at hl 5 rfl) ?_
  refine lv_iconst (v := 2) hx hb dL_law_899 (by decide) ?_
  refine lv_iadd hx hb dL_law_900 ?_
  refine va_sld hx hb hX hsb (Nat.not_le.mpr hsb) hS (sx 2 hi hL (by decide)) dL_law_901 ?_
  have hP := wd_P.perm hP List.perm_append_comm
  have hD := wd_D.perm hD List.perm_append_comm
  have hPM : va_P D vwCl (MW cI cJ cZ m0 a x) H := wd_P.part hP (fun _ h => List.mem_append_left _ h)
  refine wr_V (A := (fun q => s.heap.size ≤ q)) (As := [.int (xs ((nI i) + (1 : Int32)).toNatClampNeg), .int (xs ((nI i) + (2 : Int32)).toNatClampNeg)]) (rest := []) (Rw := OW cI cJ cG o b P ad2 st2 f2) ⟨hx, hb, hml, hown, hts⟩ (c_X2_about l H D cI cJ cZ cG m0 a x (xs ((nI i) + (1 : Int32)).toNatClampNeg) (xs ((nI i) + (2 : Int32)).toNatClampNeg) (hSim.2.2.1 st x hsim) hPM (wd_D.left (hD.weaken (fun _ _ _ _ => trivial)))) (KW_puK D cI cJ cZ cG) hKW (cwV 2 hts gL_law_X2_about rfl rfl rfl (by decide +kernel) ⟨Nat.le_of_ble_eq_true rfl, Nat.le_of_ble_eq_true rfl⟩) (va_recv hK hPM (ci := 2) (q0 := 0) rfl rfl) rfl hl.1 rfl (Nat.le_of_ble_eq_true rfl) dL_law_902 ⟨by show _ ≤ 601024; omega, by show _ ≤ 7293034; omega⟩ hP hD hS (fun q h => h) (fun w1 H locs hw hP hD hS => ?_)
  subst hw
  obtain ⟨an, han⟩ : ∃ u, u = (F_X2_about x (xs ((nI i) + (1 : Int32)).toNatClampNeg) (xs ((nI i) + (2 : Int32)).toNatClampNeg)).1 := ⟨_, rfl⟩
  obtain ⟨x2, hx2⟩ : ∃ u, u = (F_X2_about x (xs ((nI i) + (1 : Int32)).toNatClampNeg) (xs ((nI i) + (2 : Int32)).toNatClampNeg)).2 := ⟨_, rfl⟩
  rw [← hx2] at hP hD
  have hP := wd_P.perm hP List.perm_append_comm
  have hD := wd_D.perm hD List.perm_append_comm
  have hsm := hSim.2.2.2.2.2.2.2.2.2.2.2.2.2.1 st x (xs ((nI i) + (1 : Int32)).toNatClampNeg) (xs ((nI i) + (2 : Int32)).toNatClampNeg) hsim
  rw [← hx2, ← hkc, ← hst2, ← han] at hsm
  have hthr : (mth x2) = kc := hsm.1
  refine W.eq (g2 := F0 m 905 ls [.int an]) (by rw [han]; rfl) ?_
  refine lv_istore (lv' := [(6, .int an), (5, .int kc), (0, .ref sb), (1, .ref b), (2, .ref m0), (3, .ref o), (4, .int (nI i))]) hx hb dL_law_905 hl (by decide) rfl (fun ls hl => ?_)
  refine lv_aload_n hx hb dL_law_907 rfl (lv_at hl 4 rfl) ?_
  have hPM : va_P D vwCl (MW cI cJ cZ m0 a x2) H := wd_P.part hP (fun _ h => List.mem_append_right _ h)
  refine pu_V (As := []) (rest := []) ⟨hx, hb, hml, hown, hts⟩ (c_X2_thrown l H D cI cJ cZ cG m0 a x2 hPM) (KW_puK D cI cJ cZ cG) hKW (cwV 0 hts gL_law_X2_thrown rfl rfl rfl (by decide +kernel) ⟨Nat.le_of_ble_eq_true rfl, Nat.le_of_ble_eq_true rfl⟩) (va_recv hK hPM (ci := 2) (q0 := 0) rfl rfl) rfl hl.1 rfl (Nat.le_of_ble_eq_true rfl) dL_law_908 ⟨by show _ ≤ 601024; omega, by show _ ≤ 7293034; omega⟩ ?_
  refine W.eq (g2 := F0 m 911 ls [.int (mth x2)]) rfl ?_
  refine lv_iload hx hb dL_law_911 (lv_at hl 1 rfl) ?_
  refine lv_icmp_eq (tgt := 918) hx hb dL_law_913 (by decide) (fun z_9 => ?_) (fun z_9 => absurd hthr z_9)
  refine lv_iload hx hb dL_law_918 (lv_at hl 1 rfl) ?_
  refine lv_if_ne (tgt := 935) hx hb dL_law_920 (by decide) (fun c_1 => ?_) (fun c_1 => ?_)
  · refine lv_goto (tgt := 1170) hx hb dL_law_935 (by decide) ?_
    exact kk H locs ad2 st2 f2 x2 ls hP hD hS hsm.2.2 (lv_sub hl [2, 3, 4, 5, 6] rfl)
  · refine lv_aload_n hx hb dL_law_923 rfl (lv_at hl 5 rfl) ?_
    refine lv_iconst (v := 0) hx hb dL_law_924 (by decide) ?_
    refine va_lald hx hb hK hP 0 1 rfl rfl (show vp_in (nI 0) 1 from vp_in_nI (by decide) (by decide)) dL_law_925 ?_
    refine lv_iload hx hb dL_law_926 (lv_at hl 0 rfl) ?_
    refine lv_i2l hx hb dL_law_928 rfl ?_
    have hcq : (lg_cmp (f2 (0 : Int32).toNatClampNeg) an.toInt64) = 0 := (lg_cmp_eq _ _).mpr ((hv c_1).trans (hsm.2.1 c_1))
    refine W.lcmp hx hb dL_law_929 ?_
    refine lv_if_eq (tgt := 935) hx hb dL_law_930 (by decide) (fun z_9 => ?_) (fun z_9 => absurd hcq z_9)
    refine lv_goto (tgt := 1170) hx hb dL_law_935 (by decide) ?_
    exact kk H locs ad2 st2 f2 x2 ls hP hD hS hsm.2.2 (lv_sub hl [2, 3, 4, 5, 6] rfl)
set_option maxHeartbeats 4000000 in
set_option maxRecDepth 100000 in
theorem k_stepAt {p : Program} {l : Launch} {e : Env} {s : State} {m : MethodId} {below : List Frame} {meth : Method} {c : Code} {Q : State → Prop} {sb L : Nat} {xs : Nat → Int32} {D : va_G} {cI cJ cZ cG : ClassId} {Sim : (Nat → Option GS) → MS → Prop}
    (hx : p.tables.exec = Jvm.exec) (hb : c.code = code) (hml : c.maxLocals = 8) (hown : s.vm.findClass RL = some m.cls) (hts : ∀ w ∈ wsL_law, w.before #[Value.ref sb] s = true) (hX : va_X sb L xs s s.heap) (hsb : sb < s.heap.size) (hst : l.stackTraces = false) (hL : L ≤ 2560) (hKX : KX D cI cJ cZ cG s.heap.size s.heap s) (hSim : SimOK Sim)
    {H : Heap} {locs : List Loc} {cells slots : Nat} {o b P m0 : Nat} {ad : Nat → ga} {st : Nat → Option GS} {f : Nat → Int64} {a : Nat → Nat} {x : MS} (i : Nat) (hi : i + 5 ≤ L) (hP : va_P D vwCl (GM cI cJ cZ cG o b P ad st f m0 a x) H) (hD : va_D (fun q => s.heap.size ≤ q) (GM cI cJ cZ cG o b P ad st f m0 a x)) (hS : va_S (fun q => s.heap.size ≤ q) s.heap H locs) (hsim : Sim st x) (hrm : cells + 4 ≤ 601024 ∧ slots + 35 ≤ 7293034) {ls : Array Slot} (hl : lv_has ls 8 [(0, .ref sb), (1, .ref b), (2, .ref m0), (3, .ref o), (4, .int (nI i))])
    (kk : ∀ (H : Heap) (locs : List Loc) (ad : Nat → ga) (st : Nat → Option GS) (f : Nat → Int64) (x : MS) (ls : Array Slot), va_P D vwCl (GM cI cJ cZ cG o b P ad st f m0 a x) H → va_D (fun q => s.heap.size ≤ q) (GM cI cJ cZ cG o b P ad st f m0 a x) → va_S (fun q => s.heap.size ≤ q) s.heap H locs → Sim st x → lv_has ls 8 [(0, .ref sb), (1, .ref b), (2, .ref m0), (3, .ref o), (4, .int (nI i))] → W p l e room_1 s m #[Value.ref sb] below meth c H locs (cells + 4) (slots + 35) Q (F0 m 1170 ls [])) : W p l e room_1 s m #[Value.ref sb] below meth c H locs cells slots Q (F0 m 938 ls []) := by
  have hKW := hKX.1.1
  have hK := hKW.1
  refine lv_aload_n hx hb dL_law_938 rfl (lv_at hl 1 rfl) ?_
  refine lv_aload_n hx hb dL_law_939 rfl (lv_at hl 0 rfl) ?_
  refine lv_iload hx hb dL_law_940 (lv_at hl 4 rfl) ?_
  refine lv_iconst (v := 1) hx hb dL_law_942 (by decide) ?_
  refine lv_iadd hx hb dL_law_943 ?_
  refine va_sld hx hb hX hsb (Nat.not_le.mpr hsb) hS (sx 1 hi hL (by decide)) dL_law_944 ?_
  refine lv_aload_n hx hb dL_law_945 rfl (lv_at hl 0 rfl) ?_
  refine lv_iload hx hb dL_law_946 (lv_at hl 4 rfl) ?_
  refine lv_iconst (v := 2) hx hb dL_law_948 (by decide) ?_
  refine lv_iadd hx hb dL_law_949 ?_
  refine va_sld hx hb hX hsb (Nat.not_le.mpr hsb) hS (sx 2 hi hL (by decide)) dL_law_950 ?_
  refine lv_aload_n hx hb dL_law_951 rfl (lv_at hl 0 rfl) ?_
  refine lv_iload hx hb dL_law_952 (lv_at hl 4 rfl) ?_
  refine lv_iconst (v := 3) hx hb dL_law_954 (by decide) ?_
  refine lv_iadd hx hb dL_law_955 ?_
  refine va_sld hx hb hX hsb (Nat.not_le.mpr hsb) hS (sx 3 hi hL (by decide)) dL_law_956 ?_
  refine lv_aload_n hx hb dL_law_957 rfl (lv_at hl 3 rfl) ?_
  have hP1 : va_P D vwCl (OW cI cJ cG o b P ad st f) H := wd_P.part hP (fun _ h => List.mem_append_left _ h)
  have hD1 : va_D (fun _ => True) (OW cI cJ cG o b P ad st f) := wd_D.left (hD.weaken (fun _ _ _ _ => trivial))
  refine wr_SW (A := (fun q => s.heap.size ≤ q)) (As := [.ref b, .int (xs ((nI i) + (1 : Int32)).toNatClampNeg), .int (xs ((nI i) + (2 : Int32)).toNatClampNeg), .int (xs ((nI i) + (3 : Int32)).toNatClampNeg), .ref o]) (rest := []) (Rw := MW cI cJ cZ m0 a x) ⟨hx, hb, hml, hown, hts⟩ (c_L_stepAt l hst s.heap.size H hS.1 D cI cJ cZ cG b P ad st o f (xs ((nI i) + (1 : Int32)).toNatClampNeg) (xs ((nI i) + (2 : Int32)).toNatClampNeg) (xs ((nI i) + (3 : Int32)).toNatClampNeg) (hSim.2.1 st x hsim) hP1 hD1) (KX_puK D cI cJ cZ cG s.heap.size H) (hKX.kept hS.2.1) (vx_cwSW 5 hts gL_law_L_stepAt rfl rfl rfl (by decide +kernel) ⟨Nat.le_of_ble_eq_true rfl, Nat.le_of_ble_eq_true rfl⟩) rfl hl.1 rfl (Nat.le_of_ble_eq_true rfl) dL_law_958 ⟨hrm.1, hrm.2⟩ hP hD hS (fun q h => h) (fun w1 H locs hw hP hD hS => ?_)
  obtain ⟨ad2, f2, hw, hv⟩ := hw
  subst hw
  obtain ⟨kc, hkc⟩ : ∃ u, u = (ob_stepAt st (xs ((nI i) + (1 : Int32)).toNatClampNeg) (xs ((nI i) + (2 : Int32)).toNatClampNeg) (xs ((nI i) + (3 : Int32)).toNatClampNeg)).1 := ⟨_, rfl⟩
  obtain ⟨st2, hst2⟩ : ∃ u, u = (ob_stepAt st (xs ((nI i) + (1 : Int32)).toNatClampNeg) (xs ((nI i) + (2 : Int32)).toNatClampNeg) (xs ((nI i) + (3 : Int32)).toNatClampNeg)).2.1 := ⟨_, rfl⟩
  rw [← hst2] at hP hD
  rw [← hkc] at hv
  refine W.eq (g2 := F0 m 961 ls [.int kc]) (by rw [hkc]; rfl) ?_
  refine lv_istore (lv' := [(5, .int kc), (0, .ref sb), (1, .ref b), (2, .ref m0), (3, .ref o), (4, .int (nI i))]) hx hb dL_law_961 hl (by decide) rfl (fun ls hl => ?_)
  refine lv_aload_n hx hb dL_law_963 rfl (lv_at hl 3 rfl) ?_
  refine lv_aload_n hx hb dL_law_964 rfl (lv_at hl 1 rfl) ?_
  refine lv_iload hx hb dL_law_965 (lv_at hl 5 rfl) ?_
  refine lv_iconst (v := 1) hx hb dL_law_967 (by decide) ?_
  refine lv_iadd hx hb dL_law_968 ?_
  refine va_sld hx hb hX hsb (Nat.not_le.mpr hsb) hS (sx 1 hi hL (by decide)) dL_law_969 ?_
  refine lv_aload_n hx hb dL_law_970 rfl (lv_at hl 1 rfl) ?_
  refine lv_iload hx hb dL_law_971 (lv_at hl 5 rfl) ?_
  refine lv_iconst (v := 2) hx hb dL_law_973 (by decide) ?_
  refine lv_iadd hx hb dL_law_974 ?_
  refine va_sld hx hb hX hsb (Nat.not_le.mpr hsb) hS (sx 2 hi hL (by decide)) dL_law_975 ?_
  refine lv_aload_n hx hb dL_law_976 rfl (lv_at hl 1 rfl) ?_
  refine lv_iload hx hb dL_law_977 (lv_at hl 5 rfl) ?_
  refine lv_iconst (v := 3) hx hb dL_law_979 (by decide) ?_
  refine lv_iadd hx hb dL_law_980 ?_
  refine va_sld hx hb hX hsb (Nat.not_le.mpr hsb) hS (sx 3 hi hL (by decide)) dL_law_981 ?_
  have hP := wd_P.perm hP List.perm_append_comm
  have hD := wd_D.perm hD List.perm_append_comm
  have hPM : va_P D vwCl (MW cI cJ cZ m0 a x) H := wd_P.part hP (fun _ h => List.mem_append_left _ h)
  refine wr_V (A := (fun q => s.heap.size ≤ q)) (As := [.int (xs ((nI i) + (1 : Int32)).toNatClampNeg), .int (xs ((nI i) + (2 : Int32)).toNatClampNeg), .int (xs ((nI i) + (3 : Int32)).toNatClampNeg)]) (rest := []) (Rw := OW cI cJ cG o b P ad2 st2 f2) ⟨hx, hb, hml, hown, hts⟩ (c_X2_stepAt l H D cI cJ cZ cG m0 a x (xs ((nI i) + (1 : Int32)).toNatClampNeg) (xs ((nI i) + (2 : Int32)).toNatClampNeg) (xs ((nI i) + (3 : Int32)).toNatClampNeg) (hSim.2.2.1 st x hsim) hPM (wd_D.left (hD.weaken (fun _ _ _ _ => trivial)))) (KW_puK D cI cJ cZ cG) hKW (cwV 3 hts gL_law_X2_stepAt rfl rfl rfl (by decide +kernel) ⟨Nat.le_of_ble_eq_true rfl, Nat.le_of_ble_eq_true rfl⟩) (va_recv hK hPM (ci := 2) (q0 := 0) rfl rfl) rfl hl.1 rfl (Nat.le_of_ble_eq_true rfl) dL_law_982 ⟨by show _ ≤ 601024; omega, by show _ ≤ 7293034; omega⟩ hP hD hS (fun q h => h) (fun w1 H locs hw hP hD hS => ?_)
  subst hw
  obtain ⟨an, han⟩ : ∃ u, u = (F_X2_stepAt x (xs ((nI i) + (1 : Int32)).toNatClampNeg) (xs ((nI i) + (2 : Int32)).toNatClampNeg) (xs ((nI i) + (3 : Int32)).toNatClampNeg)).1 := ⟨_, rfl⟩
  obtain ⟨x2, hx2⟩ : ∃ u, u = (F_X2_stepAt x (xs ((nI i) + (1 : Int32)).toNatClampNeg) (xs ((nI i) + (2 : Int32)).toNatClampNeg) (xs ((nI i) + (3 : Int32)).toNatClampNeg)).2 := ⟨_, rfl⟩
  rw [← hx2] at hP hD
  have hP := wd_P.perm hP List.perm_append_comm
  have hD := wd_D.perm hD List.perm_append_comm
  have hsm := hSim.2.2.2.2.2.2.2.2.2.2.2.2.2.2.1 st x (xs ((nI i) + (1 : Int32)).toNatClampNeg) (xs ((nI i) + (2 : Int32)).toNatClampNeg) (xs ((nI i) + (3 : Int32)).toNatClampNeg) hsim
  rw [← hx2, ← hkc, ← hst2, ← han] at hsm
  have hthr : (mth x2) = kc := hsm.1
  refine W.eq (g2 := F0 m 985 ls [.int an]) (by rw [han]; rfl) ?_
  refine lv_istore (lv' := [(6, .int an), (5, .int kc), (0, .ref sb), (1, .ref b), (2, .ref m0), (3, .ref o), (4, .int (nI i))]) hx hb dL_law_985 hl (by decide) rfl (fun ls hl => ?_)
  refine lv_aload_n hx hb dL_law_987 rfl (lv_at hl 4 rfl) ?_
  have hPM : va_P D vwCl (MW cI cJ cZ m0 a x2) H := wd_P.part hP (fun _ h => List.mem_append_right _ h)
  refine pu_V (As := []) (rest := []) ⟨hx, hb, hml, hown, hts⟩ (c_X2_thrown l H D cI cJ cZ cG m0 a x2 hPM) (KW_puK D cI cJ cZ cG) hKW (cwV 0 hts gL_law_X2_thrown rfl rfl rfl (by decide +kernel) ⟨Nat.le_of_ble_eq_true rfl, Nat.le_of_ble_eq_true rfl⟩) (va_recv hK hPM (ci := 2) (q0 := 0) rfl rfl) rfl hl.1 rfl (Nat.le_of_ble_eq_true rfl) dL_law_988 ⟨by show _ ≤ 601024; omega, by show _ ≤ 7293034; omega⟩ ?_
  refine W.eq (g2 := F0 m 991 ls [.int (mth x2)]) rfl ?_
  refine lv_iload hx hb dL_law_991 (lv_at hl 1 rfl) ?_
  refine lv_icmp_eq (tgt := 998) hx hb dL_law_993 (by decide) (fun z_9 => ?_) (fun z_9 => absurd hthr z_9)
  refine lv_iload hx hb dL_law_998 (lv_at hl 1 rfl) ?_
  refine lv_if_ne (tgt := 1015) hx hb dL_law_1000 (by decide) (fun c_1 => ?_) (fun c_1 => ?_)
  · refine lv_goto (tgt := 1170) hx hb dL_law_1015 (by decide) ?_
    exact kk H locs ad2 st2 f2 x2 ls hP hD hS hsm.2.2 (lv_sub hl [2, 3, 4, 5, 6] rfl)
  · refine lv_aload_n hx hb dL_law_1003 rfl (lv_at hl 5 rfl) ?_
    refine lv_iconst (v := 0) hx hb dL_law_1004 (by decide) ?_
    refine va_lald hx hb hK hP 0 1 rfl rfl (show vp_in (nI 0) 1 from vp_in_nI (by decide) (by decide)) dL_law_1005 ?_
    refine lv_iload hx hb dL_law_1006 (lv_at hl 0 rfl) ?_
    refine lv_i2l hx hb dL_law_1008 rfl ?_
    have hcq : (lg_cmp (f2 (0 : Int32).toNatClampNeg) an.toInt64) = 0 := (lg_cmp_eq _ _).mpr ((hv c_1).trans (hsm.2.1 c_1))
    refine W.lcmp hx hb dL_law_1009 ?_
    refine lv_if_eq (tgt := 1015) hx hb dL_law_1010 (by decide) (fun z_9 => ?_) (fun z_9 => absurd hcq z_9)
    refine lv_goto (tgt := 1170) hx hb dL_law_1015 (by decide) ?_
    exact kk H locs ad2 st2 f2 x2 ls hP hD hS hsm.2.2 (lv_sub hl [2, 3, 4, 5, 6] rfl)
set_option maxHeartbeats 4000000 in
set_option maxRecDepth 100000 in
theorem k_rank {p : Program} {l : Launch} {e : Env} {s : State} {m : MethodId} {below : List Frame} {meth : Method} {c : Code} {Q : State → Prop} {sb L : Nat} {xs : Nat → Int32} {D : va_G} {cI cJ cZ cG : ClassId} {Sim : (Nat → Option GS) → MS → Prop}
    (hx : p.tables.exec = Jvm.exec) (hb : c.code = code) (hml : c.maxLocals = 8) (hown : s.vm.findClass RL = some m.cls) (hts : ∀ w ∈ wsL_law, w.before #[Value.ref sb] s = true) (hX : va_X sb L xs s s.heap) (hsb : sb < s.heap.size) (hst : l.stackTraces = false) (hL : L ≤ 2560) (hKX : KX D cI cJ cZ cG s.heap.size s.heap s) (hSim : SimOK Sim)
    {H : Heap} {locs : List Loc} {cells slots : Nat} {o b P m0 : Nat} {ad : Nat → ga} {st : Nat → Option GS} {f : Nat → Int64} {a : Nat → Nat} {x : MS} (i : Nat) (hi : i + 5 ≤ L) (hP : va_P D vwCl (GM cI cJ cZ cG o b P ad st f m0 a x) H) (hD : va_D (fun q => s.heap.size ≤ q) (GM cI cJ cZ cG o b P ad st f m0 a x)) (hS : va_S (fun q => s.heap.size ≤ q) s.heap H locs) (hsim : Sim st x) (hrm : cells + 4 ≤ 601024 ∧ slots + 35 ≤ 7293034) {ls : Array Slot} (hl : lv_has ls 8 [(0, .ref sb), (1, .ref b), (2, .ref m0), (3, .ref o), (4, .int (nI i))])
    (kk : ∀ (H : Heap) (locs : List Loc) (ad : Nat → ga) (st : Nat → Option GS) (f : Nat → Int64) (x : MS) (ls : Array Slot), va_P D vwCl (GM cI cJ cZ cG o b P ad st f m0 a x) H → va_D (fun q => s.heap.size ≤ q) (GM cI cJ cZ cG o b P ad st f m0 a x) → va_S (fun q => s.heap.size ≤ q) s.heap H locs → Sim st x → lv_has ls 8 [(0, .ref sb), (1, .ref b), (2, .ref m0), (3, .ref o), (4, .int (nI i))] → W p l e room_1 s m #[Value.ref sb] below meth c H locs (cells + 4) (slots + 35) Q (F0 m 1170 ls [])) : W p l e room_1 s m #[Value.ref sb] below meth c H locs cells slots Q (F0 m 1018 ls []) := by
  have hKW := hKX.1.1
  have hK := hKW.1
  refine lv_aload_n hx hb dL_law_1018 rfl (lv_at hl 1 rfl) ?_
  refine lv_aload_n hx hb dL_law_1019 rfl (lv_at hl 0 rfl) ?_
  refine lv_iload hx hb dL_law_1020 (lv_at hl 4 rfl) ?_
  refine lv_iconst (v := 1) hx hb dL_law_1022 (by decide) ?_
  refine lv_iadd hx hb dL_law_1023 ?_
  refine va_sld hx hb hX hsb (Nat.not_le.mpr hsb) hS (sx 1 hi hL (by decide)) dL_law_1024 ?_
  refine lv_aload_n hx hb dL_law_1025 rfl (lv_at hl 3 rfl) ?_
  have hP1 : va_P D vwCl (OW cI cJ cG o b P ad st f) H := wd_P.part hP (fun _ h => List.mem_append_left _ h)
  have hD1 : va_D (fun _ => True) (OW cI cJ cG o b P ad st f) := wd_D.left (hD.weaken (fun _ _ _ _ => trivial))
  refine wr_SW (A := (fun q => s.heap.size ≤ q)) (As := [.ref b, .int (xs ((nI i) + (1 : Int32)).toNatClampNeg), .ref o]) (rest := []) (Rw := MW cI cJ cZ m0 a x) ⟨hx, hb, hml, hown, hts⟩ (c_L_rank l hst s.heap.size H hS.1 D cI cJ cZ cG b P ad st o f (xs ((nI i) + (1 : Int32)).toNatClampNeg) (hSim.2.1 st x hsim) hP1 hD1) (KX_puK D cI cJ cZ cG s.heap.size H) (hKX.kept hS.2.1) (vx_cwSW 3 hts gL_law_L_rank rfl rfl rfl (by decide +kernel) ⟨Nat.le_of_ble_eq_true rfl, Nat.le_of_ble_eq_true rfl⟩) rfl hl.1 rfl (Nat.le_of_ble_eq_true rfl) dL_law_1026 ⟨hrm.1, hrm.2⟩ hP hD hS (fun q h => h) (fun w1 H locs hw hP hD hS => ?_)
  obtain ⟨ad2, f2, hw, hv⟩ := hw
  subst hw
  obtain ⟨kc, hkc⟩ : ∃ u, u = (ob_rank st (xs ((nI i) + (1 : Int32)).toNatClampNeg)).1 := ⟨_, rfl⟩
  obtain ⟨st2, hst2⟩ : ∃ u, u = (ob_rank st (xs ((nI i) + (1 : Int32)).toNatClampNeg)).2.1 := ⟨_, rfl⟩
  rw [← hst2] at hP hD
  rw [← hkc] at hv
  refine W.eq (g2 := F0 m 1029 ls [.int kc]) (by rw [hkc]; rfl) ?_
  refine lv_istore (lv' := [(5, .int kc), (0, .ref sb), (1, .ref b), (2, .ref m0), (3, .ref o), (4, .int (nI i))]) hx hb dL_law_1029 hl (by decide) rfl (fun ls hl => ?_)
  refine lv_aload_n hx hb dL_law_1031 rfl (lv_at hl 3 rfl) ?_
  refine lv_aload_n hx hb dL_law_1032 rfl (lv_at hl 1 rfl) ?_
  refine lv_iload hx hb dL_law_1033 (lv_at hl 5 rfl) ?_
  refine lv_iconst (v := 1) hx hb dL_law_1035 (by decide) ?_
  refine lv_iadd hx hb dL_law_1036 ?_
  refine va_sld hx hb hX hsb (Nat.not_le.mpr hsb) hS (sx 1 hi hL (by decide)) dL_law_1037 ?_
  have hP := wd_P.perm hP List.perm_append_comm
  have hD := wd_D.perm hD List.perm_append_comm
  have hPM : va_P D vwCl (MW cI cJ cZ m0 a x) H := wd_P.part hP (fun _ h => List.mem_append_left _ h)
  refine wr_V (A := (fun q => s.heap.size ≤ q)) (As := [.int (xs ((nI i) + (1 : Int32)).toNatClampNeg)]) (rest := []) (Rw := OW cI cJ cG o b P ad2 st2 f2) ⟨hx, hb, hml, hown, hts⟩ (c_X2_rank l H D cI cJ cZ cG m0 a x (xs ((nI i) + (1 : Int32)).toNatClampNeg) hPM (wd_D.left (hD.weaken (fun _ _ _ _ => trivial)))) (KW_puK D cI cJ cZ cG) hKW (cwV 1 hts gL_law_X2_rank rfl rfl rfl (by decide +kernel) ⟨Nat.le_of_ble_eq_true rfl, Nat.le_of_ble_eq_true rfl⟩) (va_recv hK hPM (ci := 2) (q0 := 0) rfl rfl) rfl hl.1 rfl (Nat.le_of_ble_eq_true rfl) dL_law_1038 ⟨by show _ ≤ 601024; omega, by show _ ≤ 7293034; omega⟩ hP hD hS (fun q h => h) (fun w1 H locs hw hP hD hS => ?_)
  subst hw
  obtain ⟨an, han⟩ : ∃ u, u = (F_X2_rank x (xs ((nI i) + (1 : Int32)).toNatClampNeg)).1 := ⟨_, rfl⟩
  obtain ⟨x2, hx2⟩ : ∃ u, u = (F_X2_rank x (xs ((nI i) + (1 : Int32)).toNatClampNeg)).2 := ⟨_, rfl⟩
  rw [← hx2] at hP hD
  have hP := wd_P.perm hP List.perm_append_comm
  have hD := wd_D.perm hD List.perm_append_comm
  have hsm := hSim.2.2.2.2.2.2.2.2.2.2.2.2.2.2.2.1 st x (xs ((nI i) + (1 : Int32)).toNatClampNeg) hsim
  rw [← hx2, ← hkc, ← hst2, ← han] at hsm
  have hthr : (mth x2) = kc := hsm.1
  refine W.eq (g2 := F0 m 1041 ls [.int an]) (by rw [han]; rfl) ?_
  refine lv_istore (lv' := [(6, .int an), (5, .int kc), (0, .ref sb), (1, .ref b), (2, .ref m0), (3, .ref o), (4, .int (nI i))]) hx hb dL_law_1041 hl (by decide) rfl (fun ls hl => ?_)
  refine lv_aload_n hx hb dL_law_1043 rfl (lv_at hl 4 rfl) ?_
  have hPM : va_P D vwCl (MW cI cJ cZ m0 a x2) H := wd_P.part hP (fun _ h => List.mem_append_right _ h)
  refine pu_V (As := []) (rest := []) ⟨hx, hb, hml, hown, hts⟩ (c_X2_thrown l H D cI cJ cZ cG m0 a x2 hPM) (KW_puK D cI cJ cZ cG) hKW (cwV 0 hts gL_law_X2_thrown rfl rfl rfl (by decide +kernel) ⟨Nat.le_of_ble_eq_true rfl, Nat.le_of_ble_eq_true rfl⟩) (va_recv hK hPM (ci := 2) (q0 := 0) rfl rfl) rfl hl.1 rfl (Nat.le_of_ble_eq_true rfl) dL_law_1044 ⟨by show _ ≤ 601024; omega, by show _ ≤ 7293034; omega⟩ ?_
  refine W.eq (g2 := F0 m 1047 ls [.int (mth x2)]) rfl ?_
  refine lv_iload hx hb dL_law_1047 (lv_at hl 1 rfl) ?_
  refine lv_icmp_eq (tgt := 1054) hx hb dL_law_1049 (by decide) (fun z_9 => ?_) (fun z_9 => absurd hthr z_9)
  refine lv_iload hx hb dL_law_1054 (lv_at hl 1 rfl) ?_
  refine lv_if_ne (tgt := 1071) hx hb dL_law_1056 (by decide) (fun c_1 => ?_) (fun c_1 => ?_)
  · refine lv_goto (tgt := 1170) hx hb dL_law_1071 (by decide) ?_
    exact kk H locs ad2 st2 f2 x2 ls hP hD hS hsm.2.2 (lv_sub hl [2, 3, 4, 5, 6] rfl)
  · refine lv_aload_n hx hb dL_law_1059 rfl (lv_at hl 5 rfl) ?_
    refine lv_iconst (v := 0) hx hb dL_law_1060 (by decide) ?_
    refine va_lald hx hb hK hP 0 1 rfl rfl (show vp_in (nI 0) 1 from vp_in_nI (by decide) (by decide)) dL_law_1061 ?_
    refine lv_iload hx hb dL_law_1062 (lv_at hl 0 rfl) ?_
    refine lv_i2l hx hb dL_law_1064 rfl ?_
    have hcq : (lg_cmp (f2 (0 : Int32).toNatClampNeg) an.toInt64) = 0 := (lg_cmp_eq _ _).mpr ((hv c_1).trans (hsm.2.1 c_1))
    refine W.lcmp hx hb dL_law_1065 ?_
    refine lv_if_eq (tgt := 1071) hx hb dL_law_1066 (by decide) (fun z_9 => ?_) (fun z_9 => absurd hcq z_9)
    refine lv_goto (tgt := 1170) hx hb dL_law_1071 (by decide) ?_
    exact kk H locs ad2 st2 f2 x2 ls hP hD hS hsm.2.2 (lv_sub hl [2, 3, 4, 5, 6] rfl)
set_option maxHeartbeats 4000000 in
set_option maxRecDepth 100000 in
theorem k_most {p : Program} {l : Launch} {e : Env} {s : State} {m : MethodId} {below : List Frame} {meth : Method} {c : Code} {Q : State → Prop} {sb L : Nat} {xs : Nat → Int32} {D : va_G} {cI cJ cZ cG : ClassId} {Sim : (Nat → Option GS) → MS → Prop}
    (hx : p.tables.exec = Jvm.exec) (hb : c.code = code) (hml : c.maxLocals = 8) (hown : s.vm.findClass RL = some m.cls) (hts : ∀ w ∈ wsL_law, w.before #[Value.ref sb] s = true) (hX : va_X sb L xs s s.heap) (hsb : sb < s.heap.size) (hst : l.stackTraces = false) (hL : L ≤ 2560) (hKX : KX D cI cJ cZ cG s.heap.size s.heap s) (hSim : SimOK Sim)
    {H : Heap} {locs : List Loc} {cells slots : Nat} {o b P m0 : Nat} {ad : Nat → ga} {st : Nat → Option GS} {f : Nat → Int64} {a : Nat → Nat} {x : MS} (i : Nat) (hi : i + 5 ≤ L) (hP : va_P D vwCl (GM cI cJ cZ cG o b P ad st f m0 a x) H) (hD : va_D (fun q => s.heap.size ≤ q) (GM cI cJ cZ cG o b P ad st f m0 a x)) (hS : va_S (fun q => s.heap.size ≤ q) s.heap H locs) (hsim : Sim st x) (hrm : cells + 4 ≤ 601024 ∧ slots + 35 ≤ 7293034) {ls : Array Slot} (hl : lv_has ls 8 [(0, .ref sb), (1, .ref b), (2, .ref m0), (3, .ref o), (4, .int (nI i))])
    (kk : ∀ (H : Heap) (locs : List Loc) (ad : Nat → ga) (st : Nat → Option GS) (f : Nat → Int64) (x : MS) (ls : Array Slot), va_P D vwCl (GM cI cJ cZ cG o b P ad st f m0 a x) H → va_D (fun q => s.heap.size ≤ q) (GM cI cJ cZ cG o b P ad st f m0 a x) → va_S (fun q => s.heap.size ≤ q) s.heap H locs → Sim st x → lv_has ls 8 [(0, .ref sb), (1, .ref b), (2, .ref m0), (3, .ref o), (4, .int (nI i))] → W p l e room_1 s m #[Value.ref sb] below meth c H locs (cells + 4) (slots + 35) Q (F0 m 1170 ls [])) : W p l e room_1 s m #[Value.ref sb] below meth c H locs cells slots Q (F0 m 1074 ls []) := by
  have hKW := hKX.1.1
  have hK := hKW.1
  refine lv_aload_n hx hb dL_law_1074 rfl (lv_at hl 1 rfl) ?_
  refine lv_aload_n hx hb dL_law_1075 rfl (lv_at hl 0 rfl) ?_
  refine lv_iload hx hb dL_law_1076 (lv_at hl 4 rfl) ?_
  refine lv_iconst (v := 1) hx hb dL_law_1078 (by decide) ?_
  refine lv_iadd hx hb dL_law_1079 ?_
  refine va_sld hx hb hX hsb (Nat.not_le.mpr hsb) hS (sx 1 hi hL (by decide)) dL_law_1080 ?_
  refine lv_aload_n hx hb dL_law_1081 rfl (lv_at hl 0 rfl) ?_
  refine lv_iload hx hb dL_law_1082 (lv_at hl 4 rfl) ?_
  refine lv_iconst (v := 2) hx hb dL_law_1084 (by decide) ?_
  refine lv_iadd hx hb dL_law_1085 ?_
  refine va_sld hx hb hX hsb (Nat.not_le.mpr hsb) hS (sx 2 hi hL (by decide)) dL_law_1086 ?_
  refine lv_if_eq (tgt := 1094) hx hb dL_law_1087 (by decide) (fun c_1 => ?_) (fun c_1 => ?_)
  · refine lv_iconst (v := 0) hx hb dL_law_1094 (by decide) ?_
    refine lv_aload_n hx hb dL_law_1095 rfl (lv_at hl 3 rfl) ?_
    have hP1 : va_P D vwCl (OW cI cJ cG o b P ad st f) H := wd_P.part hP (fun _ h => List.mem_append_left _ h)
    have hD1 : va_D (fun _ => True) (OW cI cJ cG o b P ad st f) := wd_D.left (hD.weaken (fun _ _ _ _ => trivial))
    refine wr_SW (A := (fun q => s.heap.size ≤ q)) (As := [.ref b, .int (xs ((nI i) + (1 : Int32)).toNatClampNeg), .int (0 : Int32), .ref o]) (rest := []) (Rw := MW cI cJ cZ m0 a x) ⟨hx, hb, hml, hown, hts⟩ (c_L_most l hst s.heap.size H hS.1 D cI cJ cZ cG b P ad st o f (xs ((nI i) + (1 : Int32)).toNatClampNeg) (0 : Int32) (hSim.2.1 st x hsim) hP1 hD1) (KX_puK D cI cJ cZ cG s.heap.size H) (hKX.kept hS.2.1) (vx_cwSW 4 hts gL_law_L_most rfl rfl rfl (by decide +kernel) ⟨Nat.le_of_ble_eq_true rfl, Nat.le_of_ble_eq_true rfl⟩) rfl hl.1 rfl (Nat.le_of_ble_eq_true rfl) dL_law_1096 ⟨hrm.1, hrm.2⟩ hP hD hS (fun q h => h) (fun w1 H locs hw hP hD hS => ?_)
    obtain ⟨ad2, f2, hw, hv⟩ := hw
    subst hw
    obtain ⟨kc, hkc⟩ : ∃ u, u = (ob_most st (xs ((nI i) + (1 : Int32)).toNatClampNeg) (0 : Int32)).1 := ⟨_, rfl⟩
    obtain ⟨st2, hst2⟩ : ∃ u, u = (ob_most st (xs ((nI i) + (1 : Int32)).toNatClampNeg) (0 : Int32)).2.1 := ⟨_, rfl⟩
    rw [← hst2] at hP hD
    rw [← hkc] at hv
    refine W.eq (g2 := F0 m 1099 ls [.int kc]) (by rw [hkc]; rfl) ?_
    refine lv_istore (lv' := [(5, .int kc), (0, .ref sb), (1, .ref b), (2, .ref m0), (3, .ref o), (4, .int (nI i))]) hx hb dL_law_1099 hl (by decide) rfl (fun ls hl => ?_)
    refine lv_aload_n hx hb dL_law_1101 rfl (lv_at hl 3 rfl) ?_
    refine lv_aload_n hx hb dL_law_1102 rfl (lv_at hl 1 rfl) ?_
    refine lv_iload hx hb dL_law_1103 (lv_at hl 5 rfl) ?_
    refine lv_iconst (v := 1) hx hb dL_law_1105 (by decide) ?_
    refine lv_iadd hx hb dL_law_1106 ?_
    refine va_sld hx hb hX hsb (Nat.not_le.mpr hsb) hS (sx 1 hi hL (by decide)) dL_law_1107 ?_
    refine lv_aload_n hx hb dL_law_1108 rfl (lv_at hl 1 rfl) ?_
    refine lv_iload hx hb dL_law_1109 (lv_at hl 5 rfl) ?_
    refine lv_iconst (v := 2) hx hb dL_law_1111 (by decide) ?_
    refine lv_iadd hx hb dL_law_1112 ?_
    refine va_sld hx hb hX hsb (Nat.not_le.mpr hsb) hS (sx 2 hi hL (by decide)) dL_law_1113 ?_
    refine lv_if_eq (tgt := 1121) hx hb dL_law_1114 (by decide) (fun z_9 => ?_) (fun z_9 => absurd c_1 z_9)
    refine lv_iconst (v := 0) hx hb dL_law_1121 (by decide) ?_
    have hP := wd_P.perm hP List.perm_append_comm
    have hD := wd_D.perm hD List.perm_append_comm
    have hPM : va_P D vwCl (MW cI cJ cZ m0 a x) H := wd_P.part hP (fun _ h => List.mem_append_left _ h)
    refine wr_V (A := (fun q => s.heap.size ≤ q)) (As := [.int (xs ((nI i) + (1 : Int32)).toNatClampNeg), .int (0 : Int32)]) (rest := []) (Rw := OW cI cJ cG o b P ad2 st2 f2) ⟨hx, hb, hml, hown, hts⟩ (c_X2_most l H D cI cJ cZ cG m0 a x (xs ((nI i) + (1 : Int32)).toNatClampNeg) (0 : Int32) hPM (wd_D.left (hD.weaken (fun _ _ _ _ => trivial)))) (KW_puK D cI cJ cZ cG) hKW (cwV 2 hts gL_law_X2_most rfl rfl rfl (by decide +kernel) ⟨Nat.le_of_ble_eq_true rfl, Nat.le_of_ble_eq_true rfl⟩) (va_recv hK hPM (ci := 2) (q0 := 0) rfl rfl) rfl hl.1 rfl (Nat.le_of_ble_eq_true rfl) dL_law_1122 ⟨by show _ ≤ 601024; omega, by show _ ≤ 7293034; omega⟩ hP hD hS (fun q h => h) (fun w1 H locs hw hP hD hS => ?_)
    subst hw
    obtain ⟨an, han⟩ : ∃ u, u = (F_X2_most x (xs ((nI i) + (1 : Int32)).toNatClampNeg) (0 : Int32)).1 := ⟨_, rfl⟩
    obtain ⟨x2, hx2⟩ : ∃ u, u = (F_X2_most x (xs ((nI i) + (1 : Int32)).toNatClampNeg) (0 : Int32)).2 := ⟨_, rfl⟩
    rw [← hx2] at hP hD
    have hP := wd_P.perm hP List.perm_append_comm
    have hD := wd_D.perm hD List.perm_append_comm
    have hsm := hSim.2.2.2.2.2.2.2.2.2.2.2.2.2.2.2.2.1 st x (xs ((nI i) + (1 : Int32)).toNatClampNeg) (0 : Int32) hsim (Or.inl rfl)
    rw [← hx2, ← hkc, ← hst2, ← han] at hsm
    have hthr : (mth x2) = kc := hsm.1
    refine W.eq (g2 := F0 m 1125 ls [.long an]) (by rw [han]; rfl) ?_
    refine lv_lstore (lv' := [(6, .long an), (5, .int kc), (0, .ref sb), (1, .ref b), (2, .ref m0), (3, .ref o), (4, .int (nI i))]) hx hb dL_law_1125 hl (by decide) rfl (fun ls hl => ?_)
    refine lv_aload_n hx hb dL_law_1127 rfl (lv_at hl 4 rfl) ?_
    have hPM : va_P D vwCl (MW cI cJ cZ m0 a x2) H := wd_P.part hP (fun _ h => List.mem_append_right _ h)
    refine pu_V (As := []) (rest := []) ⟨hx, hb, hml, hown, hts⟩ (c_X2_thrown l H D cI cJ cZ cG m0 a x2 hPM) (KW_puK D cI cJ cZ cG) hKW (cwV 0 hts gL_law_X2_thrown rfl rfl rfl (by decide +kernel) ⟨Nat.le_of_ble_eq_true rfl, Nat.le_of_ble_eq_true rfl⟩) (va_recv hK hPM (ci := 2) (q0 := 0) rfl rfl) rfl hl.1 rfl (Nat.le_of_ble_eq_true rfl) dL_law_1128 ⟨by show _ ≤ 601024; omega, by show _ ≤ 7293034; omega⟩ ?_
    refine W.eq (g2 := F0 m 1131 ls [.int (mth x2)]) rfl ?_
    refine lv_iload hx hb dL_law_1131 (lv_at hl 1 rfl) ?_
    refine lv_icmp_eq (tgt := 1138) hx hb dL_law_1133 (by decide) (fun z_9 => ?_) (fun z_9 => absurd hthr z_9)
    refine lv_iload hx hb dL_law_1138 (lv_at hl 1 rfl) ?_
    refine lv_if_ne (tgt := 1154) hx hb dL_law_1140 (by decide) (fun c_2 => ?_) (fun c_2 => ?_)
    · refine lv_goto (tgt := 1170) hx hb dL_law_1154 (by decide) ?_
      exact kk H locs ad2 st2 f2 x2 ls hP hD hS hsm.2.2 (lv_sub hl [2, 3, 4, 5, 6] rfl)
    · refine lv_aload_n hx hb dL_law_1143 rfl (lv_at hl 5 rfl) ?_
      refine lv_iconst (v := 0) hx hb dL_law_1144 (by decide) ?_
      refine va_lald hx hb hK hP 0 1 rfl rfl (show vp_in (nI 0) 1 from vp_in_nI (by decide) (by decide)) dL_law_1145 ?_
      refine lv_lload hx hb dL_law_1146 (lv_at hl 0 rfl) ?_
      have hcq : (lg_cmp (f2 (0 : Int32).toNatClampNeg) an) = 0 := (lg_cmp_eq _ _).mpr ((hv c_2).trans (hsm.2.1 c_2))
      refine W.lcmp hx hb dL_law_1148 ?_
      refine lv_if_eq (tgt := 1154) hx hb dL_law_1149 (by decide) (fun z_9 => ?_) (fun z_9 => absurd hcq z_9)
      refine lv_goto (tgt := 1170) hx hb dL_law_1154 (by decide) ?_
      exact kk H locs ad2 st2 f2 x2 ls hP hD hS hsm.2.2 (lv_sub hl [2, 3, 4, 5, 6] rfl)
  · refine lv_iconst (v := 1) hx hb dL_law_1090 (by decide) ?_
    refine lv_goto (tgt := 1095) hx hb dL_law_1091 (by decide) ?_
    refine lv_aload_n hx hb dL_law_1095 rfl (lv_at hl 3 rfl) ?_
    have hP1 : va_P D vwCl (OW cI cJ cG o b P ad st f) H := wd_P.part hP (fun _ h => List.mem_append_left _ h)
    have hD1 : va_D (fun _ => True) (OW cI cJ cG o b P ad st f) := wd_D.left (hD.weaken (fun _ _ _ _ => trivial))
    refine wr_SW (A := (fun q => s.heap.size ≤ q)) (As := [.ref b, .int (xs ((nI i) + (1 : Int32)).toNatClampNeg), .int (1 : Int32), .ref o]) (rest := []) (Rw := MW cI cJ cZ m0 a x) ⟨hx, hb, hml, hown, hts⟩ (c_L_most l hst s.heap.size H hS.1 D cI cJ cZ cG b P ad st o f (xs ((nI i) + (1 : Int32)).toNatClampNeg) (1 : Int32) (hSim.2.1 st x hsim) hP1 hD1) (KX_puK D cI cJ cZ cG s.heap.size H) (hKX.kept hS.2.1) (vx_cwSW 4 hts gL_law_L_most rfl rfl rfl (by decide +kernel) ⟨Nat.le_of_ble_eq_true rfl, Nat.le_of_ble_eq_true rfl⟩) rfl hl.1 rfl (Nat.le_of_ble_eq_true rfl) dL_law_1096 ⟨hrm.1, hrm.2⟩ hP hD hS (fun q h => h) (fun w1 H locs hw hP hD hS => ?_)
    obtain ⟨ad2, f2, hw, hv⟩ := hw
    subst hw
    obtain ⟨kc, hkc⟩ : ∃ u, u = (ob_most st (xs ((nI i) + (1 : Int32)).toNatClampNeg) (1 : Int32)).1 := ⟨_, rfl⟩
    obtain ⟨st2, hst2⟩ : ∃ u, u = (ob_most st (xs ((nI i) + (1 : Int32)).toNatClampNeg) (1 : Int32)).2.1 := ⟨_, rfl⟩
    rw [← hst2] at hP hD
    rw [← hkc] at hv
    refine W.eq (g2 := F0 m 1099 ls [.int kc]) (by rw [hkc]; rfl) ?_
    refine lv_istore (lv' := [(5, .int kc), (0, .ref sb), (1, .ref b), (2, .ref m0), (3, .ref o), (4, .int (nI i))]) hx hb dL_law_1099 hl (by decide) rfl (fun ls hl => ?_)
    refine lv_aload_n hx hb dL_law_1101 rfl (lv_at hl 3 rfl) ?_
    refine lv_aload_n hx hb dL_law_1102 rfl (lv_at hl 1 rfl) ?_
    refine lv_iload hx hb dL_law_1103 (lv_at hl 5 rfl) ?_
    refine lv_iconst (v := 1) hx hb dL_law_1105 (by decide) ?_
    refine lv_iadd hx hb dL_law_1106 ?_
    refine va_sld hx hb hX hsb (Nat.not_le.mpr hsb) hS (sx 1 hi hL (by decide)) dL_law_1107 ?_
    refine lv_aload_n hx hb dL_law_1108 rfl (lv_at hl 1 rfl) ?_
    refine lv_iload hx hb dL_law_1109 (lv_at hl 5 rfl) ?_
    refine lv_iconst (v := 2) hx hb dL_law_1111 (by decide) ?_
    refine lv_iadd hx hb dL_law_1112 ?_
    refine va_sld hx hb hX hsb (Nat.not_le.mpr hsb) hS (sx 2 hi hL (by decide)) dL_law_1113 ?_
    refine lv_if_eq (tgt := 1121) hx hb dL_law_1114 (by decide) (fun z_9 => absurd z_9 c_1) (fun z_9 => ?_)
    refine lv_iconst (v := 1) hx hb dL_law_1117 (by decide) ?_
    refine lv_goto (tgt := 1122) hx hb dL_law_1118 (by decide) ?_
    have hP := wd_P.perm hP List.perm_append_comm
    have hD := wd_D.perm hD List.perm_append_comm
    have hPM : va_P D vwCl (MW cI cJ cZ m0 a x) H := wd_P.part hP (fun _ h => List.mem_append_left _ h)
    refine wr_V (A := (fun q => s.heap.size ≤ q)) (As := [.int (xs ((nI i) + (1 : Int32)).toNatClampNeg), .int (1 : Int32)]) (rest := []) (Rw := OW cI cJ cG o b P ad2 st2 f2) ⟨hx, hb, hml, hown, hts⟩ (c_X2_most l H D cI cJ cZ cG m0 a x (xs ((nI i) + (1 : Int32)).toNatClampNeg) (1 : Int32) hPM (wd_D.left (hD.weaken (fun _ _ _ _ => trivial)))) (KW_puK D cI cJ cZ cG) hKW (cwV 2 hts gL_law_X2_most rfl rfl rfl (by decide +kernel) ⟨Nat.le_of_ble_eq_true rfl, Nat.le_of_ble_eq_true rfl⟩) (va_recv hK hPM (ci := 2) (q0 := 0) rfl rfl) rfl hl.1 rfl (Nat.le_of_ble_eq_true rfl) dL_law_1122 ⟨by show _ ≤ 601024; omega, by show _ ≤ 7293034; omega⟩ hP hD hS (fun q h => h) (fun w1 H locs hw hP hD hS => ?_)
    subst hw
    obtain ⟨an, han⟩ : ∃ u, u = (F_X2_most x (xs ((nI i) + (1 : Int32)).toNatClampNeg) (1 : Int32)).1 := ⟨_, rfl⟩
    obtain ⟨x2, hx2⟩ : ∃ u, u = (F_X2_most x (xs ((nI i) + (1 : Int32)).toNatClampNeg) (1 : Int32)).2 := ⟨_, rfl⟩
    rw [← hx2] at hP hD
    have hP := wd_P.perm hP List.perm_append_comm
    have hD := wd_D.perm hD List.perm_append_comm
    have hsm := hSim.2.2.2.2.2.2.2.2.2.2.2.2.2.2.2.2.1 st x (xs ((nI i) + (1 : Int32)).toNatClampNeg) (1 : Int32) hsim (Or.inr rfl)
    rw [← hx2, ← hkc, ← hst2, ← han] at hsm
    have hthr : (mth x2) = kc := hsm.1
    refine W.eq (g2 := F0 m 1125 ls [.long an]) (by rw [han]; rfl) ?_
    refine lv_lstore (lv' := [(6, .long an), (5, .int kc), (0, .ref sb), (1, .ref b), (2, .ref m0), (3, .ref o), (4, .int (nI i))]) hx hb dL_law_1125 hl (by decide) rfl (fun ls hl => ?_)
    refine lv_aload_n hx hb dL_law_1127 rfl (lv_at hl 4 rfl) ?_
    have hPM : va_P D vwCl (MW cI cJ cZ m0 a x2) H := wd_P.part hP (fun _ h => List.mem_append_right _ h)
    refine pu_V (As := []) (rest := []) ⟨hx, hb, hml, hown, hts⟩ (c_X2_thrown l H D cI cJ cZ cG m0 a x2 hPM) (KW_puK D cI cJ cZ cG) hKW (cwV 0 hts gL_law_X2_thrown rfl rfl rfl (by decide +kernel) ⟨Nat.le_of_ble_eq_true rfl, Nat.le_of_ble_eq_true rfl⟩) (va_recv hK hPM (ci := 2) (q0 := 0) rfl rfl) rfl hl.1 rfl (Nat.le_of_ble_eq_true rfl) dL_law_1128 ⟨by show _ ≤ 601024; omega, by show _ ≤ 7293034; omega⟩ ?_
    refine W.eq (g2 := F0 m 1131 ls [.int (mth x2)]) rfl ?_
    refine lv_iload hx hb dL_law_1131 (lv_at hl 1 rfl) ?_
    refine lv_icmp_eq (tgt := 1138) hx hb dL_law_1133 (by decide) (fun z_9 => ?_) (fun z_9 => absurd hthr z_9)
    refine lv_iload hx hb dL_law_1138 (lv_at hl 1 rfl) ?_
    refine lv_if_ne (tgt := 1154) hx hb dL_law_1140 (by decide) (fun c_3 => ?_) (fun c_3 => ?_)
    · refine lv_goto (tgt := 1170) hx hb dL_law_1154 (by decide) ?_
      exact kk H locs ad2 st2 f2 x2 ls hP hD hS hsm.2.2 (lv_sub hl [2, 3, 4, 5, 6] rfl)
    · refine lv_aload_n hx hb dL_law_1143 rfl (lv_at hl 5 rfl) ?_
      refine lv_iconst (v := 0) hx hb dL_law_1144 (by decide) ?_
      refine va_lald hx hb hK hP 0 1 rfl rfl (show vp_in (nI 0) 1 from vp_in_nI (by decide) (by decide)) dL_law_1145 ?_
      refine lv_lload hx hb dL_law_1146 (lv_at hl 0 rfl) ?_
      have hcq : (lg_cmp (f2 (0 : Int32).toNatClampNeg) an) = 0 := (lg_cmp_eq _ _).mpr ((hv c_3).trans (hsm.2.1 c_3))
      refine W.lcmp hx hb dL_law_1148 ?_
      refine lv_if_eq (tgt := 1154) hx hb dL_law_1149 (by decide) (fun z_9 => ?_) (fun z_9 => absurd hcq z_9)
      refine lv_goto (tgt := 1170) hx hb dL_law_1154 (by decide) ?_
      exact kk H locs ad2 st2 f2 x2 ls hP hD hS hsm.2.2 (lv_sub hl [2, 3, 4, 5, 6] rfl)
