set_option maxHeartbeats 4000000 in
set_option maxRecDepth 100000 in
theorem k_fit {p : Program} {l : Launch} {e : Env} {s : State} {m : MethodId} {below : List Frame} {meth : Method} {c : Code} {Q : State → Prop} {sb L : Nat} {xs : Nat → Int32} {D : va_G} {cI cJ cZ cG : ClassId} {Sim : (Nat → Option GS) → MS → Prop}
    (hx : p.tables.exec = Jvm.exec) (hb : c.code = code) (hml : c.maxLocals = 8) (hown : s.vm.findClass RL = some m.cls) (hts : ∀ w ∈ wsL_law, w.before #[Value.ref sb] s = true) (hX : va_X sb L xs s s.heap) (hsb : sb < s.heap.size) (hst : l.stackTraces = false) (hL : L ≤ 2560) (hKX : KX D cI cJ cZ cG s.heap.size s.heap s) (hSim : SimOK Sim)
    {H : Heap} {locs : List Loc} {cells slots : Nat} {o b P m0 : Nat} {ad : Nat → ga} {st : Nat → Option GS} {f : Nat → Int64} {a : Nat → Nat} {x : MS} (i : Nat) (hi : i + 5 ≤ L) (hP : va_P D vwCl (GM cI cJ cZ cG o b P ad st f m0 a x) H) (hD : va_D (fun q => s.heap.size ≤ q) (GM cI cJ cZ cG o b P ad st f m0 a x)) (hS : va_S (fun q => s.heap.size ≤ q) s.heap H locs) (hsim : Sim st x) (hrm : cells + 4 ≤ 601024 ∧ slots + 35 ≤ 7293034) {ls : Array Slot} (hl : lv_has ls 8 [(0, .ref sb), (1, .ref b), (2, .ref m0), (3, .ref o), (4, .int (nI i))])
    (kk : ∀ (H : Heap) (locs : List Loc) (ad : Nat → ga) (st : Nat → Option GS) (f : Nat → Int64) (x : MS) (ls : Array Slot), va_P D vwCl (GM cI cJ cZ cG o b P ad st f m0 a x) H → va_D (fun q => s.heap.size ≤ q) (GM cI cJ cZ cG o b P ad st f m0 a x) → va_S (fun q => s.heap.size ≤ q) s.heap H locs → Sim st x → lv_has ls 8 [(0, .ref sb), (1, .ref b), (2, .ref m0), (3, .ref o), (4, .int (nI i))] → W p l e room_1 s m #[Value.ref sb] below meth c H locs (cells + 4) (slots + 35) Q (F0 m 1170 ls [])) : W p l e room_1 s m #[Value.ref sb] below meth c H locs cells slots Q (F0 m 112 ls []) := by
  have hKW := hKX.1.1
  have hK := hKW.1
  refine lv_aload_n hx hb dL_law_112 rfl (lv_at hl 1 rfl) ?_
  refine lv_aload_n hx hb dL_law_113 rfl (lv_at hl 0 rfl) ?_
  refine lv_iload hx hb dL_law_114 (lv_at hl 4 rfl) ?_
  refine lv_iconst (v := 1) hx hb dL_law_116 (by decide) ?_
  refine lv_iadd hx hb dL_law_117 ?_
  refine va_sld hx hb hX hsb (Nat.not_le.mpr hsb) hS (sx 1 hi hL (by decide)) dL_law_118 ?_
  refine lv_aload_n hx hb dL_law_119 rfl (lv_at hl 0 rfl) ?_
  refine lv_iload hx hb dL_law_120 (lv_at hl 4 rfl) ?_
  refine lv_iconst (v := 2) hx hb dL_law_122 (by decide) ?_
  refine lv_iadd hx hb dL_law_123 ?_
  refine va_sld hx hb hX hsb (Nat.not_le.mpr hsb) hS (sx 2 hi hL (by decide)) dL_law_124 ?_
  refine lv_aload_n hx hb dL_law_125 rfl (lv_at hl 3 rfl) ?_
  have hP1 : va_P D vwCl (OW cI cJ cG o b P ad st f) H := wd_P.part hP (fun _ h => List.mem_append_left _ h)
  have hD1 : va_D (fun _ => True) (OW cI cJ cG o b P ad st f) := wd_D.left (hD.weaken (fun _ _ _ _ => trivial))
  refine wr_SW (A := (fun q => s.heap.size ≤ q)) (As := [.ref b, .int (xs ((nI i) + (1 : Int32)).toNatClampNeg), .int (xs ((nI i) + (2 : Int32)).toNatClampNeg), .ref o]) (rest := []) (Rw := MW cI cJ cZ m0 a x) ⟨hx, hb, hml, hown, hts⟩ (c_L_fit l hst s.heap.size H hS.1 D cI cJ cZ cG b P ad st o f (xs ((nI i) + (1 : Int32)).toNatClampNeg) (xs ((nI i) + (2 : Int32)).toNatClampNeg) (hSim.2.1 st x hsim) hP1 hD1) (KX_puK D cI cJ cZ cG s.heap.size H) (hKX.kept hS.2.1) (vx_cwSW 4 hts gL_law_L_fit rfl rfl rfl (by decide +kernel) ⟨Nat.le_of_ble_eq_true rfl, Nat.le_of_ble_eq_true rfl⟩) rfl hl.1 rfl (Nat.le_of_ble_eq_true rfl) dL_law_126 ⟨hrm.1, hrm.2⟩ hP hD hS (fun q h => h) (fun w1 H locs hw hP hD hS => ?_)
  obtain ⟨ad2, f2, hw, hv⟩ := hw
  subst hw
  obtain ⟨kc, hkc⟩ : ∃ u, u = (ob_fit st (xs ((nI i) + (1 : Int32)).toNatClampNeg) (xs ((nI i) + (2 : Int32)).toNatClampNeg)).1 := ⟨_, rfl⟩
  obtain ⟨st2, hst2⟩ : ∃ u, u = (ob_fit st (xs ((nI i) + (1 : Int32)).toNatClampNeg) (xs ((nI i) + (2 : Int32)).toNatClampNeg)).2.1 := ⟨_, rfl⟩
  rw [← hst2] at hP hD
  rw [← hkc] at hv
  refine W.eq (g2 := F0 m 129 ls [.int kc]) (by rw [hkc]; rfl) ?_
  refine lv_istore (lv' := [(5, .int kc), (0, .ref sb), (1, .ref b), (2, .ref m0), (3, .ref o), (4, .int (nI i))]) hx hb dL_law_129 hl (by decide) rfl (fun ls hl => ?_)
  refine lv_aload_n hx hb dL_law_131 rfl (lv_at hl 3 rfl) ?_
  refine lv_aload_n hx hb dL_law_132 rfl (lv_at hl 1 rfl) ?_
  refine lv_iload hx hb dL_law_133 (lv_at hl 5 rfl) ?_
  refine lv_iconst (v := 1) hx hb dL_law_135 (by decide) ?_
  refine lv_iadd hx hb dL_law_136 ?_
  refine va_sld hx hb hX hsb (Nat.not_le.mpr hsb) hS (sx 1 hi hL (by decide)) dL_law_137 ?_
  refine lv_aload_n hx hb dL_law_138 rfl (lv_at hl 1 rfl) ?_
  refine lv_iload hx hb dL_law_139 (lv_at hl 5 rfl) ?_
  refine lv_iconst (v := 2) hx hb dL_law_141 (by decide) ?_
  refine lv_iadd hx hb dL_law_142 ?_
  refine va_sld hx hb hX hsb (Nat.not_le.mpr hsb) hS (sx 2 hi hL (by decide)) dL_law_143 ?_
  have hP := wd_P.perm hP List.perm_append_comm
  have hD := wd_D.perm hD List.perm_append_comm
  have hPM : va_P D vwCl (MW cI cJ cZ m0 a x) H := wd_P.part hP (fun _ h => List.mem_append_left _ h)
  refine wr_V (A := (fun q => s.heap.size ≤ q)) (As := [.int (xs ((nI i) + (1 : Int32)).toNatClampNeg), .int (xs ((nI i) + (2 : Int32)).toNatClampNeg)]) (rest := []) (Rw := OW cI cJ cG o b P ad2 st2 f2) ⟨hx, hb, hml, hown, hts⟩ (c_X2_fit l H D cI cJ cZ cG m0 a x (xs ((nI i) + (1 : Int32)).toNatClampNeg) (xs ((nI i) + (2 : Int32)).toNatClampNeg) (hSim.2.2.1 st x hsim) hPM (wd_D.left (hD.weaken (fun _ _ _ _ => trivial)))) (KW_puK D cI cJ cZ cG) hKW (cwV 2 hts gL_law_X2_fit rfl rfl rfl (by decide +kernel) ⟨Nat.le_of_ble_eq_true rfl, Nat.le_of_ble_eq_true rfl⟩) (va_recv hK hPM (ci := 2) (q0 := 0) rfl rfl) rfl hl.1 rfl (Nat.le_of_ble_eq_true rfl) dL_law_144 ⟨by show _ ≤ 601024; omega, by show _ ≤ 7293034; omega⟩ hP hD hS (fun q h => h) (fun w1 H locs hw hP hD hS => ?_)
  subst hw
  obtain ⟨an, han⟩ : ∃ u, u = (F_X2_fit x (xs ((nI i) + (1 : Int32)).toNatClampNeg) (xs ((nI i) + (2 : Int32)).toNatClampNeg)).1 := ⟨_, rfl⟩
  obtain ⟨x2, hx2⟩ : ∃ u, u = (F_X2_fit x (xs ((nI i) + (1 : Int32)).toNatClampNeg) (xs ((nI i) + (2 : Int32)).toNatClampNeg)).2 := ⟨_, rfl⟩
  rw [← hx2] at hP hD
  have hP := wd_P.perm hP List.perm_append_comm
  have hD := wd_D.perm hD List.perm_append_comm
  have hsm := hSim.2.2.2.1 st x (xs ((nI i) + (1 : Int32)).toNatClampNeg) (xs ((nI i) + (2 : Int32)).toNatClampNeg) hsim
  rw [← hx2, ← hkc, ← hst2, ← han] at hsm
  have hthr : (mth x2) = kc := hsm.1
  refine W.eq (g2 := F0 m 147 ls [.int an]) (by rw [han]; rfl) ?_
  refine lv_istore (lv' := [(6, .int an), (5, .int kc), (0, .ref sb), (1, .ref b), (2, .ref m0), (3, .ref o), (4, .int (nI i))]) hx hb dL_law_147 hl (by decide) rfl (fun ls hl => ?_)
  refine lv_aload_n hx hb dL_law_149 rfl (lv_at hl 4 rfl) ?_
  have hPM : va_P D vwCl (MW cI cJ cZ m0 a x2) H := wd_P.part hP (fun _ h => List.mem_append_right _ h)
  refine pu_V (As := []) (rest := []) ⟨hx, hb, hml, hown, hts⟩ (c_X2_thrown l H D cI cJ cZ cG m0 a x2 hPM) (KW_puK D cI cJ cZ cG) hKW (cwV 0 hts gL_law_X2_thrown rfl rfl rfl (by decide +kernel) ⟨Nat.le_of_ble_eq_true rfl, Nat.le_of_ble_eq_true rfl⟩) (va_recv hK hPM (ci := 2) (q0 := 0) rfl rfl) rfl hl.1 rfl (Nat.le_of_ble_eq_true rfl) dL_law_150 ⟨by show _ ≤ 601024; omega, by show _ ≤ 7293034; omega⟩ ?_
  refine W.eq (g2 := F0 m 153 ls [.int (mth x2)]) rfl ?_
  refine lv_iload hx hb dL_law_153 (lv_at hl 1 rfl) ?_
  refine lv_icmp_eq (tgt := 160) hx hb dL_law_155 (by decide) (fun z_9 => ?_) (fun z_9 => absurd hthr z_9)
  refine lv_iload hx hb dL_law_160 (lv_at hl 1 rfl) ?_
  refine lv_if_ne (tgt := 184) hx hb dL_law_162 (by decide) (fun c_1 => ?_) (fun c_1 => ?_)
  · refine lv_goto (tgt := 1170) hx hb dL_law_184 (by decide) ?_
    exact kk H locs ad2 st2 f2 x2 ls hP hD hS hsm.2.2 (lv_sub hl [2, 3, 4, 5, 6] rfl)
  · refine lv_aload_n hx hb dL_law_165 rfl (lv_at hl 5 rfl) ?_
    refine lv_iconst (v := 0) hx hb dL_law_166 (by decide) ?_
    refine va_lald hx hb hK hP 0 1 rfl rfl (show vp_in (nI 0) 1 from vp_in_nI (by decide) (by decide)) dL_law_167 ?_
    refine lv_iload hx hb dL_law_168 (lv_at hl 0 rfl) ?_
    refine lv_if_eq (tgt := 177) hx hb dL_law_170 (by decide) (fun c_2 => ?_) (fun c_2 => ?_)
    · refine lv_lconst (v := 0) hx hb dL_law_177 (by decide) ?_
      have hcq : (lg_cmp (f2 (0 : Int32).toNatClampNeg) (0 : Int64)) = 0 := (lg_cmp_eq _ _).mpr (((hv c_1).trans (hsm.2.1 c_1)).trans (by rw [if_pos c_2]))
      refine W.lcmp hx hb dL_law_178 ?_
      refine lv_if_eq (tgt := 184) hx hb dL_law_179 (by decide) (fun z_9 => ?_) (fun z_9 => absurd hcq z_9)
      refine lv_goto (tgt := 1170) hx hb dL_law_184 (by decide) ?_
      exact kk H locs ad2 st2 f2 x2 ls hP hD hS hsm.2.2 (lv_sub hl [2, 3, 4, 5, 6] rfl)
    · refine lv_lconst (v := 1) hx hb dL_law_173 (by decide) ?_
      refine lv_goto (tgt := 178) hx hb dL_law_174 (by decide) ?_
      have hcq : (lg_cmp (f2 (0 : Int32).toNatClampNeg) (1 : Int64)) = 0 := (lg_cmp_eq _ _).mpr (((hv c_1).trans (hsm.2.1 c_1)).trans (by rw [if_neg c_2]))
      refine W.lcmp hx hb dL_law_178 ?_
      refine lv_if_eq (tgt := 184) hx hb dL_law_179 (by decide) (fun z_9 => ?_) (fun z_9 => absurd hcq z_9)
      refine lv_goto (tgt := 1170) hx hb dL_law_184 (by decide) ?_
      exact kk H locs ad2 st2 f2 x2 ls hP hD hS hsm.2.2 (lv_sub hl [2, 3, 4, 5, 6] rfl)
set_option maxHeartbeats 4000000 in
set_option maxRecDepth 100000 in
theorem k_step {p : Program} {l : Launch} {e : Env} {s : State} {m : MethodId} {below : List Frame} {meth : Method} {c : Code} {Q : State → Prop} {sb L : Nat} {xs : Nat → Int32} {D : va_G} {cI cJ cZ cG : ClassId} {Sim : (Nat → Option GS) → MS → Prop}
    (hx : p.tables.exec = Jvm.exec) (hb : c.code = code) (hml : c.maxLocals = 8) (hown : s.vm.findClass RL = some m.cls) (hts : ∀ w ∈ wsL_law, w.before #[Value.ref sb] s = true) (hX : va_X sb L xs s s.heap) (hsb : sb < s.heap.size) (hst : l.stackTraces = false) (hL : L ≤ 2560) (hKX : KX D cI cJ cZ cG s.heap.size s.heap s) (hSim : SimOK Sim)
    {H : Heap} {locs : List Loc} {cells slots : Nat} {o b P m0 : Nat} {ad : Nat → ga} {st : Nat → Option GS} {f : Nat → Int64} {a : Nat → Nat} {x : MS} (i : Nat) (hi : i + 5 ≤ L) (hP : va_P D vwCl (GM cI cJ cZ cG o b P ad st f m0 a x) H) (hD : va_D (fun q => s.heap.size ≤ q) (GM cI cJ cZ cG o b P ad st f m0 a x)) (hS : va_S (fun q => s.heap.size ≤ q) s.heap H locs) (hsim : Sim st x) (hrm : cells + 4 ≤ 601024 ∧ slots + 35 ≤ 7293034) {ls : Array Slot} (hl : lv_has ls 8 [(0, .ref sb), (1, .ref b), (2, .ref m0), (3, .ref o), (4, .int (nI i))])
    (kk : ∀ (H : Heap) (locs : List Loc) (ad : Nat → ga) (st : Nat → Option GS) (f : Nat → Int64) (x : MS) (ls : Array Slot), va_P D vwCl (GM cI cJ cZ cG o b P ad st f m0 a x) H → va_D (fun q => s.heap.size ≤ q) (GM cI cJ cZ cG o b P ad st f m0 a x) → va_S (fun q => s.heap.size ≤ q) s.heap H locs → Sim st x → lv_has ls 8 [(0, .ref sb), (1, .ref b), (2, .ref m0), (3, .ref o), (4, .int (nI i))] → W p l e room_1 s m #[Value.ref sb] below meth c H locs (cells + 4) (slots + 35) Q (F0 m 1170 ls [])) : W p l e room_1 s m #[Value.ref sb] below meth c H locs cells slots Q (F0 m 187 ls []) := by
  have hKW := hKX.1.1
  have hK := hKW.1
  refine lv_aload_n hx hb dL_law_187 rfl (lv_at hl 1 rfl) ?_
  refine lv_aload_n hx hb dL_law_188 rfl (lv_at hl 0 rfl) ?_
  refine lv_iload hx hb dL_law_189 (lv_at hl 4 rfl) ?_
  refine lv_iconst (v := 1) hx hb dL_law_191 (by decide) ?_
  refine lv_iadd hx hb dL_law_192 ?_
  refine va_sld hx hb hX hsb (Nat.not_le.mpr hsb) hS (sx 1 hi hL (by decide)) dL_law_193 ?_
  refine lv_aload_n hx hb dL_law_194 rfl (lv_at hl 0 rfl) ?_
  refine lv_iload hx hb dL_law_195 (lv_at hl 4 rfl) ?_
  refine lv_iconst (v := 2) hx hb dL_law_197 (by decide) ?_
  refine lv_iadd hx hb dL_law_198 ?_
  refine va_sld hx hb hX hsb (Nat.not_le.mpr hsb) hS (sx 2 hi hL (by decide)) dL_law_199 ?_
  refine lv_aload_n hx hb dL_law_200 rfl (lv_at hl 3 rfl) ?_
  have hP1 : va_P D vwCl (OW cI cJ cG o b P ad st f) H := wd_P.part hP (fun _ h => List.mem_append_left _ h)
  have hD1 : va_D (fun _ => True) (OW cI cJ cG o b P ad st f) := wd_D.left (hD.weaken (fun _ _ _ _ => trivial))
  refine wr_SW (A := (fun q => s.heap.size ≤ q)) (As := [.ref b, .int (xs ((nI i) + (1 : Int32)).toNatClampNeg), .int (xs ((nI i) + (2 : Int32)).toNatClampNeg), .ref o]) (rest := []) (Rw := MW cI cJ cZ m0 a x) ⟨hx, hb, hml, hown, hts⟩ (c_L_step l hst s.heap.size H hS.1 D cI cJ cZ cG b P ad st o f (xs ((nI i) + (1 : Int32)).toNatClampNeg) (xs ((nI i) + (2 : Int32)).toNatClampNeg) (hSim.2.1 st x hsim) hP1 hD1) (KX_puK D cI cJ cZ cG s.heap.size H) (hKX.kept hS.2.1) (vx_cwSW 4 hts gL_law_L_step rfl rfl rfl (by decide +kernel) ⟨Nat.le_of_ble_eq_true rfl, Nat.le_of_ble_eq_true rfl⟩) rfl hl.1 rfl (Nat.le_of_ble_eq_true rfl) dL_law_201 ⟨hrm.1, hrm.2⟩ hP hD hS (fun q h => h) (fun w1 H locs hw hP hD hS => ?_)
  obtain ⟨ad2, f2, hw, hv⟩ := hw
  subst hw
  obtain ⟨kc, hkc⟩ : ∃ u, u = (ob_step st (xs ((nI i) + (1 : Int32)).toNatClampNeg) (xs ((nI i) + (2 : Int32)).toNatClampNeg)).1 := ⟨_, rfl⟩
  obtain ⟨st2, hst2⟩ : ∃ u, u = (ob_step st (xs ((nI i) + (1 : Int32)).toNatClampNeg) (xs ((nI i) + (2 : Int32)).toNatClampNeg)).2.1 := ⟨_, rfl⟩
  rw [← hst2] at hP hD
  rw [← hkc] at hv
  refine W.eq (g2 := F0 m 204 ls [.int kc]) (by rw [hkc]; rfl) ?_
  refine lv_istore (lv' := [(5, .int kc), (0, .ref sb), (1, .ref b), (2, .ref m0), (3, .ref o), (4, .int (nI i))]) hx hb dL_law_204 hl (by decide) rfl (fun ls hl => ?_)
  refine lv_aload_n hx hb dL_law_206 rfl (lv_at hl 3 rfl) ?_
  refine lv_aload_n hx hb dL_law_207 rfl (lv_at hl 1 rfl) ?_
  refine lv_iload hx hb dL_law_208 (lv_at hl 5 rfl) ?_
  refine lv_iconst (v := 1) hx hb dL_law_210 (by decide) ?_
  refine lv_iadd hx hb dL_law_211 ?_
  refine va_sld hx hb hX hsb (Nat.not_le.mpr hsb) hS (sx 1 hi hL (by decide)) dL_law_212 ?_
  refine lv_aload_n hx hb dL_law_213 rfl (lv_at hl 1 rfl) ?_
  refine lv_iload hx hb dL_law_214 (lv_at hl 5 rfl) ?_
  refine lv_iconst (v := 2) hx hb dL_law_216 (by decide) ?_
  refine lv_iadd hx hb dL_law_217 ?_
  refine va_sld hx hb hX hsb (Nat.not_le.mpr hsb) hS (sx 2 hi hL (by decide)) dL_law_218 ?_
  have hP := wd_P.perm hP List.perm_append_comm
  have hD := wd_D.perm hD List.perm_append_comm
  have hPM : va_P D vwCl (MW cI cJ cZ m0 a x) H := wd_P.part hP (fun _ h => List.mem_append_left _ h)
  refine wr_V (A := (fun q => s.heap.size ≤ q)) (As := [.int (xs ((nI i) + (1 : Int32)).toNatClampNeg), .int (xs ((nI i) + (2 : Int32)).toNatClampNeg)]) (rest := []) (Rw := OW cI cJ cG o b P ad2 st2 f2) ⟨hx, hb, hml, hown, hts⟩ (c_X2_step l H D cI cJ cZ cG m0 a x (xs ((nI i) + (1 : Int32)).toNatClampNeg) (xs ((nI i) + (2 : Int32)).toNatClampNeg) (hSim.2.2.1 st x hsim) hPM (wd_D.left (hD.weaken (fun _ _ _ _ => trivial)))) (KW_puK D cI cJ cZ cG) hKW (cwV 2 hts gL_law_X2_step rfl rfl rfl (by decide +kernel) ⟨Nat.le_of_ble_eq_true rfl, Nat.le_of_ble_eq_true rfl⟩) (va_recv hK hPM (ci := 2) (q0 := 0) rfl rfl) rfl hl.1 rfl (Nat.le_of_ble_eq_true rfl) dL_law_219 ⟨by show _ ≤ 601024; omega, by show _ ≤ 7293034; omega⟩ hP hD hS (fun q h => h) (fun w1 H locs hw hP hD hS => ?_)
  subst hw
  obtain ⟨an, han⟩ : ∃ u, u = (F_X2_step x (xs ((nI i) + (1 : Int32)).toNatClampNeg) (xs ((nI i) + (2 : Int32)).toNatClampNeg)).1 := ⟨_, rfl⟩
  obtain ⟨x2, hx2⟩ : ∃ u, u = (F_X2_step x (xs ((nI i) + (1 : Int32)).toNatClampNeg) (xs ((nI i) + (2 : Int32)).toNatClampNeg)).2 := ⟨_, rfl⟩
  rw [← hx2] at hP hD
  have hP := wd_P.perm hP List.perm_append_comm
  have hD := wd_D.perm hD List.perm_append_comm
  have hsm := hSim.2.2.2.2.1 st x (xs ((nI i) + (1 : Int32)).toNatClampNeg) (xs ((nI i) + (2 : Int32)).toNatClampNeg) hsim
  rw [← hx2, ← hkc, ← hst2, ← han] at hsm
  have hthr : (mth x2) = kc := hsm.1
  refine W.eq (g2 := F0 m 222 ls [.int an]) (by rw [han]; rfl) ?_
  refine lv_istore (lv' := [(6, .int an), (5, .int kc), (0, .ref sb), (1, .ref b), (2, .ref m0), (3, .ref o), (4, .int (nI i))]) hx hb dL_law_222 hl (by decide) rfl (fun ls hl => ?_)
  refine lv_aload_n hx hb dL_law_224 rfl (lv_at hl 4 rfl) ?_
  have hPM : va_P D vwCl (MW cI cJ cZ m0 a x2) H := wd_P.part hP (fun _ h => List.mem_append_right _ h)
  refine pu_V (As := []) (rest := []) ⟨hx, hb, hml, hown, hts⟩ (c_X2_thrown l H D cI cJ cZ cG m0 a x2 hPM) (KW_puK D cI cJ cZ cG) hKW (cwV 0 hts gL_law_X2_thrown rfl rfl rfl (by decide +kernel) ⟨Nat.le_of_ble_eq_true rfl, Nat.le_of_ble_eq_true rfl⟩) (va_recv hK hPM (ci := 2) (q0 := 0) rfl rfl) rfl hl.1 rfl (Nat.le_of_ble_eq_true rfl) dL_law_225 ⟨by show _ ≤ 601024; omega, by show _ ≤ 7293034; omega⟩ ?_
  refine W.eq (g2 := F0 m 228 ls [.int (mth x2)]) rfl ?_
  refine lv_iload hx hb dL_law_228 (lv_at hl 1 rfl) ?_
  refine lv_icmp_eq (tgt := 235) hx hb dL_law_230 (by decide) (fun z_9 => ?_) (fun z_9 => absurd hthr z_9)
  refine lv_iload hx hb dL_law_235 (lv_at hl 1 rfl) ?_
  refine lv_if_ne (tgt := 252) hx hb dL_law_237 (by decide) (fun c_1 => ?_) (fun c_1 => ?_)
  · refine lv_goto (tgt := 1170) hx hb dL_law_252 (by decide) ?_
    exact kk H locs ad2 st2 f2 x2 ls hP hD hS hsm.2.2 (lv_sub hl [2, 3, 4, 5, 6] rfl)
  · refine lv_aload_n hx hb dL_law_240 rfl (lv_at hl 5 rfl) ?_
    refine lv_iconst (v := 0) hx hb dL_law_241 (by decide) ?_
    refine va_lald hx hb hK hP 0 1 rfl rfl (show vp_in (nI 0) 1 from vp_in_nI (by decide) (by decide)) dL_law_242 ?_
    refine lv_iload hx hb dL_law_243 (lv_at hl 0 rfl) ?_
    refine lv_i2l hx hb dL_law_245 rfl ?_
    have hcq : (lg_cmp (f2 (0 : Int32).toNatClampNeg) an.toInt64) = 0 := (lg_cmp_eq _ _).mpr ((hv c_1).trans (hsm.2.1 c_1))
    refine W.lcmp hx hb dL_law_246 ?_
    refine lv_if_eq (tgt := 252) hx hb dL_law_247 (by decide) (fun z_9 => ?_) (fun z_9 => absurd hcq z_9)
    refine lv_goto (tgt := 1170) hx hb dL_law_252 (by decide) ?_
    exact kk H locs ad2 st2 f2 x2 ls hP hD hS hsm.2.2 (lv_sub hl [2, 3, 4, 5, 6] rfl)
set_option maxHeartbeats 4000000 in
set_option maxRecDepth 100000 in
theorem k_stepBy {p : Program} {l : Launch} {e : Env} {s : State} {m : MethodId} {below : List Frame} {meth : Method} {c : Code} {Q : State → Prop} {sb L : Nat} {xs : Nat → Int32} {D : va_G} {cI cJ cZ cG : ClassId} {Sim : (Nat → Option GS) → MS → Prop}
    (hx : p.tables.exec = Jvm.exec) (hb : c.code = code) (hml : c.maxLocals = 8) (hown : s.vm.findClass RL = some m.cls) (hts : ∀ w ∈ wsL_law, w.before #[Value.ref sb] s = true) (hX : va_X sb L xs s s.heap) (hsb : sb < s.heap.size) (hst : l.stackTraces = false) (hL : L ≤ 2560) (hKX : KX D cI cJ cZ cG s.heap.size s.heap s) (hSim : SimOK Sim)
    {H : Heap} {locs : List Loc} {cells slots : Nat} {o b P m0 : Nat} {ad : Nat → ga} {st : Nat → Option GS} {f : Nat → Int64} {a : Nat → Nat} {x : MS} (i : Nat) (hi : i + 5 ≤ L) (hP : va_P D vwCl (GM cI cJ cZ cG o b P ad st f m0 a x) H) (hD : va_D (fun q => s.heap.size ≤ q) (GM cI cJ cZ cG o b P ad st f m0 a x)) (hS : va_S (fun q => s.heap.size ≤ q) s.heap H locs) (hsim : Sim st x) (hrm : cells + 4 ≤ 601024 ∧ slots + 35 ≤ 7293034) {ls : Array Slot} (hl : lv_has ls 8 [(0, .ref sb), (1, .ref b), (2, .ref m0), (3, .ref o), (4, .int (nI i))])
    (kk : ∀ (H : Heap) (locs : List Loc) (ad : Nat → ga) (st : Nat → Option GS) (f : Nat → Int64) (x : MS) (ls : Array Slot), va_P D vwCl (GM cI cJ cZ cG o b P ad st f m0 a x) H → va_D (fun q => s.heap.size ≤ q) (GM cI cJ cZ cG o b P ad st f m0 a x) → va_S (fun q => s.heap.size ≤ q) s.heap H locs → Sim st x → lv_has ls 8 [(0, .ref sb), (1, .ref b), (2, .ref m0), (3, .ref o), (4, .int (nI i))] → W p l e room_1 s m #[Value.ref sb] below meth c H locs (cells + 4) (slots + 35) Q (F0 m 1170 ls [])) : W p l e room_1 s m #[Value.ref sb] below meth c H locs cells slots Q (F0 m 255 ls []) := by
  have hKW := hKX.1.1
  have hK := hKW.1
  refine lv_aload_n hx hb dL_law_255 rfl (lv_at hl 1 rfl) ?_
  refine lv_aload_n hx hb dL_law_256 rfl (lv_at hl 0 rfl) ?_
  refine lv_iload hx hb dL_law_257 (lv_at hl 4 rfl) ?_
  refine lv_iconst (v := 1) hx hb dL_law_259 (by decide) ?_
  refine lv_iadd hx hb dL_law_260 ?_
  refine va_sld hx hb hX hsb (Nat.not_le.mpr hsb) hS (sx 1 hi hL (by decide)) dL_law_261 ?_
  refine lv_aload_n hx hb dL_law_262 rfl (lv_at hl 0 rfl) ?_
  refine lv_iload hx hb dL_law_263 (lv_at hl 4 rfl) ?_
  refine lv_iconst (v := 2) hx hb dL_law_265 (by decide) ?_
  refine lv_iadd hx hb dL_law_266 ?_
  refine va_sld hx hb hX hsb (Nat.not_le.mpr hsb) hS (sx 2 hi hL (by decide)) dL_law_267 ?_
  refine lv_aload_n hx hb dL_law_268 rfl (lv_at hl 0 rfl) ?_
  refine lv_iload hx hb dL_law_269 (lv_at hl 4 rfl) ?_
  refine lv_iconst (v := 3) hx hb dL_law_271 (by decide) ?_
  refine lv_iadd hx hb dL_law_272 ?_
  refine va_sld hx hb hX hsb (Nat.not_le.mpr hsb) hS (sx 3 hi hL (by decide)) dL_law_273 ?_
  refine lv_i2l hx hb dL_law_274 rfl ?_
  refine lv_bipush (v := 32) hx hb dL_law_275 (by decide) ?_
  refine lv_lshl hx hb dL_law_277 rfl ?_
  refine lv_aload_n hx hb dL_law_278 rfl (lv_at hl 0 rfl) ?_
  refine lv_iload hx hb dL_law_279 (lv_at hl 4 rfl) ?_
  refine lv_iconst (v := 4) hx hb dL_law_281 (by decide) ?_
  refine lv_iadd hx hb dL_law_282 ?_
  refine va_sld hx hb hX hsb (Nat.not_le.mpr hsb) hS (sx 4 hi hL (by decide)) dL_law_283 ?_
  refine lv_i2l hx hb dL_law_284 rfl ?_
  refine lv_ldc2 (v := 4294967295) hx hb hown (hts (.constantLong RL 84 4294967295) (by decide +kernel)) dL_law_285 ?_
  refine lv_land hx hb dL_law_288 ?_
  refine lv_lor hx hb dL_law_289 ?_
  refine lv_aload_n hx hb dL_law_290 rfl (lv_at hl 3 rfl) ?_
  have hP1 : va_P D vwCl (OW cI cJ cG o b P ad st f) H := wd_P.part hP (fun _ h => List.mem_append_left _ h)
  have hD1 : va_D (fun _ => True) (OW cI cJ cG o b P ad st f) := wd_D.left (hD.weaken (fun _ _ _ _ => trivial))
  refine wr_SW (A := (fun q => s.heap.size ≤ q)) (As := [.ref b, .int (xs ((nI i) + (1 : Int32)).toNatClampNeg), .int (xs ((nI i) + (2 : Int32)).toNatClampNeg), .long ((((xs ((nI i) + (3 : Int32)).toNatClampNeg).toInt64) <<< ((32 : Int32).toInt64 &&& 63)) ||| (((xs ((nI i) + (4 : Int32)).toNatClampNeg).toInt64) &&& (4294967295 : Int64))), .ref o]) (rest := []) (Rw := MW cI cJ cZ m0 a x) ⟨hx, hb, hml, hown, hts⟩ (c_L_stepBy l hst s.heap.size H hS.1 D cI cJ cZ cG b P ad st o f (xs ((nI i) + (1 : Int32)).toNatClampNeg) (xs ((nI i) + (2 : Int32)).toNatClampNeg) ((((xs ((nI i) + (3 : Int32)).toNatClampNeg).toInt64) <<< ((32 : Int32).toInt64 &&& 63)) ||| (((xs ((nI i) + (4 : Int32)).toNatClampNeg).toInt64) &&& (4294967295 : Int64))) (hSim.2.1 st x hsim) hP1 hD1) (KX_puK D cI cJ cZ cG s.heap.size H) (hKX.kept hS.2.1) (vx_cwSW 5 hts gL_law_L_stepBy rfl rfl rfl (by decide +kernel) ⟨Nat.le_of_ble_eq_true rfl, Nat.le_of_ble_eq_true rfl⟩) rfl hl.1 rfl (Nat.le_of_ble_eq_true rfl) dL_law_291 ⟨hrm.1, hrm.2⟩ hP hD hS (fun q h => h) (fun w1 H locs hw hP hD hS => ?_)
  obtain ⟨ad2, f2, hw, hv⟩ := hw
  subst hw
  obtain ⟨kc, hkc⟩ : ∃ u, u = (ob_stepBy st (xs ((nI i) + (1 : Int32)).toNatClampNeg) (xs ((nI i) + (2 : Int32)).toNatClampNeg) ((((xs ((nI i) + (3 : Int32)).toNatClampNeg).toInt64) <<< ((32 : Int32).toInt64 &&& 63)) ||| (((xs ((nI i) + (4 : Int32)).toNatClampNeg).toInt64) &&& (4294967295 : Int64)))).1 := ⟨_, rfl⟩
  obtain ⟨st2, hst2⟩ : ∃ u, u = (ob_stepBy st (xs ((nI i) + (1 : Int32)).toNatClampNeg) (xs ((nI i) + (2 : Int32)).toNatClampNeg) ((((xs ((nI i) + (3 : Int32)).toNatClampNeg).toInt64) <<< ((32 : Int32).toInt64 &&& 63)) ||| (((xs ((nI i) + (4 : Int32)).toNatClampNeg).toInt64) &&& (4294967295 : Int64)))).2.1 := ⟨_, rfl⟩
  rw [← hst2] at hP hD
  rw [← hkc] at hv
  refine W.eq (g2 := F0 m 294 ls [.int kc]) (by rw [hkc]; rfl) ?_
  refine lv_istore (lv' := [(5, .int kc), (0, .ref sb), (1, .ref b), (2, .ref m0), (3, .ref o), (4, .int (nI i))]) hx hb dL_law_294 hl (by decide) rfl (fun ls hl => ?_)
  refine lv_aload_n hx hb dL_law_296 rfl (lv_at hl 3 rfl) ?_
  refine lv_aload_n hx hb dL_law_297 rfl (lv_at hl 1 rfl) ?_
  refine lv_iload hx hb dL_law_298 (lv_at hl 5 rfl) ?_
  refine lv_iconst (v := 1) hx hb dL_law_300 (by decide) ?_
  refine lv_iadd hx hb dL_law_301 ?_
  refine va_sld hx hb hX hsb (Nat.not_le.mpr hsb) hS (sx 1 hi hL (by decide)) dL_law_302 ?_
  refine lv_aload_n hx hb dL_law_303 rfl (lv_at hl 1 rfl) ?_
  refine lv_iload hx hb dL_law_304 (lv_at hl 5 rfl) ?_
  refine lv_iconst (v := 2) hx hb dL_law_306 (by decide) ?_
  refine lv_iadd hx hb dL_law_307 ?_
  refine va_sld hx hb hX hsb (Nat.not_le.mpr hsb) hS (sx 2 hi hL (by decide)) dL_law_308 ?_
  refine lv_aload_n hx hb dL_law_309 rfl (lv_at hl 1 rfl) ?_
  refine lv_iload hx hb dL_law_310 (lv_at hl 5 rfl) ?_
  refine lv_iconst (v := 3) hx hb dL_law_312 (by decide) ?_
  refine lv_iadd hx hb dL_law_313 ?_
  refine va_sld hx hb hX hsb (Nat.not_le.mpr hsb) hS (sx 3 hi hL (by decide)) dL_law_314 ?_
  refine lv_i2l hx hb dL_law_315 rfl ?_
  refine lv_bipush (v := 32) hx hb dL_law_316 (by decide) ?_
  refine lv_lshl hx hb dL_law_318 rfl ?_
  refine lv_aload_n hx hb dL_law_319 rfl (lv_at hl 1 rfl) ?_
  refine lv_iload hx hb dL_law_320 (lv_at hl 5 rfl) ?_
  refine lv_iconst (v := 4) hx hb dL_law_322 (by decide) ?_
  refine lv_iadd hx hb dL_law_323 ?_
  refine va_sld hx hb hX hsb (Nat.not_le.mpr hsb) hS (sx 4 hi hL (by decide)) dL_law_324 ?_
  refine lv_i2l hx hb dL_law_325 rfl ?_
  refine lv_ldc2 (v := 4294967295) hx hb hown (hts (.constantLong RL 84 4294967295) (by decide +kernel)) dL_law_326 ?_
  refine lv_land hx hb dL_law_329 ?_
  refine lv_lor hx hb dL_law_330 ?_
  have hP := wd_P.perm hP List.perm_append_comm
  have hD := wd_D.perm hD List.perm_append_comm
  have hPM : va_P D vwCl (MW cI cJ cZ m0 a x) H := wd_P.part hP (fun _ h => List.mem_append_left _ h)
  refine wr_V (A := (fun q => s.heap.size ≤ q)) (As := [.int (xs ((nI i) + (1 : Int32)).toNatClampNeg), .int (xs ((nI i) + (2 : Int32)).toNatClampNeg), .long ((((xs ((nI i) + (3 : Int32)).toNatClampNeg).toInt64) <<< ((32 : Int32).toInt64 &&& 63)) ||| (((xs ((nI i) + (4 : Int32)).toNatClampNeg).toInt64) &&& (4294967295 : Int64)))]) (rest := []) (Rw := OW cI cJ cG o b P ad2 st2 f2) ⟨hx, hb, hml, hown, hts⟩ (c_X2_stepBy l H D cI cJ cZ cG m0 a x (xs ((nI i) + (1 : Int32)).toNatClampNeg) (xs ((nI i) + (2 : Int32)).toNatClampNeg) ((((xs ((nI i) + (3 : Int32)).toNatClampNeg).toInt64) <<< ((32 : Int32).toInt64 &&& 63)) ||| (((xs ((nI i) + (4 : Int32)).toNatClampNeg).toInt64) &&& (4294967295 : Int64))) (hSim.2.2.1 st x hsim) hPM (wd_D.left (hD.weaken (fun _ _ _ _ => trivial)))) (KW_puK D cI cJ cZ cG) hKW (cwV 3 hts gL_law_X2_stepBy rfl rfl rfl (by decide +kernel) ⟨Nat.le_of_ble_eq_true rfl, Nat.le_of_ble_eq_true rfl⟩) (va_recv hK hPM (ci := 2) (q0 := 0) rfl rfl) rfl hl.1 rfl (Nat.le_of_ble_eq_true rfl) dL_law_331 ⟨by show _ ≤ 601024; omega, by show _ ≤ 7293034; omega⟩ hP hD hS (fun q h => h) (fun w1 H locs hw hP hD hS => ?_)
  subst hw
  obtain ⟨an, han⟩ : ∃ u, u = (F_X2_stepBy x (xs ((nI i) + (1 : Int32)).toNatClampNeg) (xs ((nI i) + (2 : Int32)).toNatClampNeg) ((((xs ((nI i) + (3 : Int32)).toNatClampNeg).toInt64) <<< ((32 : Int32).toInt64 &&& 63)) ||| (((xs ((nI i) + (4 : Int32)).toNatClampNeg).toInt64) &&& (4294967295 : Int64)))).1 := ⟨_, rfl⟩
  obtain ⟨x2, hx2⟩ : ∃ u, u = (F_X2_stepBy x (xs ((nI i) + (1 : Int32)).toNatClampNeg) (xs ((nI i) + (2 : Int32)).toNatClampNeg) ((((xs ((nI i) + (3 : Int32)).toNatClampNeg).toInt64) <<< ((32 : Int32).toInt64 &&& 63)) ||| (((xs ((nI i) + (4 : Int32)).toNatClampNeg).toInt64) &&& (4294967295 : Int64)))).2 := ⟨_, rfl⟩
  rw [← hx2] at hP hD
  have hP := wd_P.perm hP List.perm_append_comm
  have hD := wd_D.perm hD List.perm_append_comm
  have hsm := hSim.2.2.2.2.2.1 st x (xs ((nI i) + (1 : Int32)).toNatClampNeg) (xs ((nI i) + (2 : Int32)).toNatClampNeg) ((((xs ((nI i) + (3 : Int32)).toNatClampNeg).toInt64) <<< ((32 : Int32).toInt64 &&& 63)) ||| (((xs ((nI i) + (4 : Int32)).toNatClampNeg).toInt64) &&& (4294967295 : Int64))) hsim
  rw [← hx2, ← hkc, ← hst2, ← han] at hsm
  have hthr : (mth x2) = kc := hsm.1
  refine W.eq (g2 := F0 m 334 ls [.int an]) (by rw [han]; rfl) ?_
  refine lv_istore (lv' := [(6, .int an), (5, .int kc), (0, .ref sb), (1, .ref b), (2, .ref m0), (3, .ref o), (4, .int (nI i))]) hx hb dL_law_334 hl (by decide) rfl (fun ls hl => ?_)
  refine lv_aload_n hx hb dL_law_336 rfl (lv_at hl 4 rfl) ?_
  have hPM : va_P D vwCl (MW cI cJ cZ m0 a x2) H := wd_P.part hP (fun _ h => List.mem_append_right _ h)
  refine pu_V (As := []) (rest := []) ⟨hx, hb, hml, hown, hts⟩ (c_X2_thrown l H D cI cJ cZ cG m0 a x2 hPM) (KW_puK D cI cJ cZ cG) hKW (cwV 0 hts gL_law_X2_thrown rfl rfl rfl (by decide +kernel) ⟨Nat.le_of_ble_eq_true rfl, Nat.le_of_ble_eq_true rfl⟩) (va_recv hK hPM (ci := 2) (q0 := 0) rfl rfl) rfl hl.1 rfl (Nat.le_of_ble_eq_true rfl) dL_law_337 ⟨by show _ ≤ 601024; omega, by show _ ≤ 7293034; omega⟩ ?_
  refine W.eq (g2 := F0 m 340 ls [.int (mth x2)]) rfl ?_
  refine lv_iload hx hb dL_law_340 (lv_at hl 1 rfl) ?_
  refine lv_icmp_eq (tgt := 347) hx hb dL_law_342 (by decide) (fun z_9 => ?_) (fun z_9 => absurd hthr z_9)
  refine lv_iload hx hb dL_law_347 (lv_at hl 1 rfl) ?_
  refine lv_if_ne (tgt := 364) hx hb dL_law_349 (by decide) (fun c_1 => ?_) (fun c_1 => ?_)
  · refine lv_goto (tgt := 1170) hx hb dL_law_364 (by decide) ?_
    exact kk H locs ad2 st2 f2 x2 ls hP hD hS hsm.2.2 (lv_sub hl [2, 3, 4, 5, 6] rfl)
  · refine lv_aload_n hx hb dL_law_352 rfl (lv_at hl 5 rfl) ?_
    refine lv_iconst (v := 0) hx hb dL_law_353 (by decide) ?_
    refine va_lald hx hb hK hP 0 1 rfl rfl (show vp_in (nI 0) 1 from vp_in_nI (by decide) (by decide)) dL_law_354 ?_
    refine lv_iload hx hb dL_law_355 (lv_at hl 0 rfl) ?_
    refine lv_i2l hx hb dL_law_357 rfl ?_
    have hcq : (lg_cmp (f2 (0 : Int32).toNatClampNeg) an.toInt64) = 0 := (lg_cmp_eq _ _).mpr ((hv c_1).trans (hsm.2.1 c_1))
    refine W.lcmp hx hb dL_law_358 ?_
    refine lv_if_eq (tgt := 364) hx hb dL_law_359 (by decide) (fun z_9 => ?_) (fun z_9 => absurd hcq z_9)
    refine lv_goto (tgt := 1170) hx hb dL_law_364 (by decide) ?_
    exact kk H locs ad2 st2 f2 x2 ls hP hD hS hsm.2.2 (lv_sub hl [2, 3, 4, 5, 6] rfl)
