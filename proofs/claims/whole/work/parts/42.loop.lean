/-! THE CLAIM OUT OF ONE WALK OF THE LAW'S BODY. Your part is whole_start (and what it stands on); all else here is the same for every law, but numbers. -/
def R_law : String := "GaugeBoardLaw"
def lw_P (b : Addr) (xs : List Int32) (args : Array Value) (s : State) : Prop := args = #[.ref b] ∧ s.IntsAt b xs ∧ xs.length ≤ 2560 ∧ (Jvm.Cond.and given_1 narrow_1).before args s = true
def lw_Q (_ : Array Value) (s : State) (o : Outcome) (t : State) : Prop := o = .returned (some (.int 1)) ∧ Framed s o t [] 601024 7293034
def lw_Z (below : List Frame) (a : Array Value) (s : State) : State → Prop := fun t => ∃ o, t.status = .running ∧ Ended t below o ∧ lw_Q a s o t
/-- the law's own end, with 1 on the stack, nothing written that was there before, its room as the claim has it -/
theorem lw_ret {p : Program} {l : Launch} {e : Env} {s : State} {m : MethodId} {below : List Frame} {meth : Method} {c : Code} {b : Nat} (hx : p.tables.exec = Jvm.exec) (hb : c.code = code) (hr : meth.sig.returnType = ret) (hlocks : meth.locks = false) {pc : Nat} {H : Heap} {ls : Array Slot} (hdg : decode code pc = .ok (.ireturn, 1)) : W p l e room_1 s m #[Value.ref b] below meth c H [] 601024 7293034 (lw_Z below #[Value.ref b] s) (F0 m pc ls [.int 1]) := by
  intro T hT X
  obtain ⟨fs, hret, hrun, hended, hW, hframe⟩ := X.leave (v := some (.int 1)) (hlocks := hlocks) (fun h => by rw [hr] at h; cases h)
  have hmeth' : T.vm.method? m = some meth := X.method'
  refine ⟨T.setFrames fs, ?_, .returned (some (.int 1)), hrun, hended, rfl, ⟨_, rfl⟩, hW, hframe⟩
  jvm_step X.here [X.here.top, hx, hb, hdg, hmeth', hr, ret, narrow_b1]
  (try refine ⟨rfl, ?_⟩); (try refine ⟨rfl, ?_⟩)
  first | (intro acts; rw [hret _ acts rfl rfl rfl]) | rw [hret _ _ rfl rfl rfl]
  exact Steps.refl _
/-- what holds at the law's entry: the machine, the code, the tables' words (any of lw_tbl by 'hts w (by decide +kernel)'), the script of L ints xs at the cell b, what the Statement gives of the start (any of its parts by flat_of_before) -/
def lw_At (p : Program) (s : State) (m : MethodId) (meth : Method) (c : Code) (b L : Nat) (xs : Nat → Int32) : Prop :=
  p.tables.exec = Jvm.exec ∧ c.code = code ∧ meth.sig.returnType = ret ∧ c.maxLocals = 8 ∧ s.vm.findClass R_law = some m.cls ∧ (∀ w ∈ lw_tbl, w.before #[Value.ref b] s = true) ∧ va_X b L xs s s.heap ∧ b < s.heap.size ∧ meth.locks = false ∧ (Jvm.Cond.and given_1 narrow_1).before #[Value.ref b] s = true
theorem lp_gt {i L : Nat} (hL : L ≤ 2560) (hi : i ≤ 2600) : ((Int32.ofNat L) - (5 : Int32)) < (nI i) ↔ L < i + 5 := by
  have h5 : (nI 5) = (5 : Int32) := rfl
  show (nI L - 5) < nI i ↔ _
  rw [Int32.lt_iff_toInt_lt, nI_toInt (by omega), Int32.toInt_sub, nI_toInt (by omega), show (5 : Int32).toInt = 5 by decide]
  rw [Int.bmod_def]
  split <;> omega
set_option maxHeartbeats 4000000 in
set_option maxRecDepth 100000 in
theorem k_gauges {p : Program} {l : Launch} {e : Env} {s : State} {m : MethodId} {below : List Frame} {meth : Method} {c : Code} {Q : State → Prop} {sb L : Nat} {xs : Nat → Int32} {D : va_G} {cI cJ cZ cG : ClassId} {Sim : (Nat → Option GS) → MS → Prop}
    (hx : p.tables.exec = Jvm.exec) (hb : c.code = code) (hml : c.maxLocals = 8) (hown : s.vm.findClass RL = some m.cls) (hts : ∀ w ∈ wsL_law, w.before #[Value.ref sb] s = true) (hX : va_X sb L xs s s.heap) (hsb : sb < s.heap.size) (hst : l.stackTraces = false) (hL : L ≤ 2560) (hKX : KX D cI cJ cZ cG s.heap.size s.heap s) (hSim : SimOK Sim)
    {H : Heap} {locs : List Loc} {cells slots : Nat} {o b P m0 : Nat} {ad : Nat → ga} {st : Nat → Option GS} {f : Nat → Int64} {a : Nat → Nat} {x : MS} (i : Nat) (hi : i + 5 ≤ L) (hP : va_P D vwCl (GM cI cJ cZ cG o b P ad st f m0 a x) H) (hD : va_D (fun q => s.heap.size ≤ q) (GM cI cJ cZ cG o b P ad st f m0 a x)) (hS : va_S (fun q => s.heap.size ≤ q) s.heap H locs) (hsim : Sim st x) (hrm : cells + 4 ≤ 601024 ∧ slots + 35 ≤ 7293034) {ls : Array Slot} (hl : lv_has ls 8 [(0, .ref sb), (1, .ref b), (2, .ref m0), (3, .ref o), (4, .int (nI i))])
    (kk : ∀ (H : Heap) (locs : List Loc) (ad : Nat → ga) (st : Nat → Option GS) (f : Nat → Int64) (x : MS) (ls : Array Slot), va_P D vwCl (GM cI cJ cZ cG o b P ad st f m0 a x) H → va_D (fun q => s.heap.size ≤ q) (GM cI cJ cZ cG o b P ad st f m0 a x) → va_S (fun q => s.heap.size ≤ q) s.heap H locs → Sim st x → lv_has ls 8 [(0, .ref sb), (1, .ref b), (2, .ref m0), (3, .ref o), (4, .int (nI i))] → W p l e room_1 s m #[Value.ref sb] below meth c H locs (cells + 4) (slots + 35) Q (F0 m 1170 ls [])) : W p l e room_1 s m #[Value.ref sb] below meth c H locs cells slots Q (F0 m 1157 ls []) := by
  have hKW := hKX.1.1
  have hK := hKW.1
  refine lv_aload_n hx hb dL_law_1157 rfl (lv_at hl 1 rfl) ?_
  have hPB : va_P D vwCl (BW cI cJ cG b P ad st) H := wd_P.part hP (fun _ h => List.mem_append_left _ (List.mem_append_right _ h))
  refine pu_V (As := []) (rest := []) ⟨hx, hb, hml, hown, hts⟩ (c_X1_gauges l H D cI cJ cZ cG b P ad st hPB) (KW_puK D cI cJ cZ cG) hKW (cwV 0 hts gL_law_X1_gauges rfl rfl rfl (by decide +kernel) ⟨Nat.le_of_ble_eq_true rfl, Nat.le_of_ble_eq_true rfl⟩) (va_recv hK hPB (ci := 1) (q0 := 0) rfl rfl) rfl hl.1 rfl (Nat.le_of_ble_eq_true rfl) dL_law_1158 ⟨by show _ ≤ 601024; omega, by show _ ≤ 7293034; omega⟩ ?_
  refine W.eq (g2 := F0 m 1161 ls [.int (f_X1_gauges st)]) rfl ?_
  refine lv_aload_n hx hb dL_law_1161 rfl (lv_at hl 2 rfl) ?_
  have hP := wd_P.perm hP List.perm_append_comm
  have hD := wd_D.perm hD List.perm_append_comm
  have hPM : va_P D vwCl (MW cI cJ cZ m0 a x) H := wd_P.part hP (fun _ h => List.mem_append_left _ h)
  refine wr_V (A := (fun q => s.heap.size ≤ q)) (As := []) (rest := [.int (f_X1_gauges st)]) (Rw := OW cI cJ cG o b P ad st f) ⟨hx, hb, hml, hown, hts⟩ (c_X2_gauges l H D cI cJ cZ cG m0 a x hPM (wd_D.left (hD.weaken (fun _ _ _ _ => trivial)))) (KW_puK D cI cJ cZ cG) hKW (cwV 0 hts gL_law_X2_gauges rfl rfl rfl (by decide +kernel) ⟨Nat.le_of_ble_eq_true rfl, Nat.le_of_ble_eq_true rfl⟩) (va_recv hK hPM (ci := 2) (q0 := 0) rfl rfl) rfl hl.1 rfl (Nat.le_of_ble_eq_true rfl) dL_law_1162 ⟨by show _ ≤ 601024; omega, by show _ ≤ 7293034; omega⟩ hP hD hS (fun q h => h) (fun w1 H locs hw hP hD hS => ?_)
  subst hw
  obtain ⟨an, han⟩ : ∃ u, u = (F_X2_gauges x).1 := ⟨_, rfl⟩
  obtain ⟨x2, hx2⟩ : ∃ u, u = (F_X2_gauges x).2 := ⟨_, rfl⟩
  rw [← hx2] at hP hD
  have hP := wd_P.perm hP List.perm_append_comm
  have hD := wd_D.perm hD List.perm_append_comm
  have hsm := hSim.2.2.2.2.2.2.2.2.2.2.2.2.2.2.2.2.2 st x hsim
  rw [← hx2, ← han] at hsm
  have hthr : (f_X1_gauges st) = an := hsm.1
  refine W.eq (g2 := F0 m 1165 ls [.int an, .int (f_X1_gauges st)]) (by rw [han]; rfl) ?_
  refine lv_icmp_eq (tgt := 1170) hx hb dL_law_1165 (by decide) (fun z_9 => ?_) (fun z_9 => absurd hthr z_9)
  refine W.widen (k := cells + 4) (n := slots + 35) (by omega) (by omega) ?_
  exact kk H locs ad st f x2 ls hP hD hS hsm.2 hl
set_option maxHeartbeats 4000000 in
set_option maxRecDepth 100000 in
theorem k_loop {p : Program} {l : Launch} {e : Env} {s : State} {m : MethodId} {below : List Frame} {meth : Method} {c : Code} {sb L : Nat} {xs : Nat → Int32} {D : va_G} {cI cJ cZ cG : ClassId} {Sim : (Nat → Option GS) → MS → Prop}
    (hx : p.tables.exec = Jvm.exec) (hb : c.code = code) (hml : c.maxLocals = 8) (hown : s.vm.findClass RL = some m.cls) (hts : ∀ w ∈ wsL_law, w.before #[Value.ref sb] s = true) (hX : va_X sb L xs s s.heap) (hsb : sb < s.heap.size) (hst : l.stackTraces = false) (hL : L ≤ 2560) (hKX : KX D cI cJ cZ cG s.heap.size s.heap s) (hSim : SimOK Sim) (hr : meth.sig.returnType = ret) (hlocks : meth.locks = false) {o b P m0 : Nat} {a : Nat → Nat} : ∀ (n i cells slots : Nat) (H : Heap) (locs : List Loc) (ad : Nat → ga) (st : Nat → Option GS) (f : Nat → Int64) (x : MS) (ls : Array Slot), i ≤ L + 5 → L < i + 5 + 5 * n → cells + 4 * n ≤ 601024 → slots + 35 * n ≤ 7293034 → va_P D vwCl (GM cI cJ cZ cG o b P ad st f m0 a x) H → va_D (fun q => s.heap.size ≤ q) (GM cI cJ cZ cG o b P ad st f m0 a x) → va_S (fun q => s.heap.size ≤ q) s.heap H locs → Sim st x → lv_has ls 8 [(0, .ref sb), (1, .ref b), (2, .ref m0), (3, .ref o), (4, .int (nI i))] → W p l e room_1 s m #[Value.ref sb] below meth c H locs cells slots (lw_Z below #[Value.ref sb] s) (F0 m 23 ls []) := by
  intro n
  induction n with
  | zero =>
    intro i cells slots H locs ad st f x ls hi0 hn hc hs hP hD hS hsim hl
    have hgt : ((Int32.ofNat L) - (5 : Int32)) < (nI i) := (lp_gt hL (by omega)).mpr (by omega)
    refine lv_iload hx hb dL_law_23 (lv_at hl 4 rfl) ?_
    refine lv_aload_n hx hb dL_law_25 rfl (lv_at hl 0 rfl) ?_
    refine va_slen hx hb hX hsb (Nat.not_le.mpr hsb) hS dL_law_26 ?_
    refine lv_iconst (v := 5) hx hb dL_law_27 (by decide) ?_
    refine lv_isub hx hb dL_law_28 ?_
    refine lv_icmp_gt (tgt := 1176) hx hb dL_law_29 (by decide) (fun z_9 => ?_) (fun z_9 => absurd hgt z_9)
    refine va_forget hS.2.2 ?_
    refine W.widen (k := 601024) (n := 7293034) (by omega) (by omega) ?_
    refine lv_iconst (v := 1) hx hb dL_law_1176 (by decide) ?_
    exact lw_ret hx hb hr hlocks dL_law_1177
  | succ n ih =>
    intro i cells slots H locs ad st f x ls hi0 hn hc hs hP hD hS hsim hl
    have hnext : ∀ (H : Heap) (locs : List Loc) (ad : Nat → ga) (st : Nat → Option GS) (f : Nat → Int64) (x : MS) (ls : Array Slot), va_P D vwCl (GM cI cJ cZ cG o b P ad st f m0 a x) H → va_D (fun q => s.heap.size ≤ q) (GM cI cJ cZ cG o b P ad st f m0 a x) → va_S (fun q => s.heap.size ≤ q) s.heap H locs → Sim st x → lv_has ls 8 [(0, .ref sb), (1, .ref b), (2, .ref m0), (3, .ref o), (4, .int (nI i))] → i + 5 ≤ L → W p l e room_1 s m #[Value.ref sb] below meth c H locs (cells + 4) (slots + 35) (lw_Z below #[Value.ref sb] s) (F0 m 1170 ls []) := by
      intro H locs ad st f x ls hP hD hS hsim hl hi
      refine lv_iinc (v := nI (i + 5)) (lv' := [(4, .int (nI (i + 5))), (0, .ref sb), (1, .ref b), (2, .ref m0), (3, .ref o)]) hx hb dL_law_1170 hl (k := 4) rfl (by show nI i + nI 5 = nI (i + 5); exact nI_add i 5) (by decide) rfl (fun ls hl => ?_)
      refine lv_goto (tgt := 23) hx hb dL_law_1173 (by decide) ?_
      exact ih (i + 5) (cells + 4) (slots + 35) H locs ad st f x ls (by omega) (by omega) (by omega) (by omega) hP hD hS hsim (lv_sub hl [1, 2, 3, 4, 0] rfl)
    by_cases hgt : ((Int32.ofNat L) - (5 : Int32)) < (nI i)
    · refine lv_iload hx hb dL_law_23 (lv_at hl 4 rfl) ?_
      refine lv_aload_n hx hb dL_law_25 rfl (lv_at hl 0 rfl) ?_
      refine va_slen hx hb hX hsb (Nat.not_le.mpr hsb) hS dL_law_26 ?_
      refine lv_iconst (v := 5) hx hb dL_law_27 (by decide) ?_
      refine lv_isub hx hb dL_law_28 ?_
      refine lv_icmp_gt (tgt := 1176) hx hb dL_law_29 (by decide) (fun z_9 => ?_) (fun z_9 => absurd hgt z_9)
      refine va_forget hS.2.2 ?_
      refine W.widen (k := 601024) (n := 7293034) (by omega) (by omega) ?_
      refine lv_iconst (v := 1) hx hb dL_law_1176 (by decide) ?_
      exact lw_ret hx hb hr hlocks dL_law_1177
    · have hi : i + 5 ≤ L := by have := (not_congr (lp_gt hL (by omega))).mp hgt; omega
      have hnext := fun H locs ad st f x ls h1 h2 h3 h4 h5 => hnext H locs ad st f x ls h1 h2 h3 h4 h5 hi
      refine lv_iload hx hb dL_law_23 (lv_at hl 4 rfl) ?_
      refine lv_aload_n hx hb dL_law_25 rfl (lv_at hl 0 rfl) ?_
      refine va_slen hx hb hX hsb (Nat.not_le.mpr hsb) hS dL_law_26 ?_
      refine lv_iconst (v := 5) hx hb dL_law_27 (by decide) ?_
      refine lv_isub hx hb dL_law_28 ?_
      refine lv_icmp_gt (tgt := 1176) hx hb dL_law_29 (by decide) (fun z_9 => absurd z_9 hgt) (fun z_9 => ?_)
      refine lv_aload_n hx hb dL_law_32 rfl (lv_at hl 0 rfl) ?_
      refine lv_iload hx hb dL_law_33 (lv_at hl 4 rfl) ?_
      refine va_sld hx hb hX hsb (Nat.not_le.mpr hsb) hS (show vp_in (nI i) L from vp_in_nI (by omega) (by omega)) dL_law_35 ?_
      refine lv_bipush (v := 15) hx hb dL_law_36 (by decide) ?_
      refine lv_iand hx hb dL_law_38 ?_
      by_cases c_1 : ((xs (nI i).toNatClampNeg) &&& (15 : Int32)) = 0
      · refine lv_tableIn (off := 73) (tgt := 112) hx hb dL_law_39 (by rw [c_1]; decide) (by rw [c_1]; decide) (by rw [c_1]; decide) (by decide) ?_
        exact k_fit hx hb hml hown hts hX hsb hst hL hKX hSim i hi hP hD hS hsim ⟨by omega, by omega⟩ hl hnext
      by_cases c_2 : ((xs (nI i).toNatClampNeg) &&& (15 : Int32)) = 1
      · refine lv_tableIn (off := 148) (tgt := 187) hx hb dL_law_39 (by rw [c_2]; decide) (by rw [c_2]; decide) (by rw [c_2]; decide) (by decide) ?_
        exact k_step hx hb hml hown hts hX hsb hst hL hKX hSim i hi hP hD hS hsim ⟨by omega, by omega⟩ hl hnext
      by_cases c_3 : ((xs (nI i).toNatClampNeg) &&& (15 : Int32)) = 2
      · refine lv_tableIn (off := 216) (tgt := 255) hx hb dL_law_39 (by rw [c_3]; decide) (by rw [c_3]; decide) (by rw [c_3]; decide) (by decide) ?_
        exact k_stepBy hx hb hml hown hts hX hsb hst hL hKX hSim i hi hP hD hS hsim ⟨by omega, by omega⟩ hl hnext
      by_cases c_4 : ((xs (nI i).toNatClampNeg) &&& (15 : Int32)) = 3
      · refine lv_tableIn (off := 328) (tgt := 367) hx hb dL_law_39 (by rw [c_4]; decide) (by rw [c_4]; decide) (by rw [c_4]; decide) (by decide) ?_
        exact k_stepOf hx hb hml hown hts hX hsb hst hL hKX hSim i hi hP hD hS hsim ⟨by omega, by omega⟩ hl hnext
      by_cases c_5 : ((xs (nI i).toNatClampNeg) &&& (15 : Int32)) = 4
      · refine lv_tableIn (off := 408) (tgt := 447) hx hb dL_law_39 (by rw [c_5]; decide) (by rw [c_5]; decide) (by rw [c_5]; decide) (by decide) ?_
        exact k_bare hx hb hml hown hts hX hsb hst hL hKX hSim i hi hP hD hS hsim ⟨by omega, by omega⟩ hl hnext
      by_cases c_6 : ((xs (nI i).toNatClampNeg) &&& (15 : Int32)) = 5
      · refine lv_tableIn (off := 464) (tgt := 503) hx hb dL_law_39 (by rw [c_6]; decide) (by rw [c_6]; decide) (by rw [c_6]; decide) (by decide) ?_
        exact k_read hx hb hml hown hts hX hsb hst hL hKX hSim i hi hP hD hS hsim ⟨by omega, by omega⟩ hl hnext
      by_cases c_7 : ((xs (nI i).toNatClampNeg) &&& (15 : Int32)) = 6
      · refine lv_tableIn (off := 563) (tgt := 602) hx hb dL_law_39 (by rw [c_7]; decide) (by rw [c_7]; decide) (by rw [c_7]; decide) (by decide) ?_
        exact k_hand hx hb hml hown hts hX hsb hst hL hKX hSim i hi hP hD hS hsim ⟨by omega, by omega⟩ hl hnext
      by_cases c_8 : ((xs (nI i).toNatClampNeg) &&& (15 : Int32)) = 7
      · refine lv_tableIn (off := 630) (tgt := 669) hx hb dL_law_39 (by rw [c_8]; decide) (by rw [c_8]; decide) (by rw [c_8]; decide) (by decide) ?_
        exact k_clear hx hb hml hown hts hX hsb hst hL hKX hSim i hi hP hD hS hsim ⟨by omega, by omega⟩ hl hnext
      by_cases c_9 : ((xs (nI i).toNatClampNeg) &&& (15 : Int32)) = 8
      · refine lv_tableIn (off := 693) (tgt := 732) hx hb dL_law_39 (by rw [c_9]; decide) (by rw [c_9]; decide) (by rw [c_9]; decide) (by decide) ?_
        exact k_value hx hb hml hown hts hX hsb hst hL hKX hSim i hi hP hD hS hsim ⟨by omega, by omega⟩ hl hnext
      by_cases c_10 : ((xs (nI i).toNatClampNeg) &&& (15 : Int32)) = 9
      · refine lv_tableIn (off := 748) (tgt := 787) hx hb dL_law_39 (by rw [c_10]; decide) (by rw [c_10]; decide) (by rw [c_10]; decide) (by decide) ?_
        exact k_mark hx hb hml hown hts hX hsb hst hL hKX hSim i hi hP hD hS hsim ⟨by omega, by omega⟩ hl hnext
      by_cases c_11 : ((xs (nI i).toNatClampNeg) &&& (15 : Int32)) = 10
      · refine lv_tableIn (off := 831) (tgt := 870) hx hb dL_law_39 (by rw [c_11]; decide) (by rw [c_11]; decide) (by rw [c_11]; decide) (by decide) ?_
        exact k_about hx hb hml hown hts hX hsb hst hL hKX hSim i hi hP hD hS hsim ⟨by omega, by omega⟩ hl hnext
      by_cases c_12 : ((xs (nI i).toNatClampNeg) &&& (15 : Int32)) = 11
      · refine lv_tableIn (off := 899) (tgt := 938) hx hb dL_law_39 (by rw [c_12]; decide) (by rw [c_12]; decide) (by rw [c_12]; decide) (by decide) ?_
        exact k_stepAt hx hb hml hown hts hX hsb hst hL hKX hSim i hi hP hD hS hsim ⟨by omega, by omega⟩ hl hnext
      by_cases c_13 : ((xs (nI i).toNatClampNeg) &&& (15 : Int32)) = 12
      · refine lv_tableIn (off := 979) (tgt := 1018) hx hb dL_law_39 (by rw [c_13]; decide) (by rw [c_13]; decide) (by rw [c_13]; decide) (by decide) ?_
        exact k_rank hx hb hml hown hts hX hsb hst hL hKX hSim i hi hP hD hS hsim ⟨by omega, by omega⟩ hl hnext
      by_cases c_14 : ((xs (nI i).toNatClampNeg) &&& (15 : Int32)) = 13
      · refine lv_tableIn (off := 1035) (tgt := 1074) hx hb dL_law_39 (by rw [c_14]; decide) (by rw [c_14]; decide) (by rw [c_14]; decide) (by decide) ?_
        exact k_most hx hb hml hown hts hX hsb hst hL hKX hSim i hi hP hD hS hsim ⟨by omega, by omega⟩ hl hnext
      by_cases c_15 : ((xs (nI i).toNatClampNeg) &&& (15 : Int32)) = 14
      · refine lv_tableIn (off := 1118) (tgt := 1157) hx hb dL_law_39 (by rw [c_15]; decide) (by rw [c_15]; decide) (by rw [c_15]; decide) (by decide) ?_
        exact k_gauges hx hb hml hown hts hX hsb hst hL hKX hSim i hi hP hD hS hsim ⟨by omega, by omega⟩ hl hnext
      have h_sw : ((xs (nI i).toNatClampNeg) &&& (15 : Int32)).toInt < 0 ∨ 14 < ((xs (nI i).toNatClampNeg) &&& (15 : Int32)).toInt := by
        have n0 := lv_neT (k := 0) (a := 0) c_1 (by decide)
        have n1 := lv_neT (k := 1) (a := 1) c_2 (by decide)
        have n2 := lv_neT (k := 2) (a := 2) c_3 (by decide)
        have n3 := lv_neT (k := 3) (a := 3) c_4 (by decide)
        have n4 := lv_neT (k := 4) (a := 4) c_5 (by decide)
        have n5 := lv_neT (k := 5) (a := 5) c_6 (by decide)
        have n6 := lv_neT (k := 6) (a := 6) c_7 (by decide)
        have n7 := lv_neT (k := 7) (a := 7) c_8 (by decide)
        have n8 := lv_neT (k := 8) (a := 8) c_9 (by decide)
        have n9 := lv_neT (k := 9) (a := 9) c_10 (by decide)
        have n10 := lv_neT (k := 10) (a := 10) c_11 (by decide)
        have n11 := lv_neT (k := 11) (a := 11) c_12 (by decide)
        have n12 := lv_neT (k := 12) (a := 12) c_13 (by decide)
        have n13 := lv_neT (k := 13) (a := 13) c_14 (by decide)
        have n14 := lv_neT (k := 14) (a := 14) c_15 (by decide)
        omega
      refine lv_tableOut (tgt := 1170) hx hb dL_law_39 h_sw (by decide) ?_
      refine W.widen (k := cells + 4) (n := slots + 35) (by omega) (by omega) ?_
      exact hnext H locs ad st f x ls hP hD hS hsim hl
