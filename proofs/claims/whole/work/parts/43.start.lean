/-! what the tables and the start give -/
theorem kk_in : ∀ w ∈ kw, w ∈ lw_tbl := by decide +kernel
theorem kk_on : ∀ w ∈ kw, w.onTables = true := by decide +kernel
theorem kk_str : ∀ q ∈ kt, Cond.stringRef q.1 q.2.1 q.2.2 ∈ lw_tbl := by decide +kernel
theorem kk_exa : ∀ q ∈ kt, Cond.exactly (.string q.1 q.2.1) "java/lang/String" ∈ flatC (Jvm.Cond.and given_1 narrow_1) := by decide +kernel
theorem kk_w0 : ∀ w ∈ u_ws RX0 TX0 11, w ∈ wsX00 := by decide +kernel
theorem kk_w1 : ∀ w ∈ u_ws RX1 TX1 1, w ∈ wsX10 := by decide +kernel
theorem kk_w2 : ∀ w ∈ u_ws RX2 TX2 14, w ∈ wsX20 := by decide +kernel
theorem k_KX {s : State} {sb : Nat} (hts : ∀ w ∈ lw_tbl, w.before #[Value.ref sb] s = true) (hgv : (Jvm.Cond.and given_1 narrow_1).before #[Value.ref sb] s = true) :
    ∃ (D : va_G) (cI cJ cZ cG : ClassId), KX D cI cJ cZ cG s.heap.size s.heap s ∧ va_AO RX0 s := by
  have hf := flat_of_before _ hgv
  obtain ⟨c0, i0, h0⟩ := u_known (C := RX0) (T := TX0) (N := 11) (n := 11) hts (fun w h => inX0 w (kk_w0 w h)) (hts (.instantiable RX0 11) (by decide +kernel))
  obtain ⟨c1, i1, h1⟩ := u_known (C := RX1) (T := TX1) (N := 1) (n := 1) hts (fun w h => inX1 w (kk_w1 w h)) (hts (.instantiable RX1 1) (by decide +kernel))
  obtain ⟨c2, i2, h2⟩ := u_known (C := RX2) (T := TX2) (N := 14) (n := 14) hts (fun w h => inX2 w (kk_w2 w h)) (hts (.instantiable RX2 14) (by decide +kernel))
  obtain ⟨cI, kI, qI, eI1, eI2, eI3⟩ := Cond.arrayClass_spec (hts (.arrayClass .int) (by decide +kernel))
  obtain ⟨cJ, kJ, qJ, eJ1, eJ2, eJ3⟩ := Cond.arrayClass_spec (hts (.arrayClass .long) (by decide +kernel))
  obtain ⟨cZ, kZ, qZ, eZ1, eZ2, eZ3⟩ := Cond.arrayClass_spec (hts (.arrayClass .boolean) (by decide +kernel))
  have hao := hts (.arrayOver (.object RX0)) (by decide +kernel)
  obtain ⟨qG, cG, kG, f1, f2, f3, f4, f5⟩ := Cond.arrayOver_spec hao
  refine ⟨(fun k => if k = 0 then c0 else if k = 1 then c1 else c2, fun k => if k = 0 then i0 else if k = 1 then i1 else i2), cI, cJ, cZ, cG, ⟨⟨⟨⟨?_, ?_⟩, fun w hw => va_Nw.of (kk_on w hw) (hts w (kk_in w hw))⟩, ?_, ?_, ?_⟩, ?_, ?_, ?_⟩, va_AO.of hao⟩
  · intro k q hq
    match k, hq with
    | 0, hq => cases hq; exact h0
    | 1, hq => cases hq; exact h1
    | 2, hq => cases hq; exact h2
    | k + 3, hq => simp [vwCl] at hq
  · intro k q hq
    match k, hq with
    | 0, hq => cases hq; exact ⟨fun n z => ⟨fun k h => (by cases h), kI, eI2, qI, eI3⟩, eI1⟩
    | 1, hq => cases hq; exact ⟨fun n z => ⟨fun k h => (by cases h), kJ, eJ2, qJ, eJ3⟩, eJ1⟩
    | 2, hq => cases hq; exact ⟨fun n z => ⟨fun k h => (by cases h), kZ, eZ2, qZ, eZ3⟩, eZ1⟩
    | 3, hq => cases hq; exact ⟨fun n z => ⟨fun k h => (by cases h), kG, f3, qG, f4⟩, kG, qG, f3, f4, f1, f5⟩
    | k + 4, hq => simp [tys0] at hq
  · intro q hq
    obtain ⟨sa, _, _, _, hsa, _⟩ := Cond.exactly_spec (hf _ (kk_exa q hq))
    exact ⟨sa, vk_R.of (hts _ (kk_str q hq)) hsa⟩
  · exact vx_Zqof (hts (.laysStatic Bundle.tN "UNASSIGNED_STACK" Bundle.steD) (by decide +kernel)) (hts (.initialized Bundle.tN) (by decide +kernel)) (hf (.isRef (.static Bundle.tN "UNASSIGNED_STACK" Bundle.steD)) (by decide +kernel)) (fun a ha h => absurd ha (Nat.not_lt.mpr h))
  · exact vx_Zqof (hts (.laysStatic Bundle.tN "SUPPRESSED_SENTINEL" Bundle.listD) (by decide +kernel)) (hts (.initialized Bundle.tN) (by decide +kernel)) (hf (.isRef (.static Bundle.tN "SUPPRESSED_SENTINEL" Bundle.listD)) (by decide +kernel)) (fun a ha h => absurd ha (Nat.not_lt.mpr h))
  · exact va_Nc.of (hf (.not (.castable xA xN)) (by decide +kernel))
  · exact va_Nc.of (hf (.not (.castable xS xN)) (by decide +kernel))
  · exact va_Nc.of (hf (.not (.castable xS xA)) (by decide +kernel))
theorem perm3 {α : Type} (M B : List α) (c : α) : ((M ++ B) ++ [c]).Perm (([c] ++ B) ++ M) := by
  refine List.perm_append_comm.trans ?_
  rw [List.append_assoc]
  exact List.perm_append_comm.append_left [c]
set_option maxHeartbeats 4000000 in
set_option maxRecDepth 100000 in
theorem law_start {Sim : (Nat → Option GS) → MS → Prop} (hSim : SimOK Sim) {p : Program} {e : Env} {s : State} {m : MethodId} {below : List Frame} {meth : Method} {c : Code} (l : Launch) (hst : l.stackTraces = false) {sb L : Nat} {xs : Nat → Int32} (hL : L ≤ 2560) (C0 : lw_At p s m meth c sb L xs) : W p l e room_1 s m #[Value.ref sb] below meth c s.heap [] 0 0 (lw_Z below #[Value.ref sb] s) (entryFrame m ([Value.ref sb] : List Value).toArray 8) := by
  obtain ⟨hx, hb, hr, hml, hown, hts0, hX, hsb, hlocks, hgv⟩ := id C0
  have hts : ∀ w ∈ wsL_law, w.before #[Value.ref sb] s = true := fun w h => hts0 w (wsL_law_in w h)
  obtain ⟨D, cI, cJ, cZ, cG, hKX, hAO⟩ := k_KX hts0 hgv
  have hKW := hKX.1.1
  have hK := hKW.1
  have hA : ∀ q : Nat, s.heap.size ≤ q → (fun q : Nat => s.heap.size ≤ q) q := fun _ h => h
  have hS : va_S (fun q : Nat => s.heap.size ≤ q) s.heap s.heap [] := va_S.rf
  have hP : va_P D vwCl [] s.heap := fun k q h => by simp at h
  have hD : va_D (fun q : Nat => s.heap.size ≤ q) [] := ⟨fun i j p q h => by simp at h, fun k q h => by simp at h⟩
  have hl := lv_entry ([.ref sb]) (n := 8) (Nat.le_of_ble_eq_true rfl)
  rw [lg_entry_eq]
  generalize (lg_sl ([.ref sb]) ++ List.replicate (8 - (lg_sl ([.ref sb])).length) Slot.unset).toArray = ls at hl ⊢
  have hl : lv_has ls 8 [(0, .ref sb)] := hl
  refine va_new (ci := 1) (fs := [.null]) (C := RX1) (T := TX1) (N := 1) hx hb hts (fun w h => inlX1 w (kk_w1 w h)) tyX1 tyX1_ok hown (hts (.classLink RL 8 RX1) (by decide +kernel)) (hts (.instantiable RX1 1) (by decide +kernel)) (hts (.initialized RX1) (by decide +kernel)) hK hP hD hS hA rfl (fun j hj => by rcases (show j = 0 by omega) with rfl; rfl) (Nat.le_of_ble_eq_true rfl) (Nat.le_of_ble_eq_true rfl) dL_law_0 (fun b H hP hD hS => ?_)
  have hP : va_P D vwCl ([(b, .inr (1, [.null]))] ++ []) H := hP
  have hD : va_D (fun q : Nat => s.heap.size ≤ q) ([(b, .inr (1, [.null]))] ++ []) := hD
  refine lv_dup hx hb dL_law_3 rfl ?_
  refine wr_I (A := fun q : Nat => s.heap.size ≤ q) (As := []) (rest := [.ref b]) (Rw := []) ⟨hx, hb, hml, hown, hts⟩ (c_X1_init l H D cI cJ cZ cG b hP (hD.weaken (fun _ _ _ _ => trivial))) (KA_puK D cI cJ cZ cG) ⟨hKW, hAO⟩ (cwI 0 hts gL_law_X1_init rfl rfl rfl (hts (.initialized RX1) (by decide +kernel)) (hts (.methodLink RL 67 yX1_init) (by decide +kernel)) (hts (.instanceMethod yX1_init) (by decide +kernel)) rfl (by decide +kernel) ⟨Nat.le_of_ble_eq_true rfl, Nat.le_of_ble_eq_true rfl⟩) rfl hl.1 rfl (Nat.le_of_ble_eq_true rfl) dL_law_4 ⟨Nat.le_of_ble_eq_true rfl, Nat.le_of_ble_eq_true rfl⟩ hP hD hS hA (fun w1 H locs hw hP hD hS => ?_)
  obtain ⟨P, rfl⟩ := hw
  rw [List.append_nil] at hP hD
  refine W.eq (g2 := F0 m 7 ls [.ref b]) rfl ?_
  refine lv_astore_n (lv' := [(1, .ref b), (0, .ref sb)]) hx hb dL_law_7 rfl hl (by decide) rfl (fun ls hl => ?_)
  refine va_new (ci := 2) (fs := [.int 0, .null, .null, .null, .null, .null, .null, .null, .null, .null, .null, .null, .null, .null]) (C := RX2) (T := TX2) (N := 14) hx hb hts (fun w h => inlX2 w (kk_w2 w h)) tyX2 tyX2_ok hown (hts (.classLink RL 68 RX2) (by decide +kernel)) (hts (.instantiable RX2 14) (by decide +kernel)) (hts (.initialized RX2) (by decide +kernel)) hK hP hD hS hA rfl (fun j hj => by rcases (show j = 0 ∨ j = 1 ∨ j = 2 ∨ j = 3 ∨ j = 4 ∨ j = 5 ∨ j = 6 ∨ j = 7 ∨ j = 8 ∨ j = 9 ∨ j = 10 ∨ j = 11 ∨ j = 12 ∨ j = 13 by omega) with rfl | rfl | rfl | rfl | rfl | rfl | rfl | rfl | rfl | rfl | rfl | rfl | rfl | rfl <;> rfl) (Nat.le_of_ble_eq_true rfl) (Nat.le_of_ble_eq_true rfl) dL_law_8 (fun m0 H hP hD hS => ?_)
  have hP := wd_P.perm hP List.perm_append_comm
  have hD := wd_D.perm hD List.perm_append_comm
  refine lv_dup hx hb dL_law_11 rfl ?_
  refine wr_I (A := fun q : Nat => s.heap.size ≤ q) (As := []) (rest := [.ref m0]) (Rw := BW cI cJ cG b P (fun _ => (0, 0, 0, 0)) (fun _ => none)) ⟨hx, hb, hml, hown, hts⟩ (c_X2_init l H D cI cJ cZ cG m0 (wd_P.part hP (fun _ h => List.mem_append_left _ h)) (wd_D.left (hD.weaken (fun _ _ _ _ => trivial)))) (KW_puK D cI cJ cZ cG) hKW (cwI 0 hts gL_law_X2_init rfl rfl rfl (hts (.initialized RX2) (by decide +kernel)) (hts (.methodLink RL 70 yX2_init) (by decide +kernel)) (hts (.instanceMethod yX2_init) (by decide +kernel)) rfl (by decide +kernel) ⟨Nat.le_of_ble_eq_true rfl, Nat.le_of_ble_eq_true rfl⟩) rfl hl.1 rfl (Nat.le_of_ble_eq_true rfl) dL_law_12 ⟨Nat.le_of_ble_eq_true rfl, Nat.le_of_ble_eq_true rfl⟩ hP hD hS hA (fun w1 H locs hw hP hD hS => ?_)
  obtain ⟨a, rfl⟩ := hw
  refine W.eq (g2 := F0 m 15 ls [.ref m0]) rfl ?_
  refine lv_astore_n (lv' := [(2, .ref m0), (1, .ref b), (0, .ref sb)]) hx hb dL_law_15 rfl hl (by decide) rfl (fun ls hl => ?_)
  refine lv_iconst (v := 1) hx hb dL_law_16 (by decide) ?_
  refine va_newa (atype := .long) (ty := .long) (n := 1) (N' := 1) (a0 := (1, .inr (.inl (fun _ => 0)))) hx hb (hts (.arrayClass .long) (by decide +kernel)) rfl hK hP hD hS hA (fun _ => rfl) (by decide) (by decide) (Nat.le_of_ble_eq_true rfl) (Nat.le_of_ble_eq_true rfl) (Nat.le_of_ble_eq_true rfl) dL_law_17 (fun o cA H hKq hP hD hS => ?_)
  rw [arr_id hKq 1 rfl] at hP hD
  have hP := wd_P.perm hP (perm3 _ _ _)
  have hD := wd_D.perm hD (perm3 _ _ _)
  refine lv_astore_n (lv' := [(3, .ref o), (2, .ref m0), (1, .ref b), (0, .ref sb)]) hx hb dL_law_19 rfl hl (by decide) rfl (fun ls hl => ?_)
  refine lv_iconst (v := 0) hx hb dL_law_20 (by decide) ?_
  refine lv_istore (lv' := [(4, .int 0), (3, .ref o), (2, .ref m0), (1, .ref b), (0, .ref sb)]) hx hb dL_law_21 hl (by decide) rfl (fun ls hl => ?_)
  exact k_loop hx hb hml hown hts hX hsb hst hL hKX hSim hr hlocks 513 0 _ _ H locs (fun _ => (0, 0, 0, 0)) (fun _ => none) (fun _ => 0) x0 ls (Nat.zero_le _) (by omega) (by omega) (by omega) hP hD hS hSim.1 (lv_sub hl [4, 3, 2, 1, 0] rfl)
