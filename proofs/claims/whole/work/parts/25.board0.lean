/-! the board by its places -/
def oe {β : Type} (o : Option GS) (a : β) (f : GS → β) : β := match o with
  | none => a
  | some x => f x
theorem oe_none {β : Type} {o : Option GS} {a : β} {f : GS → β} (h : o = none) : oe o a f = a := by rw [h]; rfl
theorem oe_some {β : Type} {o : Option GS} {a : β} {f : GS → β} {x : GS} (h : o = some x) : oe o a f = f x := by rw [h]; rfl
/-- the gauge at a place, if there is such a place -/
def gat (st : Nat → Option GS) (g : Int32) : Option GS := if f_X1_isPlace g = 0 then none else st g.toNatClampNeg
theorem pl_of {ad : Nat → ga} {st : Nat → Option GS} {i : Nat} {y : GS} (hi : i < 2 ^ 31) (h : st i = some y) : va_rf (pl ad st (nI i).toNatClampNeg) = .ref (ad i).1 := by
  rw [nI_clamp hi]
  show va_rf ((st i).map _) = _
  rw [h]
  rfl
theorem pl_no {ad : Nat → ga} {st : Nat → Option GS} {i : Nat} (hi : i < 2 ^ 31) (h : st i = none) : va_rf (pl ad st (nI i).toNatClampNeg) = .null := by
  rw [nI_clamp hi]
  show va_rf ((st i).map _) = _
  rw [h]
  rfl
theorem pl_gn {ad : Nat → ga} {st : Nat → Option GS} {g : Int32} (h : gat st g = none) (hp : ¬ f_X1_isPlace g = 0) : va_rf (pl ad st g.toNatClampNeg) = .null := by
  unfold gat at h
  rw [if_neg hp] at h
  show va_rf ((st g.toNatClampNeg).map _) = _
  rw [h]
  rfl
theorem place_in {g : Int32} (h : ¬ f_X1_isPlace g = 0) : vp_in g 12 := by
  unfold f_X1_isPlace at h
  by_cases h1 : g < 0
  · rw [if_pos h1] at h
    exact absurd rfl h
  · by_cases h2 : (12 : Int32) ≤ g
    · rw [if_neg h1, if_pos h2] at h
      exact absurd rfl h
    · exact in12 h1 h2
theorem place_of {g : Int32} (h : vp_in g 12) : f_X1_isPlace g = 1 := by
  obtain ⟨j, hj, rfl⟩ := vp_in_of h (by decide)
  unfold f_X1_isPlace
  rw [if_neg (nI_pos (by omega)), if_neg (by show ¬ nI 12 ≤ nI j; rw [nI_leI (by omega) (by omega)]; omega)]
theorem place_nI {j : Nat} (h : j < 12) : ¬ f_X1_isPlace (nI j) = 0 := by
  rw [place_of (vp_in_nI h (by decide))]
  decide
theorem gat_nI {st : Nat → Option GS} {j : Nat} (h : j < 12) : gat st (nI j) = st j := by
  unfold gat
  rw [if_neg (place_nI h), nI_clamp (by omega)]
theorem gat_some {st : Nat → Option GS} {g : Int32} {x : GS} (h : gat st g = some x) : ∃ j : Nat, j < 12 ∧ g = nI j ∧ st j = some x := by
  unfold gat at h
  by_cases hp : f_X1_isPlace g = 0
  · rw [if_pos hp] at h
    cases h
  · rw [if_neg hp] at h
    obtain ⟨j, hj, rfl⟩ := vp_in_of (place_in hp) (by decide)
    rw [nI_clamp (by omega)] at h
    exact ⟨j, hj, rfl, h⟩
/-- what the methods rest on -/
def BI (st : Nat → Option GS) : Prop := ∀ j : Nat, j < 12 → ∀ x : GS, st j = some x → vp_in (gC x) 9 ∧ (gM x = 0 ∨ gM x = 1)
theorem wd_gz {D : va_G} {cI cJ : ClassId} {q : ga} {x : GS} {Rw : va_W} {H : Heap} (h : va_P D vwCl (GZ cI cJ q x ++ Rw) H) : va_P D vwCl (GZ cI cJ q x) H := wd_P.part h (fun _ hq => List.mem_append_left _ hq)
def e_X1_needKind (a0 : Int32) : Int32 := (if a0 < 0 then 2 else (if a0 ≤ (3 : Int32) then 0 else 2))
set_option maxHeartbeats 4000000 in
set_option maxRecDepth 100000 in
theorem c_X1_needKind (l : Launch) (H0 : Heap) (a0 : Int32) (hok : e_X1_needKind a0 = 0) : pu l yX1_needKind wsX1_needKind ({ frames := 0, cells := 0, slots := 0, locals := 0 }) [Value.int a0] (fun _ => True) H0 (none) := by
  refine Met.ofW (cc := cX1_needKind) (maxL := 1) (ret := none) (by decide) rfl ?_
  intro p e s m args below meth c s₁ B hml hv
  obtain ⟨rfl, hH, hKW⟩ := hv
  have hx := B.exec
  have hb := B.bytes
  have hr := B.returns
  have hts := atoms_spec (ws := wsX1_needKind) B.pre
  have hown : s.vm.findClass RX1 = some m.cls := findClass_of_methodNamed B.named
  have hlocks := B.notSynchronized
  subst hH
  have hl := lv_entry ([Value.int a0]) (n := 1) (Nat.le_of_ble_eq_true rfl)
  rw [lg_entry_eq]
  generalize (lg_sl ([Value.int a0]) ++ List.replicate (1 - (lg_sl ([Value.int a0])).length) Slot.unset).toArray = ls at hl ⊢
  have hl : lv_has ls 1 [(0, .int a0)] := hl
  refine lv_iload_n hx hb dX1_needKind_0 rfl (lv_at hl 0 rfl) ?_
  refine lv_if_lt (tgt := 9) hx hb dX1_needKind_1 (by decide) (fun c_1 => ?_) (fun c_1 => ?_)
  · exact absurd hok (by unfold e_X1_needKind; rw [if_pos c_1]; decide)
  · refine lv_iload_n hx hb dX1_needKind_4 rfl (lv_at hl 0 rfl) ?_
    refine lv_iconst (v := 3) hx hb dX1_needKind_5 (by decide) ?_
    refine lv_icmp_le (tgt := 19) hx hb dX1_needKind_6 (by decide) (fun c_2 => ?_) (fun c_2 => ?_)
    · exact W.vret hx hb hr (fun t ht hW => ⟨rfl, ht⟩) (fun _ h => nomatch h) dX1_needKind_19
    · exact absurd hok (by unfold e_X1_needKind; rw [if_neg c_1, if_neg c_2]; decide)
set_option maxHeartbeats 4000000 in
set_option maxRecDepth 100000 in
theorem t_X1_needKind (l : Launch) (hst : l.stackTraces = false) (z : Nat) (H0 : Heap) (hz : z ≤ H0.size) (D : va_G) (cI cJ cZ cG : ClassId) (a0 : Int32) (hno : e_X1_needKind a0 = 2) : th l yX1_needKind wsX1_needKind ({ frames := 6, cells := 1, slots := 6, locals := 82 }) [Value.int a0] (KZ D cI cJ cZ cG z H0) H0 "java/lang/IllegalArgumentException" := by
  refine vx_ofW (cc := cX1_needKind) (maxL := 1) (ret := none) (by decide) rfl ?_
  intro p e s m args below meth c s₁ B hml hex hv
  obtain ⟨rfl, hH, hKZ⟩ := hv
  have hx := B.exec
  have hb := B.bytes
  have hr := B.returns
  have hts := atoms_spec (ws := wsX1_needKind) B.pre
  have hown : s.vm.findClass RX1 = some m.cls := findClass_of_methodNamed B.named
  have hlocks := B.notSynchronized
  subst hH
  have hKW := hKZ.1
  have hK := hKW.1
  have hl := lv_entry ([Value.int a0]) (n := 1) (Nat.le_of_ble_eq_true rfl)
  rw [lg_entry_eq]
  generalize (lg_sl ([Value.int a0]) ++ List.replicate (1 - (lg_sl ([Value.int a0])).length) Slot.unset).toArray = ls at hl ⊢
  have hl : lv_has ls 1 [(0, .int a0)] := hl
  refine lv_iload_n hx hb dX1_needKind_0 rfl (lv_at hl 0 rfl) ?_
  refine lv_if_lt (tgt := 9) hx hb dX1_needKind_1 (by decide) (fun c_1 => ?_) (fun c_1 => ?_)
  · exact thr_A (text := "there is no such kind") hx hb hst hown hts hKZ hz (List.mem_of_getElem? (i := 1) rfl) (by decide +kernel) (by decide +kernel) (fun w h9 => List.mem_cons_of_mem _ (List.mem_append_right _ h9)) (by rw [hml]; exact hl.1) dX1_needKind_9 dX1_needKind_12 dX1_needKind_13 dX1_needKind_15 dX1_needKind_18 hex (Nat.le_of_ble_eq_true rfl) (Nat.le_of_ble_eq_true rfl) (Nat.le_of_ble_eq_true rfl) (Nat.le_of_ble_eq_true rfl) hlocks
  · refine lv_iload_n hx hb dX1_needKind_4 rfl (lv_at hl 0 rfl) ?_
    refine lv_iconst (v := 3) hx hb dX1_needKind_5 (by decide) ?_
    refine lv_icmp_le (tgt := 19) hx hb dX1_needKind_6 (by decide) (fun c_2 => ?_) (fun c_2 => ?_)
    · exact absurd hno (by unfold e_X1_needKind; rw [if_neg c_1, if_pos c_2]; decide)
    · exact thr_A (text := "there is no such kind") hx hb hst hown hts hKZ hz (List.mem_of_getElem? (i := 1) rfl) (by decide +kernel) (by decide +kernel) (fun w h9 => List.mem_cons_of_mem _ (List.mem_append_right _ h9)) (by rw [hml]; exact hl.1) dX1_needKind_9 dX1_needKind_12 dX1_needKind_13 dX1_needKind_15 dX1_needKind_18 hex (Nat.le_of_ble_eq_true rfl) (Nat.le_of_ble_eq_true rfl) (Nat.le_of_ble_eq_true rfl) (Nat.le_of_ble_eq_true rfl) hlocks
def e_X1_needSort (a0 : Int32) (a1 : Int32) (a2 : Int32) : Int32 := (if a1 < 0 then 2 else (if a1 ≤ (f_X1_lastSort a0) then (if (f_X1_wantsOperand a1) = a2 then 0 else 2) else 2))
set_option maxHeartbeats 4000000 in
set_option maxRecDepth 100000 in
theorem c_X1_needSort (l : Launch) (H0 : Heap) (a0 : Int32) (a1 : Int32) (a2 : Int32) (hok : e_X1_needSort a0 a1 a2 = 0) : pu l yX1_needSort wsX1_needSort ({ frames := 1, cells := 0, slots := 0, locals := 20 }) [Value.int a0, Value.int a1, Value.int a2] (fun _ => True) H0 (none) := by
  refine Met.ofW (cc := cX1_needSort) (maxL := 3) (ret := none) (by decide) rfl ?_
  intro p e s m args below meth c s₁ B hml hv
  obtain ⟨rfl, hH, hKW⟩ := hv
  have hx := B.exec
  have hb := B.bytes
  have hr := B.returns
  have hts := atoms_spec (ws := wsX1_needSort) B.pre
  have hown : s.vm.findClass RX1 = some m.cls := findClass_of_methodNamed B.named
  have hlocks := B.notSynchronized
  subst hH
  have hl := lv_entry ([Value.int a0, Value.int a1, Value.int a2]) (n := 3) (Nat.le_of_ble_eq_true rfl)
  rw [lg_entry_eq]
  generalize (lg_sl ([Value.int a0, Value.int a1, Value.int a2]) ++ List.replicate (3 - (lg_sl ([Value.int a0, Value.int a1, Value.int a2])).length) Slot.unset).toArray = ls at hl ⊢
  have hl : lv_has ls 3 [(0, .int a0), (1, .int a1), (2, .int a2)] := hl
  refine lv_iload_n hx hb dX1_needSort_0 rfl (lv_at hl 1 rfl) ?_
  refine lv_if_lt (tgt := 12) hx hb dX1_needSort_1 (by decide) (fun c_1 => ?_) (fun c_1 => ?_)
  · exact absurd hok (by unfold e_X1_needSort; rw [if_pos c_1]; decide)
  · refine lv_iload_n hx hb dX1_needSort_4 rfl (lv_at hl 1 rfl) ?_
    refine lv_iload_n hx hb dX1_needSort_5 rfl (lv_at hl 0 rfl) ?_
    refine pu_S (As := [.int a0]) (rest := [.int a1]) ⟨hx, hb, hml, hown, hts⟩ (c_X1_lastSort l s.heap a0) puK_T trivial (va_cwS 1 hts gX1_needSort_X1_lastSort rfl rfl rfl (by decide +kernel) ⟨Nat.le_of_ble_eq_true rfl, Nat.le_of_ble_eq_true rfl⟩) rfl hl.1 rfl (Nat.le_of_ble_eq_true rfl) dX1_needSort_6 ⟨Nat.zero_le _, Nat.zero_le _⟩ ?_
    refine W.eq (g2 := F0 m 9 ls [.int (f_X1_lastSort a0), .int a1]) rfl ?_
    refine lv_icmp_le (tgt := 22) hx hb dX1_needSort_9 (by decide) (fun c_2 => ?_) (fun c_2 => ?_)
    · refine lv_iload_n hx hb dX1_needSort_22 rfl (lv_at hl 1 rfl) ?_
      refine pu_S (As := [.int a1]) (rest := []) ⟨hx, hb, hml, hown, hts⟩ (c_X1_wantsOperand l s.heap a1) puK_T trivial (va_cwS 1 hts gX1_needSort_X1_wantsOperand rfl rfl rfl (by decide +kernel) ⟨Nat.le_of_ble_eq_true rfl, Nat.le_of_ble_eq_true rfl⟩) rfl hl.1 rfl (Nat.le_of_ble_eq_true rfl) dX1_needSort_23 ⟨Nat.zero_le _, Nat.zero_le _⟩ ?_
      refine W.eq (g2 := F0 m 26 ls [.int (f_X1_wantsOperand a1)]) rfl ?_
      refine lv_iload_n hx hb dX1_needSort_26 rfl (lv_at hl 2 rfl) ?_
      refine lv_icmp_eq (tgt := 40) hx hb dX1_needSort_27 (by decide) (fun c_3 => ?_) (fun c_3 => ?_)
      · exact W.vret hx hb hr (fun t ht hW => ⟨rfl, ht⟩) (fun _ h => nomatch h) dX1_needSort_40
      · exact absurd hok (by unfold e_X1_needSort; rw [if_neg c_1, if_pos c_2, if_neg c_3]; decide)
    · exact absurd hok (by unfold e_X1_needSort; rw [if_neg c_1, if_neg c_2]; decide)
set_option maxHeartbeats 4000000 in
set_option maxRecDepth 100000 in
theorem t_X1_needSort (l : Launch) (hst : l.stackTraces = false) (z : Nat) (H0 : Heap) (hz : z ≤ H0.size) (D : va_G) (cI cJ cZ cG : ClassId) (a0 : Int32) (a1 : Int32) (a2 : Int32) (hno : e_X1_needSort a0 a1 a2 = 2) : th l yX1_needSort wsX1_needSort ({ frames := 6, cells := 1, slots := 6, locals := 82 }) [Value.int a0, Value.int a1, Value.int a2] (KZ D cI cJ cZ cG z H0) H0 "java/lang/IllegalArgumentException" := by
  refine vx_ofW (cc := cX1_needSort) (maxL := 3) (ret := none) (by decide) rfl ?_
  intro p e s m args below meth c s₁ B hml hex hv
  obtain ⟨rfl, hH, hKZ⟩ := hv
  have hx := B.exec
  have hb := B.bytes
  have hr := B.returns
  have hts := atoms_spec (ws := wsX1_needSort) B.pre
  have hown : s.vm.findClass RX1 = some m.cls := findClass_of_methodNamed B.named
  have hlocks := B.notSynchronized
  subst hH
  have hKW := hKZ.1
  have hK := hKW.1
  have hl := lv_entry ([Value.int a0, Value.int a1, Value.int a2]) (n := 3) (Nat.le_of_ble_eq_true rfl)
  rw [lg_entry_eq]
  generalize (lg_sl ([Value.int a0, Value.int a1, Value.int a2]) ++ List.replicate (3 - (lg_sl ([Value.int a0, Value.int a1, Value.int a2])).length) Slot.unset).toArray = ls at hl ⊢
  have hl : lv_has ls 3 [(0, .int a0), (1, .int a1), (2, .int a2)] := hl
  refine lv_iload_n hx hb dX1_needSort_0 rfl (lv_at hl 1 rfl) ?_
  refine lv_if_lt (tgt := 12) hx hb dX1_needSort_1 (by decide) (fun c_1 => ?_) (fun c_1 => ?_)
  · exact thr_A (text := "the gauge's kind has no such sort") hx hb hst hown hts hKZ hz (List.mem_of_getElem? (i := 4) rfl) (by decide +kernel) (by decide +kernel) (fun w h9 => List.mem_cons_of_mem _ (List.mem_append_right _ h9)) (by rw [hml]; exact hl.1) dX1_needSort_12 dX1_needSort_15 dX1_needSort_16 dX1_needSort_18 dX1_needSort_21 hex (Nat.le_of_ble_eq_true rfl) (Nat.le_of_ble_eq_true rfl) (Nat.le_of_ble_eq_true rfl) (Nat.le_of_ble_eq_true rfl) hlocks
  · refine lv_iload_n hx hb dX1_needSort_4 rfl (lv_at hl 1 rfl) ?_
    refine lv_iload_n hx hb dX1_needSort_5 rfl (lv_at hl 0 rfl) ?_
    refine pu_S (As := [.int a0]) (rest := [.int a1]) ⟨hx, hb, hml, hown, hts⟩ (c_X1_lastSort l s.heap a0) puK_T trivial (va_cwS 1 hts gX1_needSort_X1_lastSort rfl rfl rfl (by decide +kernel) ⟨Nat.le_of_ble_eq_true rfl, Nat.le_of_ble_eq_true rfl⟩) rfl hl.1 rfl (Nat.le_of_ble_eq_true rfl) dX1_needSort_6 ⟨Nat.zero_le _, Nat.zero_le _⟩ ?_
    refine W.eq (g2 := F0 m 9 ls [.int (f_X1_lastSort a0), .int a1]) rfl ?_
    refine lv_icmp_le (tgt := 22) hx hb dX1_needSort_9 (by decide) (fun c_2 => ?_) (fun c_2 => ?_)
    · refine lv_iload_n hx hb dX1_needSort_22 rfl (lv_at hl 1 rfl) ?_
      refine pu_S (As := [.int a1]) (rest := []) ⟨hx, hb, hml, hown, hts⟩ (c_X1_wantsOperand l s.heap a1) puK_T trivial (va_cwS 1 hts gX1_needSort_X1_wantsOperand rfl rfl rfl (by decide +kernel) ⟨Nat.le_of_ble_eq_true rfl, Nat.le_of_ble_eq_true rfl⟩) rfl hl.1 rfl (Nat.le_of_ble_eq_true rfl) dX1_needSort_23 ⟨Nat.zero_le _, Nat.zero_le _⟩ ?_
      refine W.eq (g2 := F0 m 26 ls [.int (f_X1_wantsOperand a1)]) rfl ?_
      refine lv_iload_n hx hb dX1_needSort_26 rfl (lv_at hl 2 rfl) ?_
      refine lv_icmp_eq (tgt := 40) hx hb dX1_needSort_27 (by decide) (fun c_3 => ?_) (fun c_3 => ?_)
      · exact absurd hno (by unfold e_X1_needSort; rw [if_neg c_1, if_pos c_2, if_pos c_3]; decide)
      · exact thr_A (text := "the sort wants an operand or wants none") hx hb hst hown hts hKZ hz (List.mem_of_getElem? (i := 5) rfl) (by decide +kernel) (by decide +kernel) (fun w h9 => List.mem_cons_of_mem _ (List.mem_append_right _ h9)) (by rw [hml]; exact hl.1) dX1_needSort_30 dX1_needSort_33 dX1_needSort_34 dX1_needSort_36 dX1_needSort_39 hex (Nat.le_of_ble_eq_true rfl) (Nat.le_of_ble_eq_true rfl) (Nat.le_of_ble_eq_true rfl) (Nat.le_of_ble_eq_true rfl) hlocks
    · exact thr_A (text := "the gauge's kind has no such sort") hx hb hst hown hts hKZ hz (List.mem_of_getElem? (i := 4) rfl) (by decide +kernel) (by decide +kernel) (fun w h9 => List.mem_cons_of_mem _ (List.mem_append_right _ h9)) (by rw [hml]; exact hl.1) dX1_needSort_12 dX1_needSort_15 dX1_needSort_16 dX1_needSort_18 dX1_needSort_21 hex (Nat.le_of_ble_eq_true rfl) (Nat.le_of_ble_eq_true rfl) (Nat.le_of_ble_eq_true rfl) (Nat.le_of_ble_eq_true rfl) hlocks
def e_X1_needGood (a0 : Int32) (a1 : Int64) : Int32 := (if (f_X1_isGood a0 a1) = 0 then 2 else 0)
set_option maxHeartbeats 4000000 in
set_option maxRecDepth 100000 in
theorem c_X1_needGood (l : Launch) (H0 : Heap) (a0 : Int32) (a1 : Int64) (hok : e_X1_needGood a0 a1 = 0) : pu l yX1_needGood wsX1_needGood ({ frames := 1, cells := 0, slots := 0, locals := 22 }) [Value.int a0, Value.long a1] (fun _ => True) H0 (none) := by
  refine Met.ofW (cc := cX1_needGood) (maxL := 3) (ret := none) (by decide) rfl ?_
  intro p e s m args below meth c s₁ B hml hv
  obtain ⟨rfl, hH, hKW⟩ := hv
  have hx := B.exec
  have hb := B.bytes
  have hr := B.returns
  have hts := atoms_spec (ws := wsX1_needGood) B.pre
  have hown : s.vm.findClass RX1 = some m.cls := findClass_of_methodNamed B.named
  have hlocks := B.notSynchronized
  subst hH
  have hl := lv_entry ([Value.int a0, Value.long a1]) (n := 3) (Nat.le_of_ble_eq_true rfl)
  rw [lg_entry_eq]
  generalize (lg_sl ([Value.int a0, Value.long a1]) ++ List.replicate (3 - (lg_sl ([Value.int a0, Value.long a1])).length) Slot.unset).toArray = ls at hl ⊢
  have hl : lv_has ls 3 [(0, .int a0), (1, .long a1)] := hl
  refine lv_iload_n hx hb dX1_needGood_0 rfl (lv_at hl 0 rfl) ?_
  refine lv_lload_n hx hb dX1_needGood_1 rfl (lv_at hl 1 rfl) ?_
  refine pu_S (As := [.int a0, .long a1]) (rest := []) ⟨hx, hb, hml, hown, hts⟩ (c_X1_isGood l s.heap a0 a1) puK_T trivial (va_cwS 2 hts gX1_needGood_X1_isGood rfl rfl rfl (by decide +kernel) ⟨Nat.le_of_ble_eq_true rfl, Nat.le_of_ble_eq_true rfl⟩) rfl hl.1 rfl (Nat.le_of_ble_eq_true rfl) dX1_needGood_2 ⟨Nat.zero_le _, Nat.zero_le _⟩ ?_
  refine W.eq (g2 := F0 m 5 ls [.int (f_X1_isGood a0 a1)]) rfl ?_
  refine lv_if_ne (tgt := 18) hx hb dX1_needGood_5 (by decide) (fun c_1 => ?_) (fun c_1 => ?_)
  · exact W.vret hx hb hr (fun t ht hW => ⟨rfl, ht⟩) (fun _ h => nomatch h) dX1_needGood_18
  · exact absurd hok (by unfold e_X1_needGood; rw [if_pos c_1]; decide)
set_option maxHeartbeats 4000000 in
set_option maxRecDepth 100000 in
theorem t_X1_needGood (l : Launch) (hst : l.stackTraces = false) (z : Nat) (H0 : Heap) (hz : z ≤ H0.size) (D : va_G) (cI cJ cZ cG : ClassId) (a0 : Int32) (a1 : Int64) (hno : e_X1_needGood a0 a1 = 2) : th l yX1_needGood wsX1_needGood ({ frames := 6, cells := 1, slots := 6, locals := 82 }) [Value.int a0, Value.long a1] (KZ D cI cJ cZ cG z H0) H0 "java/lang/IllegalArgumentException" := by
  refine vx_ofW (cc := cX1_needGood) (maxL := 3) (ret := none) (by decide) rfl ?_
  intro p e s m args below meth c s₁ B hml hex hv
  obtain ⟨rfl, hH, hKZ⟩ := hv
  have hx := B.exec
  have hb := B.bytes
  have hr := B.returns
  have hts := atoms_spec (ws := wsX1_needGood) B.pre
  have hown : s.vm.findClass RX1 = some m.cls := findClass_of_methodNamed B.named
  have hlocks := B.notSynchronized
  subst hH
  have hKW := hKZ.1
  have hK := hKW.1
  have hl := lv_entry ([Value.int a0, Value.long a1]) (n := 3) (Nat.le_of_ble_eq_true rfl)
  rw [lg_entry_eq]
  generalize (lg_sl ([Value.int a0, Value.long a1]) ++ List.replicate (3 - (lg_sl ([Value.int a0, Value.long a1])).length) Slot.unset).toArray = ls at hl ⊢
  have hl : lv_has ls 3 [(0, .int a0), (1, .long a1)] := hl
  refine lv_iload_n hx hb dX1_needGood_0 rfl (lv_at hl 0 rfl) ?_
  refine lv_lload_n hx hb dX1_needGood_1 rfl (lv_at hl 1 rfl) ?_
  refine pu_S (As := [.int a0, .long a1]) (rest := []) ⟨hx, hb, hml, hown, hts⟩ (c_X1_isGood l s.heap a0 a1) puK_T trivial (va_cwS 2 hts gX1_needGood_X1_isGood rfl rfl rfl (by decide +kernel) ⟨Nat.le_of_ble_eq_true rfl, Nat.le_of_ble_eq_true rfl⟩) rfl hl.1 rfl (Nat.le_of_ble_eq_true rfl) dX1_needGood_2 ⟨Nat.zero_le _, Nat.zero_le _⟩ ?_
  refine W.eq (g2 := F0 m 5 ls [.int (f_X1_isGood a0 a1)]) rfl ?_
  refine lv_if_ne (tgt := 18) hx hb dX1_needGood_5 (by decide) (fun c_1 => ?_) (fun c_1 => ?_)
  · exact absurd hno (by unfold e_X1_needGood; rw [if_neg c_1]; decide)
  · exact thr_A (text := "the bits are not good for the gauge's kind") hx hb hst hown hts hKZ hz (List.mem_of_getElem? (i := 7) rfl) (by decide +kernel) (by decide +kernel) (fun w h9 => List.mem_cons_of_mem _ (List.mem_append_right _ h9)) (by rw [hml]; exact hl.1) dX1_needGood_8 dX1_needGood_11 dX1_needGood_12 dX1_needGood_14 dX1_needGood_17 hex (Nat.le_of_ble_eq_true rfl) (Nat.le_of_ble_eq_true rfl) (Nat.le_of_ble_eq_true rfl) (Nat.le_of_ble_eq_true rfl) hlocks
set_option maxHeartbeats 4000000 in
set_option maxRecDepth 100000 in
theorem n_X1_gaugeAt (l : Launch) (H0 : Heap) (D : va_G) (cI cJ cZ cG : ClassId) (b P : Nat) (ad : Nat → ga) (st : Nat → Option GS) (b0 : Int32) (hn : gat st b0 = none) (hPB : va_P D vwCl (BW cI cJ cG b P ad st) H0) : pu l yX1_gaugeAt wsX1_gaugeAt ({ frames := 1, cells := 0, slots := 0, locals := 20 }) [Value.ref b, Value.int b0] (KW D cI cJ cZ cG) H0 (some .null) := by
  refine Met.ofW (cc := cX1_gaugeAt) (maxL := 2) (ret := (some (.object "GaugeBoard$Gauge"))) (by decide) rfl ?_
  intro p e s m args below meth c s₁ B hml hv
  obtain ⟨rfl, hH, hKW⟩ := hv
  have hx := B.exec
  have hb := B.bytes
  have hr := B.returns
  have hts := atoms_spec (ws := wsX1_gaugeAt) B.pre
  have hown : s.vm.findClass RX1 = some m.cls := findClass_of_methodNamed B.named
  have hlocks := B.notSynchronized
  subst hH
  have hK := hKW.1
  have hl := lv_entry ([Value.ref b, Value.int b0]) (n := 2) (Nat.le_of_ble_eq_true rfl)
  rw [lg_entry_eq]
  generalize (lg_sl ([Value.ref b, Value.int b0]) ++ List.replicate (2 - (lg_sl ([Value.ref b, Value.int b0])).length) Slot.unset).toArray = ls at hl ⊢
  have hl : lv_has ls 2 [(0, .ref b), (1, .int b0)] := hl
  have hinX1 : ∀ w ∈ u_ws RX1 TX1 1, w ∈ wsX1_gaugeAt := by decide +kernel
  have hB : va_P D vwCl [(b, .inr (1, [.ref P])), (P, .inl (cG, 12, .inr (.inr (.inr (.inr (pl ad st))))))] s.heap := BW_board hPB
  refine lv_iload_n hx hb dX1_gaugeAt_0 rfl (lv_at hl 1 rfl) ?_
  refine pu_S (As := [.int b0]) (rest := []) ⟨hx, hb, hml, hown, hts⟩ (c_X1_isPlace l s.heap b0) puK_T trivial (va_cwS 1 hts gX1_gaugeAt_X1_isPlace rfl rfl rfl (by decide +kernel) ⟨Nat.le_of_ble_eq_true rfl, Nat.le_of_ble_eq_true rfl⟩) rfl hl.1 rfl (Nat.le_of_ble_eq_true rfl) dX1_gaugeAt_1 ⟨Nat.zero_le _, Nat.zero_le _⟩ ?_
  refine W.eq (g2 := F0 m 4 ls [.int (f_X1_isPlace b0)]) rfl ?_
  refine lv_if_eq (tgt := 16) hx hb dX1_gaugeAt_4 (by decide) (fun c_1 => ?_) (fun c_1 => ?_)
  · refine lv_null hx hb dX1_gaugeAt_16 ?_
    exact W.aret (v := .null) hx hb hr (Or.inl ⟨_, rfl⟩) (Or.inl rfl) (fun t ht hW => ⟨rfl, ht⟩) (fun _ h => nomatch h) dX1_gaugeAt_17
  · refine lv_aload_n hx hb dX1_gaugeAt_7 rfl (lv_at hl 0 rfl) ?_
    refine va_get (D := D) (ci := 1) (v := .ref P) (C := RX1) (T := TX1) (N := 1) hx hb hts hinX1 hown hK hB 0 rfl rfl 0 (by decide) (hts (.fieldLink RX1 11 "GaugeBoard" "places" "[LGaugeBoard$Gauge;") (by decide +kernel)) (fun _ h9 => h9) rfl dX1_gaugeAt_8 ?_
    refine lv_iload_n hx hb dX1_gaugeAt_11 rfl (lv_at hl 1 rfl) ?_
    refine va_aldq hx hb hK hB 1 3 rfl rfl (place_in c_1) dX1_gaugeAt_12 ?_
    refine W.eq (g2 := F0 m 13 ls [.null]) (by rw [pl_gn hn c_1]) ?_
    refine lv_goto (tgt := 17) hx hb dX1_gaugeAt_13 (by decide) ?_
    exact W.aret (v := .null) hx hb hr (Or.inl ⟨_, rfl⟩) (Or.inl rfl) (fun t ht hW => ⟨rfl, ht⟩) (fun _ h => nomatch h) dX1_gaugeAt_17
set_option maxHeartbeats 4000000 in
set_option maxRecDepth 100000 in
theorem c_X1_gaugeAt (l : Launch) (H0 : Heap) (D : va_G) (cI cJ cZ cG : ClassId) (b P : Nat) (ad : Nat → ga) (st : Nat → Option GS) (j : Nat) (x : GS) (hj : j < 12) (hst1 : st j = some x) (hPB : va_P D vwCl (BW cI cJ cG b P ad st) H0) : pu l yX1_gaugeAt wsX1_gaugeAt ({ frames := 1, cells := 0, slots := 0, locals := 20 }) [Value.ref b, Value.int (nI j)] (KW D cI cJ cZ cG) H0 (some (.ref (ad j).1)) := by
  refine Met.ofW (cc := cX1_gaugeAt) (maxL := 2) (ret := (some (.object "GaugeBoard$Gauge"))) (by decide) rfl ?_
  intro p e s m args below meth c s₁ B hml hv
  obtain ⟨rfl, hH, hKW⟩ := hv
  have hx := B.exec
  have hb := B.bytes
  have hr := B.returns
  have hts := atoms_spec (ws := wsX1_gaugeAt) B.pre
  have hown : s.vm.findClass RX1 = some m.cls := findClass_of_methodNamed B.named
  have hlocks := B.notSynchronized
  subst hH
  have hK := hKW.1
  have hl := lv_entry ([Value.ref b, Value.int (nI j)]) (n := 2) (Nat.le_of_ble_eq_true rfl)
  rw [lg_entry_eq]
  generalize (lg_sl ([Value.ref b, Value.int (nI j)]) ++ List.replicate (2 - (lg_sl ([Value.ref b, Value.int (nI j)])).length) Slot.unset).toArray = ls at hl ⊢
  have hl : lv_has ls 2 [(0, .ref b), (1, .int (nI j))] := hl
  have hinX1 : ∀ w ∈ u_ws RX1 TX1 1, w ∈ wsX1_gaugeAt := by decide +kernel
  have hB : va_P D vwCl [(b, .inr (1, [.ref P])), (P, .inl (cG, 12, .inr (.inr (.inr (.inr (pl ad st))))))] s.heap := BW_board hPB
  have cp : ¬ (f_X1_isPlace (nI j)) = 0 := place_nI hj
  refine lv_iload_n hx hb dX1_gaugeAt_0 rfl (lv_at hl 1 rfl) ?_
  refine pu_S (As := [.int (nI j)]) (rest := []) ⟨hx, hb, hml, hown, hts⟩ (c_X1_isPlace l s.heap (nI j)) puK_T trivial (va_cwS 1 hts gX1_gaugeAt_X1_isPlace rfl rfl rfl (by decide +kernel) ⟨Nat.le_of_ble_eq_true rfl, Nat.le_of_ble_eq_true rfl⟩) rfl hl.1 rfl (Nat.le_of_ble_eq_true rfl) dX1_gaugeAt_1 ⟨Nat.zero_le _, Nat.zero_le _⟩ ?_
  refine W.eq (g2 := F0 m 4 ls [.int (f_X1_isPlace (nI j))]) rfl ?_
  refine lv_if_eq (tgt := 16) hx hb dX1_gaugeAt_4 (by decide) (fun z_9 => absurd z_9 cp) (fun z_9 => ?_)
  refine lv_aload_n hx hb dX1_gaugeAt_7 rfl (lv_at hl 0 rfl) ?_
  refine va_get (D := D) (ci := 1) (v := .ref P) (C := RX1) (T := TX1) (N := 1) hx hb hts hinX1 hown hK hB 0 rfl rfl 0 (by decide) (hts (.fieldLink RX1 11 "GaugeBoard" "places" "[LGaugeBoard$Gauge;") (by decide +kernel)) (fun _ h9 => h9) rfl dX1_gaugeAt_8 ?_
  refine lv_iload_n hx hb dX1_gaugeAt_11 rfl (lv_at hl 1 rfl) ?_
  refine va_aldq hx hb hK hB 1 3 rfl rfl (vp_in_nI hj (by decide)) dX1_gaugeAt_12 ?_
  refine W.eq (g2 := F0 m 13 ls [.ref ((ad j).1)]) (by rw [pl_of (by omega) hst1]) ?_
  refine lv_goto (tgt := 17) hx hb dX1_gaugeAt_13 (by decide) ?_
  exact W.aret (v := .ref ((ad j).1)) hx hb hr (Or.inl ⟨_, rfl⟩) (Or.inr ⟨_, rfl⟩) (fun t ht hW => ⟨rfl, ht⟩) (fun _ h => nomatch h) dX1_gaugeAt_17
set_option maxHeartbeats 4000000 in
set_option maxRecDepth 100000 in
theorem c_X1_needGauge (l : Launch) (H0 : Heap) (D : va_G) (cI cJ cZ cG : ClassId) (b P : Nat) (ad : Nat → ga) (st : Nat → Option GS) (j : Nat) (x : GS) (hj : j < 12) (hst1 : st j = some x) (hPB : va_P D vwCl (BW cI cJ cG b P ad st) H0) : pu l yX1_needGauge wsX1_needGauge ({ frames := 2, cells := 0, slots := 0, locals := 41 }) [Value.ref b, Value.int (nI j)] (KW D cI cJ cZ cG) H0 (some (.ref (ad j).1)) := by
  refine Met.ofW (cc := cX1_needGauge) (maxL := 3) (ret := (some (.object "GaugeBoard$Gauge"))) (by decide) rfl ?_
  intro p e s m args below meth c s₁ B hml hv
  obtain ⟨rfl, hH, hKW⟩ := hv
  have hx := B.exec
  have hb := B.bytes
  have hr := B.returns
  have hts := atoms_spec (ws := wsX1_needGauge) B.pre
  have hown : s.vm.findClass RX1 = some m.cls := findClass_of_methodNamed B.named
  have hlocks := B.notSynchronized
  subst hH
  have hK := hKW.1
  have hl := lv_entry ([Value.ref b, Value.int (nI j)]) (n := 3) (Nat.le_of_ble_eq_true rfl)
  rw [lg_entry_eq]
  generalize (lg_sl ([Value.ref b, Value.int (nI j)]) ++ List.replicate (3 - (lg_sl ([Value.ref b, Value.int (nI j)])).length) Slot.unset).toArray = ls at hl ⊢
  have hl : lv_has ls 3 [(0, .ref b), (1, .int (nI j))] := hl
  have hB : va_P D vwCl [(b, .inr (1, [.ref P])), (P, .inl (cG, 12, .inr (.inr (.inr (.inr (pl ad st))))))] s.heap := BW_board hPB
  refine lv_aload_n hx hb dX1_needGauge_0 rfl (lv_at hl 0 rfl) ?_
  refine lv_iload_n hx hb dX1_needGauge_1 rfl (lv_at hl 1 rfl) ?_
  refine pu_V (As := [.int (nI j)]) (rest := []) ⟨hx, hb, hml, hown, hts⟩ (c_X1_gaugeAt l s.heap D cI cJ cZ cG b P ad st j x hj hst1 hPB) (KW_puK D cI cJ cZ cG) hKW (cwV 1 hts gX1_needGauge_X1_gaugeAt rfl rfl rfl (by decide +kernel) ⟨Nat.le_of_ble_eq_true rfl, Nat.le_of_ble_eq_true rfl⟩) (va_recv hK hB (ci := 1) (q0 := 0) rfl rfl) rfl hl.1 rfl (Nat.le_of_ble_eq_true rfl) dX1_needGauge_2 ⟨Nat.zero_le _, Nat.zero_le _⟩ ?_
  refine W.eq (g2 := F0 m 5 ls [.ref ((ad j).1)]) rfl ?_
  refine lv_astore_n (lv' := [(2, .ref ((ad j).1)), (0, .ref b), (1, .int (nI j))]) hx hb dX1_needGauge_5 rfl hl (by decide) rfl (fun ls hl => ?_)
  refine lv_aload_n hx hb dX1_needGauge_6 rfl (lv_at hl 0 rfl) ?_
  refine lv_ifnonnull (tgt := 20) hx hb dX1_needGauge_7 (by decide) ?_
  refine lv_aload_n hx hb dX1_needGauge_20 rfl (lv_at hl 0 rfl) ?_
  exact W.aret (v := .ref ((ad j).1)) hx hb hr (Or.inl ⟨_, rfl⟩) (Or.inr ⟨_, rfl⟩) (fun t ht hW => ⟨rfl, ht⟩) (fun _ h => nomatch h) dX1_needGauge_21
set_option maxHeartbeats 4000000 in
set_option maxRecDepth 100000 in
theorem t_X1_needGauge (l : Launch) (hst : l.stackTraces = false) (z : Nat) (H0 : Heap) (hz : z ≤ H0.size) (D : va_G) (cI cJ cZ cG : ClassId) (b P : Nat) (ad : Nat → ga) (st : Nat → Option GS) (b0 : Int32) (hn : gat st b0 = none) (hPB : va_P D vwCl (BW cI cJ cG b P ad st) H0) : th l yX1_needGauge wsX1_needGauge ({ frames := 6, cells := 1, slots := 6, locals := 82 }) [Value.ref b, Value.int b0] (KZ D cI cJ cZ cG z H0) H0 "java/util/NoSuchElementException" := by
  refine vx_ofW (cc := cX1_needGauge) (maxL := 3) (ret := (some (.object "GaugeBoard$Gauge"))) (by decide) rfl ?_
  intro p e s m args below meth c s₁ B hml hex hv
  obtain ⟨rfl, hH, hKZ⟩ := hv
  have hx := B.exec
  have hb := B.bytes
  have hr := B.returns
  have hts := atoms_spec (ws := wsX1_needGauge) B.pre
  have hown : s.vm.findClass RX1 = some m.cls := findClass_of_methodNamed B.named
  have hlocks := B.notSynchronized
  subst hH
  have hKW := hKZ.1
  have hK := hKW.1
  have hl := lv_entry ([Value.ref b, Value.int b0]) (n := 3) (Nat.le_of_ble_eq_true rfl)
  rw [lg_entry_eq]
  generalize (lg_sl ([Value.ref b, Value.int b0]) ++ List.replicate (3 - (lg_sl ([Value.ref b, Value.int b0])).length) Slot.unset).toArray = ls at hl ⊢
  have hl : lv_has ls 3 [(0, .ref b), (1, .int b0)] := hl
  have hB : va_P D vwCl [(b, .inr (1, [.ref P])), (P, .inl (cG, 12, .inr (.inr (.inr (.inr (pl ad st))))))] s.heap := BW_board hPB
  refine lv_aload_n hx hb dX1_needGauge_0 rfl (lv_at hl 0 rfl) ?_
  refine lv_iload_n hx hb dX1_needGauge_1 rfl (lv_at hl 1 rfl) ?_
  refine pu_V (As := [.int b0]) (rest := []) ⟨hx, hb, hml, hown, hts⟩ (n_X1_gaugeAt l s.heap D cI cJ cZ cG b P ad st b0 hn hPB) (KW_puK D cI cJ cZ cG) hKW (cwV 1 hts gX1_needGauge_X1_gaugeAt rfl rfl rfl (by decide +kernel) ⟨Nat.le_of_ble_eq_true rfl, Nat.le_of_ble_eq_true rfl⟩) (va_recv hK hB (ci := 1) (q0 := 0) rfl rfl) rfl hl.1 rfl (Nat.le_of_ble_eq_true rfl) dX1_needGauge_2 ⟨Nat.zero_le _, Nat.zero_le _⟩ ?_
  refine W.eq (g2 := F0 m 5 ls [.null]) rfl ?_
  refine lv_astore_nN (lv' := [(2, .null), (0, .ref b), (1, .int b0)]) hx hb dX1_needGauge_5 rfl hl (by decide) rfl (fun ls hl => ?_)
  refine lv_aload_nN hx hb dX1_needGauge_6 rfl (lv_at hl 0 rfl) ?_
  refine lv_ifnonnullN hx hb dX1_needGauge_7 ?_
  exact thr_N (text := "the gauge is not there") hx hb hst hown hts hKZ hz (List.mem_of_getElem? (i := 3) rfl) (by decide +kernel) (by decide +kernel) (fun w h9 => List.mem_cons_of_mem _ (List.mem_append_right _ h9)) (by rw [hml]; exact hl.1) dX1_needGauge_10 dX1_needGauge_13 dX1_needGauge_14 dX1_needGauge_16 dX1_needGauge_19 hex (Nat.le_of_ble_eq_true rfl) (Nat.le_of_ble_eq_true rfl) (Nat.le_of_ble_eq_true rfl) (Nat.le_of_ble_eq_true rfl) hlocks
set_option maxHeartbeats 4000000 in
set_option maxRecDepth 100000 in
theorem t_X0_addStep (l : Launch) (hst : l.stackTraces = false) (z : Nat) (H0 : Heap) (hz : z ≤ H0.size) (D : va_G) (cI cJ cZ cG : ClassId) (q : ga) (x : GS) (b0 b1 : Int32) (b2 : Int64) (hno : ¬ (gC x) < (8 : Int32)) (hP : va_P D vwCl (GZ cI cJ q x) H0) : th l yX0_addStep wsX0_addStep ({ frames := 6, cells := 1, slots := 6, locals := 82 }) [Value.ref q.1, Value.int b0, Value.int b1, Value.long b2] (KZ D cI cJ cZ cG z H0) H0 "java/lang/IllegalStateException" := by
  refine vx_ofW (cc := cX0_addStep) (maxL := 5) (ret := (some .int)) (by decide) rfl ?_
  intro p e s m args below meth c s₁ B hml hex hv
  obtain ⟨rfl, hH, hKZ⟩ := hv
  have hx := B.exec
  have hb := B.bytes
  have hr := B.returns
  have hts := atoms_spec (ws := wsX0_addStep) B.pre
  have hown : s.vm.findClass RX0 = some m.cls := findClass_of_methodNamed B.named
  have hlocks := B.notSynchronized
  subst hH
  have hKW := hKZ.1
  have hK := hKW.1
  have hl := lv_entry ([Value.ref q.1, Value.int b0, Value.int b1, Value.long b2]) (n := 5) (Nat.le_of_ble_eq_true rfl)
  rw [lg_entry_eq]
  generalize (lg_sl ([Value.ref q.1, Value.int b0, Value.int b1, Value.long b2]) ++ List.replicate (5 - (lg_sl ([Value.ref q.1, Value.int b0, Value.int b1, Value.long b2])).length) Slot.unset).toArray = ls at hl ⊢
  have hl : lv_has ls 5 [(0, .ref q.1), (1, .int b0), (2, .int b1), (3, .long b2)] := hl
  have hinX0 : ∀ w ∈ u_ws RX0 TX0 11, w ∈ wsX0_addStep := by decide +kernel
  have hg : va_P D vwCl [(q.1, .inr (0, [.ref q.2.1, .ref q.2.2.1, .ref q.2.2.2, .int (gK x), .int (gC x), .long (gV x), .int (gM x), .long (gH x), .long (gL x), .int (gR x), .int (gW x)])), (q.2.1, .inl (cI, 8, .inl (gSo x))), (q.2.2.1, .inl (cI, 8, .inl (gSr x))), (q.2.2.2, .inl (cJ, 8, .inr (.inl (gOp x))))] s.heap := hP
  refine lv_aload_n hx hb dX0_addStep_0 rfl (lv_at hl 0 rfl) ?_
  refine va_get (D := D) (ci := 0) (v := .int (gC x)) (C := RX0) (T := TX0) (N := 11) hx hb hts hinX0 hown hK hg 0 rfl rfl 4 (by decide) (hts (.fieldLink RX0 26 "GaugeBoard$Gauge" "stepCount" "I") (by decide +kernel)) (fun _ h9 => h9) rfl dX0_addStep_1 ?_
  refine lv_bipush (v := 8) hx hb dX0_addStep_4 (by decide) ?_
  refine lv_icmp_lt (tgt := 19) hx hb dX0_addStep_6 (by decide) (fun z_9 => absurd z_9 hno) (fun z_9 => ?_)
  exact thr_G (text := "there are eight steps") hx hb hst hown hts hKZ hz (List.mem_of_getElem? (i := 6) rfl) (by decide +kernel) (by decide +kernel) (fun w h9 => List.mem_cons_of_mem _ (List.mem_append_right _ h9)) (by rw [hml]; exact hl.1) dX0_addStep_9 dX0_addStep_12 dX0_addStep_13 dX0_addStep_15 dX0_addStep_18 hex (Nat.le_of_ble_eq_true rfl) (Nat.le_of_ble_eq_true rfl) (Nat.le_of_ble_eq_true rfl) (Nat.le_of_ble_eq_true rfl) hlocks
