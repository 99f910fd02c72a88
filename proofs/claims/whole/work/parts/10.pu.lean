/-! a method that only reads: from a heap H0 it answers v and leaves the heap as it is, nothing made, nothing written -/
def puK (K : State → Prop) : Prop := ∀ U V : State, U.WarmedH V.vm → K U → K V
theorem puK_T : puK (fun _ => True) := fun _ _ _ _ => trivial
def pu (l : Launch) (y : MethodName) (ws : List Cond) (rm : Room) (As : List Value) (K : State → Prop) (H0 : Heap) (v : Option Value) : Prop :=
  Met l y ws rm (va_Pc As (fun U => U.heap = H0 ∧ K U)) (fun _ _ o t => o = .returned v ∧ t.heap = H0) 0 0 (fun _ => False)
section PU
variable {p : Program} {l : Launch} {e : Env} {R : Room} {s : State} {m : MethodId} {args : Array Value} {below : List Frame} {meth : Method} {c : Code} {H : Heap} {locs : List Loc} {cells slots : Nat} {Q : State → Prop}
variable {y : MethodName} {bytes cc : ByteArray} {maxL nL n index pc : Nat} {ret : Option FieldType} {ws : List Cond} {rm : Room} {K : State → Prop} {Ts : List Cond} {own C host : String} {b : Addr} {As rest st0 : List Value} {ls : Array Slot} {v : Option Value}
theorem pu_blind (hw : puK K) {H0 : Heap} {As : List Value} : FrameBlind (va_Pc As (fun U => U.heap = H0 ∧ K U)) := fun a U g mk q => ⟨q.1, q.2.1, hw U (U.calling g mk a) (State.WarmedH.refl U) q.2.2⟩
theorem pu_go (hr : va_Run p l e R s m args below meth c H locs cells slots 0 0 (F0 m pc ls st0) rest (fun _ o t => o = .returned v ∧ t.heap = H) (fun _ => False))
    (kk : W p l e R s m args below meth c H locs cells slots Q (F0 m (pc + 3) ls (v.toList ++ rest))) : W p l e R s m args below meth c H locs cells slots Q (F0 m pc ls st0) := by
  intro T hT X
  obtain ⟨v', st', t, T', L, h0, X', hL, e1, e2, ⟨hv, ht⟩, st⟩ := hr T hT X
  cases hv
  have hLn : L = [] := by
    cases L with
    | nil => rfl
    | cons q r => exact (hL q List.mem_cons_self).elim
  subst hLn
  rw [List.append_nil] at X'
  obtain ⟨t2, a1, b1⟩ := kk T' (e1.trans ht) X'
  exact ⟨t2, st t2 a1, b1⟩
/-- a static call -/
theorem pu_S (S : CallFix p m c cc nL s args Ts own) (hM : pu l y ws rm As K H v) (hw : puK K) (hk : K s) (cw : CallB R s args own index y bytes maxL ret ws rm 0 0 n ∧ (Cond.static y).before args s = true)
    (hn : As.length = n) (hl : ls.size = nL) (hstack : st0 = As.reverse ++ rest) (hW : (rest.map fun v => v.category).sum ≤ 8) (hdg : decode cc pc = .ok (.invokestatic index, 3)) (hf : cells ≤ R.cells ∧ slots ≤ R.slots)
    (kk : W p l e R s m args below meth c H locs cells slots Q (F0 m (pc + 3) ls (v.toList ++ rest))) : W p l e R s m args below meth c H locs cells slots Q (F0 m pc ls st0) :=
  pu_go (va_runS S hM cw ⟨pu_blind hw, fun U hU hWm => ⟨rfl, hU, hw s U hWm hk⟩⟩ rfl hn hl hstack (lv_room (m := m) (pc := pc) (ls := ls) (rest := st0) hW) hdg hf) kk
/-- a call on an object -/
theorem pu_V (S : CallFix p m c cc nL s args Ts own) (hM : pu l y ws rm (.ref b :: As) K H v) (hw : puK K) (hk : K s) (cw : CallW R s args own C index y bytes maxL ret ws rm 0 0 n) (hrecv : ∃ cellB : Cell, H[b]? = some cellB ∧ cellB.vm.isStatics = false ∧ s.vm.findClass C = some cellB.cls)
    (hn : As.length = n) (hl : ls.size = nL) (hstack : st0 = As.reverse ++ .ref b :: rest) (hW : (rest.map fun v => v.category).sum ≤ 8) (hdg : decode cc pc = .ok (.invokevirtual index, 3)) (hf : cells ≤ R.cells ∧ slots ≤ R.slots)
    (kk : W p l e R s m args below meth c H locs cells slots Q (F0 m (pc + 3) ls (v.toList ++ rest))) : W p l e R s m args below meth c H locs cells slots Q (F0 m pc ls st0) :=
  pu_go (va_runV S hM cw ⟨pu_blind hw, hrecv, fun U hU hWm => ⟨rfl, hU, hw s U hWm hk⟩⟩ rfl hn hl hstack (lv_room (m := m) (pc := pc) (ls := ls) (rest := st0) hW) hdg hf) kk
/-- a call of a nest mate's private method, on an object; a static one -/
theorem pu_VN (S : CallFix p m c cc nL s args Ts own) (hM : pu l y ws rm (.ref b :: As) K H v) (hw : puK K) (hk : K s) (cw : va_CN R s args own index y host bytes maxL ret ws rm 0 0 n ∧ (Cond.instanceMethod y).before args s = true ∧ (Cond.selects C y y).before args s = true) (hrecv : ∃ cellB : Cell, H[b]? = some cellB ∧ cellB.vm.isStatics = false ∧ s.vm.findClass C = some cellB.cls)
    (hn : As.length = n) (hl : ls.size = nL) (hstack : st0 = As.reverse ++ .ref b :: rest) (hW : (rest.map fun v => v.category).sum ≤ 8) (hdg : decode cc pc = .ok (.invokevirtual index, 3)) (hf : cells ≤ R.cells ∧ slots ≤ R.slots)
    (kk : W p l e R s m args below meth c H locs cells slots Q (F0 m (pc + 3) ls (v.toList ++ rest))) : W p l e R s m args below meth c H locs cells slots Q (F0 m pc ls st0) :=
  pu_go (va_runVN S hM cw ⟨pu_blind hw, hrecv, fun U hU hWm => ⟨rfl, hU, hw s U hWm hk⟩⟩ rfl hn hl hstack (lv_room (m := m) (pc := pc) (ls := ls) (rest := st0) hW) hdg hf) kk
theorem pu_SN (S : CallFix p m c cc nL s args Ts own) (hM : pu l y ws rm As K H v) (hw : puK K) (hk : K s) (cw : va_CN R s args own index y host bytes maxL ret ws rm 0 0 n ∧ (Cond.static y).before args s = true ∧ True)
    (hn : As.length = n) (hl : ls.size = nL) (hstack : st0 = As.reverse ++ rest) (hW : (rest.map fun v => v.category).sum ≤ 8) (hdg : decode cc pc = .ok (.invokestatic index, 3)) (hf : cells ≤ R.cells ∧ slots ≤ R.slots)
    (kk : W p l e R s m args below meth c H locs cells slots Q (F0 m (pc + 3) ls (v.toList ++ rest))) : W p l e R s m args below meth c H locs cells slots Q (F0 m pc ls st0) :=
  pu_go (va_runSN S hM cw ⟨pu_blind hw, fun U hU hWm => ⟨rfl, hU, hw s U hWm hk⟩⟩ rfl hn hl hstack (lv_room (m := m) (pc := pc) (ls := ls) (rest := st0) hW) hdg hf) kk
end PU
