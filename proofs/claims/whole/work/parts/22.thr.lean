/-! throws: rows for calls that throw, for the four kinds of site -/
section VYN
variable {p : Program} {l : Launch} {e : Env} {R : Room} {s : State} {m : MethodId} {args : Array Value} {below : List Frame} {meth : Method} {c : Code} {H : Heap} {locs : List Loc} {cells slots : Nat} {Q : State → Prop}
variable {y : MethodName} {bytes cc : ByteArray} {maxL nL n index pc mc ms : Nat} {ret : Option FieldType} {ws : List Cond} {rm : Room} {K : State → Prop} {Ts : List Cond} {own C host : String} {b : Addr} {As rest st0 : List Value} {ls : Array Slot} {E : String}
/-- a nest mate's private method, which returns or throws -/
theorem vy_runVN {Pc : Array Value → State → Prop} {Qc : Array Value → State → Outcome → State → Prop} {XC : String → State → State → Prop} {free : Addr → Prop} {g : JFrame} (S : CallFix p m c cc nL s args Ts own) (hM : vx_Met l y ws rm Pc Qc XC mc ms free)
    (cw : va_CN R s args own index y host bytes maxL ret ws rm mc ms n ∧ (Cond.instanceMethod y).before args s = true ∧ (Cond.selects C y y).before args s = true) (hp : PreV s H C b Pc As)
    (hg : g.method = m) (hn : As.length = n) (hsize : g.locals.size = nL) (hstack : g.stack = As.reverse ++ .ref b :: rest) (hW : 2 * g.monitorRoom + (rest.map fun v => v.category).sum ≤ 8) (hdg : decode cc g.pc = .ok (.invokevirtual index, 3)) (hf : cells + mc ≤ R.cells ∧ slots + ms ≤ R.slots) :
    vx_Run p l e R s m args below meth c H locs cells slots mc ms g rest (Qc (Value.ref b :: As).toArray) XC free := by
  obtain ⟨⟨⟨hrc, hrs, hfr, hlo, hws, hcw⟩, hcode, hini, hy, hlen, hl⟩, hinst, hsel⟩ := cw
  have hK : vx_Back l R p e below s args y 3 8 (PreOf R mc ms Pc) (PostOf Qc mc ms free) (vx_Post XC mc ms free) := vx_back (bytes := bytes) (maxL := maxL) (ret := ret) hM hp.1 hrc hrs hfr hlo hws hcw (fun a' U hW => word_at hW (Or.inl (by first | rfl | simp [Cond.onTables, Cond.keeps, Cond.steady])) hini)
  obtain ⟨hx, hb, hml, ho, -⟩ := S
  obtain ⟨-, ⟨cellB, hcB, hoB, hclB⟩, hPc⟩ := hp
  intro T hT X
  obtain ⟨mk, methM, hnamed, hmethM, hstM, habM⟩ := Cond.instanceMethod_spec hinst
  obtain ⟨methM', cM, hmethM', -, -, -, -, -, -, hsigM⟩ := Cond.code_spec hnamed hcode
  cases hmethM.symm.trans hmethM'
  obtain ⟨c2, r2, m2, q1, q2, q3, q4, kP, hkP, hkPi⟩ := Cond.selects_spec hsel
  cases hclB.symm.trans q1
  cases (State.methodFound?_of_named hnamed hy).symm.trans q2
  cases hnamed.symm.trans q3
  have hselP : selectMethod e.platform s.vm cellB.cls mk = .method mk := by rw [Launch.admits_selectMethod X.admits]; exact q4
  obtain ⟨vm₁, X₁, hstep₁⟩ := X.invokevirtualNest hx ho hl hnamed hmethM hstM hkP hkPi hy (a := b) (cell := cellB) (by rw [hT]; exact hcB)
    (fun z h => by rw [h] at hoB; cases hoB) hselP hmethM habM hkP hkPi (g := g) hg (argsL := As) (rest := rest) (hn.trans (hlen _ hsigM)) hstack (by rw [hb]; exact hdg)
  rcases hK m meth c ⟨T.setVm vm₁, locs, cells, slots⟩ { g with stack := rest } (.invokevirtual index) mk (Value.ref b :: As).toArray X₁ hg (hsize.trans hml.symm) (by rw [hb]; exact hdg) hW (X₁.named hnamed) ⟨hf.1, hf.2, hPc (T.setVm vm₁) hT X₁.warmed⟩ with ⟨v, ⟨U', l2, c2, s2⟩, X', ⟨g', mk', t, L, e1, e2, hq, h1, hL, h2, h3⟩, st⟩ | ⟨q, ⟨U', l2, c2, s2⟩, X', ⟨g', mk', t, L, E9, ce, e1, e2, hq, hce, hcv, hcl, h1, hL, h2, h3⟩, st⟩
  · dsimp only [Pt.U, Pt.locs, Pt.cells, Pt.slots] at X' e1 e2 h1 h2 h3 st
    subst h1; subst h2; subst h3
    exact Or.inl ⟨v, (T.setVm vm₁).calling g' mk' (Value.ref b :: As).toArray, t, U', L, hT, X', hL, e1, e2, hq, fun target h => hstep₁ _ fun acts => by rw [doInvoke_state]; exact st.trans h⟩
  · dsimp only [Pt.U, Pt.locs, Pt.cells, Pt.slots] at X' e1 e2 h1 h2 h3 st hcl
    subst h1; subst h2; subst h3
    exact Or.inr ⟨q, (T.setVm vm₁).calling g' mk' (Value.ref b :: As).toArray, t, U', L, E9, ce, hT, X', hL, e1, e2, hq, hce, hcv, vx_cls X₁.warmed hcl, hstep₁ _ fun acts => by rw [doInvoke_state]; exact st⟩
variable {Qc : Array Value → State → Outcome → State → Prop} {free : Addr → Prop}
theorem th_S (S : CallFix p m c cc nL s args Ts own) (hM : th l y ws rm As K s.heap E) (hw : puK K) (hk : K s) (cw : CallB R s args own index y bytes maxL ret ws rm 1 6 n ∧ (Cond.static y).before args s = true)
    (hn : As.length = n) (hl : ls.size = nL) (hstack : st0 = As.reverse ++ rest) (hW : (rest.map fun v => v.category).sum ≤ 8) (hdg : decode cc pc = .ok (.invokestatic index, 3)) (hf : 1 ≤ R.cells ∧ 6 ≤ R.slots)
    (hout : ∀ x ∈ c.exceptionTable.toList, False) (hlocks : meth.locks = false) : W p l e R s m args below meth c s.heap [] 0 0 (vx_MQ below Qc (thX E s.heap) args s 1 6 free) (F0 m pc ls st0) :=
  th_go (vx_runS S hM cw ⟨pu_blind hw, fun U hU hWm => ⟨rfl, hU, hw s U hWm hk⟩⟩ rfl hn hl hstack (lv_room (m := m) (pc := pc) (ls := ls) (rest := st0) hW) hdg ⟨by omega, by omega⟩) hout hlocks
theorem th_V (S : CallFix p m c cc nL s args Ts own) (hM : th l y ws rm (.ref b :: As) K s.heap E) (hw : puK K) (hk : K s) (cw : CallW R s args own C index y bytes maxL ret ws rm 1 6 n) (hrecv : ∃ cellB : Cell, s.heap[b]? = some cellB ∧ cellB.vm.isStatics = false ∧ s.vm.findClass C = some cellB.cls)
    (hn : As.length = n) (hl : ls.size = nL) (hstack : st0 = As.reverse ++ .ref b :: rest) (hW : (rest.map fun v => v.category).sum ≤ 8) (hdg : decode cc pc = .ok (.invokevirtual index, 3)) (hf : 1 ≤ R.cells ∧ 6 ≤ R.slots)
    (hout : ∀ x ∈ c.exceptionTable.toList, False) (hlocks : meth.locks = false) : W p l e R s m args below meth c s.heap [] 0 0 (vx_MQ below Qc (thX E s.heap) args s 1 6 free) (F0 m pc ls st0) :=
  th_go (vx_runV S hM cw ⟨pu_blind hw, hrecv, fun U hU hWm => ⟨rfl, hU, hw s U hWm hk⟩⟩ rfl hn hl hstack (lv_room (m := m) (pc := pc) (ls := ls) (rest := st0) hW) hdg ⟨by omega, by omega⟩) hout hlocks
theorem th_VN (S : CallFix p m c cc nL s args Ts own) (hM : th l y ws rm (.ref b :: As) K s.heap E) (hw : puK K) (hk : K s) (cw : va_CN R s args own index y host bytes maxL ret ws rm 1 6 n ∧ (Cond.instanceMethod y).before args s = true ∧ (Cond.selects C y y).before args s = true) (hrecv : ∃ cellB : Cell, s.heap[b]? = some cellB ∧ cellB.vm.isStatics = false ∧ s.vm.findClass C = some cellB.cls)
    (hn : As.length = n) (hl : ls.size = nL) (hstack : st0 = As.reverse ++ .ref b :: rest) (hW : (rest.map fun v => v.category).sum ≤ 8) (hdg : decode cc pc = .ok (.invokevirtual index, 3)) (hf : 1 ≤ R.cells ∧ 6 ≤ R.slots)
    (hout : ∀ x ∈ c.exceptionTable.toList, False) (hlocks : meth.locks = false) : W p l e R s m args below meth c s.heap [] 0 0 (vx_MQ below Qc (thX E s.heap) args s 1 6 free) (F0 m pc ls st0) :=
  th_go (vy_runVN S hM cw ⟨pu_blind hw, hrecv, fun U hU hWm => ⟨rfl, hU, hw s U hWm hk⟩⟩ rfl hn hl hstack (lv_room (m := m) (pc := pc) (ls := ls) (rest := st0) hW) hdg ⟨by omega, by omega⟩) hout hlocks
end VYN
theorem tg_N : ∀ w ∈ Cond.classLink RX1 19 "java/util/NoSuchElementException" :: Cond.initialized "java/util/NoSuchElementException" :: vy_atS RX1 23 "java/util/NoSuchElementException" 13 prog_11_method_4_code "java/lang/RuntimeException" ["java/lang/Exception"], vx_ot w = true := by decide +kernel
theorem tb_N : ∀ w ∈ (vy_atS RX1 23 "java/util/NoSuchElementException" 13 prog_11_method_4_code "java/lang/RuntimeException" ["java/lang/Exception"]).filter (fun w => !goodWord w), w ∈ [Cond.castable "java/util/NoSuchElementException" "java/util/NoSuchElementException", Cond.declares ⟨"java/lang/RuntimeException", "<init>", "(Ljava/lang/String;)V"⟩, Cond.declares ⟨"java/lang/Exception", "<init>", "(Ljava/lang/String;)V"⟩, Cond.declares ⟨"java/lang/Throwable", "<init>", "(Ljava/lang/String;)V"⟩] := by decide +kernel
theorem thr_N {p : Program} {l : Launch} {e : Env} {R : Room} {s : State} {m : MethodId} {args : Array Value} {below : List Frame} {meth : Method} {c : Code} {cc : ByteArray} {pc : Nat} {Ts : List Cond} {ls : Array Slot} {rest : List Value} {Qc : Array Value → State → Outcome → State → Prop} {free : Addr → Prop} {is : Nat} {text : String}
    {D : va_G} {cI cJ cZ cG : ClassId} {z : Nat} (hexec : p.tables.exec = Jvm.exec) (hb : c.code = cc) (hst : l.stackTraces = false) (hown : s.vm.findClass RX1 = some m.cls) (hts : ∀ w ∈ Ts, w.before args s = true) (hKZ : KZ D cI cJ cZ cG z s.heap s) (hz : z ≤ s.heap.size)
    (kt1 : (RX1, is, text) ∈ kt) (m1 : Cond.classLink RX1 19 "java/util/NoSuchElementException" ∈ Ts) (m2 : Cond.initialized "java/util/NoSuchElementException" ∈ Ts) (hm : ∀ w ∈ (vy_atS RX1 23 "java/util/NoSuchElementException" 13 prog_11_method_4_code "java/lang/RuntimeException" ["java/lang/Exception"]).filter goodWord, w ∈ Ts)
    (hsize : ls.size = c.maxLocals) (d0 : decode cc pc = .ok (.new 19, 3)) (d3 : decode cc (pc + 3) = .ok (.dup, 1)) (d4 : decode cc (pc + 4) = .ok (.ldc is, 2)) (d6 : decode cc (pc + 6) = .ok (.invokespecial 23, 3)) (d9 : decode cc (pc + 9) = .ok (.athrow, 1))
    (hout : ∀ x ∈ c.exceptionTable.toList, False) (hRframes : 6 ≤ R.frames) (hRlocals : (rest.map fun v => v.category).sum + 82 ≤ R.locals) (hRcells : 1 ≤ R.cells) (hRslots : 6 ≤ R.slots) (hlocks : meth.locks = false) :
    W p l e R s m args below meth c s.heap [] 0 0 (vx_MQ below Qc (thX "java/util/NoSuchElementException" s.heap) args s 1 6 free) (F0 m pc ls rest) := by
  obtain ⟨hKW, hKT, hZ1, hZ2⟩ := hKZ
  obtain ⟨sa, hsa⟩ := hKT _ kt1
  exact vy_throw (A := fun q => s.heap.size ≤ q) hexec hb hst (own := RX1) (cls := "java/util/NoSuchElementException") (text := text) (names := ["java/lang/Exception"]) (ik := 19) (is := is) (ic := 23) (sa := sa) (ix := 13) (bytes := prog_11_method_4_code) (Y1 := "java/lang/RuntimeException") hown (by decide +kernel) (by decide +kernel) (by decide +kernel) (by decide +kernel) (by decide +kernel) (by decide +kernel) (by decide +kernel) (hts _ m1) (hts _ m2) hsa
    (vx_hat (fun w hw => hts w (hm w hw)) tb_N (vx_c (hKW.n 19 rfl rfl) (vx_c (hKW.n 22 rfl rfl) (vx_c (hKW.n 23 rfl rfl) (vx_c (hKW.n 24 rfl rfl) vx_n))))) tg_N
    (hZ1.narrow (fun q h => Nat.le_trans hz h)) (hZ2.narrow (fun q h => Nat.le_trans hz h)) va_S.rf hsize d0 d3 d4 d6 d9 (fun x hx => (hout x hx).elim)
    (by show _ < R.frames; simp only [List.length_cons, List.length_nil]; omega) (by simp only [List.length_cons, List.length_nil]; omega) (by omega) (by omega) hlocks (fun t _ h1 h2 => ⟨rfl, h1, h2⟩) (fun _ h => nomatch h) (Nat.le_refl _) (Nat.le_refl _)
theorem tg_S : ∀ w ∈ Cond.classLink RX1 47 "java/lang/IllegalStateException" :: Cond.initialized "java/lang/IllegalStateException" :: vx_atS RX1 51 "java/lang/IllegalStateException" ["java/lang/RuntimeException", "java/lang/Exception"], vx_ot w = true := by decide +kernel
theorem tb_S : ∀ w ∈ (vx_atS RX1 51 "java/lang/IllegalStateException" ["java/lang/RuntimeException", "java/lang/Exception"]).filter (fun w => !goodWord w), w ∈ [Cond.castable "java/lang/IllegalStateException" "java/lang/IllegalStateException", Cond.declares ⟨"java/lang/RuntimeException", "<init>", "(Ljava/lang/String;)V"⟩, Cond.declares ⟨"java/lang/Exception", "<init>", "(Ljava/lang/String;)V"⟩, Cond.declares ⟨"java/lang/Throwable", "<init>", "(Ljava/lang/String;)V"⟩] := by decide +kernel
theorem thr_S {p : Program} {l : Launch} {e : Env} {R : Room} {s : State} {m : MethodId} {args : Array Value} {below : List Frame} {meth : Method} {c : Code} {cc : ByteArray} {pc : Nat} {Ts : List Cond} {ls : Array Slot} {rest : List Value} {Qc : Array Value → State → Outcome → State → Prop} {free : Addr → Prop} {is : Nat} {text : String}
    {D : va_G} {cI cJ cZ cG : ClassId} {z : Nat} (hexec : p.tables.exec = Jvm.exec) (hb : c.code = cc) (hst : l.stackTraces = false) (hown : s.vm.findClass RX1 = some m.cls) (hts : ∀ w ∈ Ts, w.before args s = true) (hKZ : KZ D cI cJ cZ cG z s.heap s) (hz : z ≤ s.heap.size)
    (kt1 : (RX1, is, text) ∈ kt) (m1 : Cond.classLink RX1 47 "java/lang/IllegalStateException" ∈ Ts) (m2 : Cond.initialized "java/lang/IllegalStateException" ∈ Ts) (hm : ∀ w ∈ (vx_atS RX1 51 "java/lang/IllegalStateException" ["java/lang/RuntimeException", "java/lang/Exception"]).filter goodWord, w ∈ Ts)
    (hsize : ls.size = c.maxLocals) (d0 : decode cc pc = .ok (.new 47, 3)) (d3 : decode cc (pc + 3) = .ok (.dup, 1)) (d4 : decode cc (pc + 4) = .ok (.ldc is, 2)) (d6 : decode cc (pc + 6) = .ok (.invokespecial 51, 3)) (d9 : decode cc (pc + 9) = .ok (.athrow, 1))
    (hout : ∀ x ∈ c.exceptionTable.toList, False) (hRframes : 6 ≤ R.frames) (hRlocals : (rest.map fun v => v.category).sum + 82 ≤ R.locals) (hRcells : 1 ≤ R.cells) (hRslots : 6 ≤ R.slots) (hlocks : meth.locks = false) :
    W p l e R s m args below meth c s.heap [] 0 0 (vx_MQ below Qc (thX "java/lang/IllegalStateException" s.heap) args s 1 6 free) (F0 m pc ls rest) := by
  obtain ⟨hKW, hKT, hZ1, hZ2⟩ := hKZ
  obtain ⟨sa, hsa⟩ := hKT _ kt1
  exact vx_throwS (A := fun q => s.heap.size ≤ q) hexec hb hst (own := RX1) (cls := "java/lang/IllegalStateException") (text := text) (names := ["java/lang/RuntimeException", "java/lang/Exception"]) (ik := 47) (is := is) (ic := 51) (sa := sa) hown (by decide +kernel) (by decide +kernel) (hts _ m1) (hts _ m2) hsa
    (vx_hat (fun w hw => hts w (hm w hw)) tb_S (vx_c (hKW.n 21 rfl rfl) (vx_c (hKW.n 22 rfl rfl) (vx_c (hKW.n 23 rfl rfl) (vx_c (hKW.n 24 rfl rfl) vx_n))))) tg_S
    (hZ1.narrow (fun q h => Nat.le_trans hz h)) (hZ2.narrow (fun q h => Nat.le_trans hz h)) va_S.rf hsize d0 d3 d4 d6 d9 (fun x hx => (hout x hx).elim)
    (by show _ < R.frames; simp only [List.length_cons, List.length_nil]; omega) (by simp only [List.length_cons, List.length_nil]; omega) (by omega) (by omega) hlocks (fun t _ h1 h2 => ⟨rfl, h1, h2⟩) (fun _ h => nomatch h) (Nat.le_refl _) (Nat.le_refl _)
theorem tg_A : ∀ w ∈ Cond.classLink RX1 70 "java/lang/IllegalArgumentException" :: Cond.initialized "java/lang/IllegalArgumentException" :: vx_atS RX1 74 "java/lang/IllegalArgumentException" ["java/lang/RuntimeException", "java/lang/Exception"], vx_ot w = true := by decide +kernel
theorem tb_A : ∀ w ∈ (vx_atS RX1 74 "java/lang/IllegalArgumentException" ["java/lang/RuntimeException", "java/lang/Exception"]).filter (fun w => !goodWord w), w ∈ [Cond.castable "java/lang/IllegalArgumentException" "java/lang/IllegalArgumentException", Cond.declares ⟨"java/lang/RuntimeException", "<init>", "(Ljava/lang/String;)V"⟩, Cond.declares ⟨"java/lang/Exception", "<init>", "(Ljava/lang/String;)V"⟩, Cond.declares ⟨"java/lang/Throwable", "<init>", "(Ljava/lang/String;)V"⟩] := by decide +kernel
theorem thr_A {p : Program} {l : Launch} {e : Env} {R : Room} {s : State} {m : MethodId} {args : Array Value} {below : List Frame} {meth : Method} {c : Code} {cc : ByteArray} {pc : Nat} {Ts : List Cond} {ls : Array Slot} {rest : List Value} {Qc : Array Value → State → Outcome → State → Prop} {free : Addr → Prop} {is : Nat} {text : String}
    {D : va_G} {cI cJ cZ cG : ClassId} {z : Nat} (hexec : p.tables.exec = Jvm.exec) (hb : c.code = cc) (hst : l.stackTraces = false) (hown : s.vm.findClass RX1 = some m.cls) (hts : ∀ w ∈ Ts, w.before args s = true) (hKZ : KZ D cI cJ cZ cG z s.heap s) (hz : z ≤ s.heap.size)
    (kt1 : (RX1, is, text) ∈ kt) (m1 : Cond.classLink RX1 70 "java/lang/IllegalArgumentException" ∈ Ts) (m2 : Cond.initialized "java/lang/IllegalArgumentException" ∈ Ts) (hm : ∀ w ∈ (vx_atS RX1 74 "java/lang/IllegalArgumentException" ["java/lang/RuntimeException", "java/lang/Exception"]).filter goodWord, w ∈ Ts)
    (hsize : ls.size = c.maxLocals) (d0 : decode cc pc = .ok (.new 70, 3)) (d3 : decode cc (pc + 3) = .ok (.dup, 1)) (d4 : decode cc (pc + 4) = .ok (.ldc is, 2)) (d6 : decode cc (pc + 6) = .ok (.invokespecial 74, 3)) (d9 : decode cc (pc + 9) = .ok (.athrow, 1))
    (hout : ∀ x ∈ c.exceptionTable.toList, False) (hRframes : 6 ≤ R.frames) (hRlocals : (rest.map fun v => v.category).sum + 82 ≤ R.locals) (hRcells : 1 ≤ R.cells) (hRslots : 6 ≤ R.slots) (hlocks : meth.locks = false) :
    W p l e R s m args below meth c s.heap [] 0 0 (vx_MQ below Qc (thX "java/lang/IllegalArgumentException" s.heap) args s 1 6 free) (F0 m pc ls rest) := by
  obtain ⟨hKW, hKT, hZ1, hZ2⟩ := hKZ
  obtain ⟨sa, hsa⟩ := hKT _ kt1
  exact vx_throwS (A := fun q => s.heap.size ≤ q) hexec hb hst (own := RX1) (cls := "java/lang/IllegalArgumentException") (text := text) (names := ["java/lang/RuntimeException", "java/lang/Exception"]) (ik := 70) (is := is) (ic := 74) (sa := sa) hown (by decide +kernel) (by decide +kernel) (hts _ m1) (hts _ m2) hsa
    (vx_hat (fun w hw => hts w (hm w hw)) tb_A (vx_c (hKW.n 20 rfl rfl) (vx_c (hKW.n 22 rfl rfl) (vx_c (hKW.n 23 rfl rfl) (vx_c (hKW.n 24 rfl rfl) vx_n))))) tg_A
    (hZ1.narrow (fun q h => Nat.le_trans hz h)) (hZ2.narrow (fun q h => Nat.le_trans hz h)) va_S.rf hsize d0 d3 d4 d6 d9 (fun x hx => (hout x hx).elim)
    (by show _ < R.frames; simp only [List.length_cons, List.length_nil]; omega) (by simp only [List.length_cons, List.length_nil]; omega) (by omega) (by omega) hlocks (fun t _ h1 h2 => ⟨rfl, h1, h2⟩) (fun _ h => nomatch h) (Nat.le_refl _) (Nat.le_refl _)
theorem tg_G : ∀ w ∈ Cond.classLink RX0 43 "java/lang/IllegalStateException" :: Cond.initialized "java/lang/IllegalStateException" :: vx_atS RX0 47 "java/lang/IllegalStateException" ["java/lang/RuntimeException", "java/lang/Exception"], vx_ot w = true := by decide +kernel
theorem tb_G : ∀ w ∈ (vx_atS RX0 47 "java/lang/IllegalStateException" ["java/lang/RuntimeException", "java/lang/Exception"]).filter (fun w => !goodWord w), w ∈ [Cond.castable "java/lang/IllegalStateException" "java/lang/IllegalStateException", Cond.declares ⟨"java/lang/RuntimeException", "<init>", "(Ljava/lang/String;)V"⟩, Cond.declares ⟨"java/lang/Exception", "<init>", "(Ljava/lang/String;)V"⟩, Cond.declares ⟨"java/lang/Throwable", "<init>", "(Ljava/lang/String;)V"⟩] := by decide +kernel
theorem thr_G {p : Program} {l : Launch} {e : Env} {R : Room} {s : State} {m : MethodId} {args : Array Value} {below : List Frame} {meth : Method} {c : Code} {cc : ByteArray} {pc : Nat} {Ts : List Cond} {ls : Array Slot} {rest : List Value} {Qc : Array Value → State → Outcome → State → Prop} {free : Addr → Prop} {is : Nat} {text : String}
    {D : va_G} {cI cJ cZ cG : ClassId} {z : Nat} (hexec : p.tables.exec = Jvm.exec) (hb : c.code = cc) (hst : l.stackTraces = false) (hown : s.vm.findClass RX0 = some m.cls) (hts : ∀ w ∈ Ts, w.before args s = true) (hKZ : KZ D cI cJ cZ cG z s.heap s) (hz : z ≤ s.heap.size)
    (kt1 : (RX0, is, text) ∈ kt) (m1 : Cond.classLink RX0 43 "java/lang/IllegalStateException" ∈ Ts) (m2 : Cond.initialized "java/lang/IllegalStateException" ∈ Ts) (hm : ∀ w ∈ (vx_atS RX0 47 "java/lang/IllegalStateException" ["java/lang/RuntimeException", "java/lang/Exception"]).filter goodWord, w ∈ Ts)
    (hsize : ls.size = c.maxLocals) (d0 : decode cc pc = .ok (.new 43, 3)) (d3 : decode cc (pc + 3) = .ok (.dup, 1)) (d4 : decode cc (pc + 4) = .ok (.ldc is, 2)) (d6 : decode cc (pc + 6) = .ok (.invokespecial 47, 3)) (d9 : decode cc (pc + 9) = .ok (.athrow, 1))
    (hout : ∀ x ∈ c.exceptionTable.toList, False) (hRframes : 6 ≤ R.frames) (hRlocals : (rest.map fun v => v.category).sum + 82 ≤ R.locals) (hRcells : 1 ≤ R.cells) (hRslots : 6 ≤ R.slots) (hlocks : meth.locks = false) :
    W p l e R s m args below meth c s.heap [] 0 0 (vx_MQ below Qc (thX "java/lang/IllegalStateException" s.heap) args s 1 6 free) (F0 m pc ls rest) := by
  obtain ⟨hKW, hKT, hZ1, hZ2⟩ := hKZ
  obtain ⟨sa, hsa⟩ := hKT _ kt1
  exact vx_throwS (A := fun q => s.heap.size ≤ q) hexec hb hst (own := RX0) (cls := "java/lang/IllegalStateException") (text := text) (names := ["java/lang/RuntimeException", "java/lang/Exception"]) (ik := 43) (is := is) (ic := 47) (sa := sa) hown (by decide +kernel) (by decide +kernel) (hts _ m1) (hts _ m2) hsa
    (vx_hat (fun w hw => hts w (hm w hw)) tb_G (vx_c (hKW.n 21 rfl rfl) (vx_c (hKW.n 22 rfl rfl) (vx_c (hKW.n 23 rfl rfl) (vx_c (hKW.n 24 rfl rfl) vx_n))))) tg_G
    (hZ1.narrow (fun q h => Nat.le_trans hz h)) (hZ2.narrow (fun q h => Nat.le_trans hz h)) va_S.rf hsize d0 d3 d4 d6 d9 (fun x hx => (hout x hx).elim)
    (by show _ < R.frames; simp only [List.length_cons, List.length_nil]; omega) (by simp only [List.length_cons, List.length_nil]; omega) (by omega) (by omega) hlocks (fun t _ h1 h2 => ⟨rfl, h1, h2⟩) (fun _ h => nomatch h) (Nat.le_refl _) (Nat.le_refl _)
