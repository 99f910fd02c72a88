section
-- ===== PART A: goes FIRST, ahead of the names: the tables' words, and 'selects' of the private methods out of them =====
/-- a private method of a class that the tables say can be made, by its rows of tables_1 -/
def lw_okq (q : MethodName × Nat) : Prop := (q.1.cls ≠ "java/lang/invoke/MethodHandle" ∧ q.1.cls ≠ "java/lang/invoke/VarHandle") ∧ Cond.instantiable q.1.cls q.2 ∈ tables_1 ∧ Cond.privateMethod q.1 ∈ tables_1 ∧ Cond.instanceMethod q.1 ∈ tables_1
theorem lw_p0 : lw_okq (⟨"java/lang/Throwable", "fillInStackTrace", "(I)Ljava/lang/Throwable;"⟩, 6) := ⟨⟨by decide +kernel, by decide +kernel⟩, List.mem_of_getElem? (i := 80) (by decide +kernel), List.mem_of_getElem? (i := 78) (by decide +kernel), List.mem_of_getElem? (i := 79) (by decide +kernel)⟩
theorem lw_p1 : lw_okq (⟨"GaugeBoard", "gaugeAt", "(I)LGaugeBoard$Gauge;"⟩, 1) := ⟨⟨by decide +kernel, by decide +kernel⟩, List.mem_of_getElem? (i := 11) (by decide +kernel), List.mem_of_getElem? (i := 129) (by decide +kernel), List.mem_of_getElem? (i := 130) (by decide +kernel)⟩
theorem lw_p2 : lw_okq (⟨"GaugeBoard", "stepsTaking", "(I)I"⟩, 1) := ⟨⟨by decide +kernel, by decide +kernel⟩, List.mem_of_getElem? (i := 11) (by decide +kernel), List.mem_of_getElem? (i := 185) (by decide +kernel), List.mem_of_getElem? (i := 186) (by decide +kernel)⟩
theorem lw_p3 : lw_okq (⟨"GaugeBoard$Gauge", "ownStepsTaking", "(I)I"⟩, 11) := ⟨⟨by decide +kernel, by decide +kernel⟩, List.mem_of_getElem? (i := 132) (by decide +kernel), List.mem_of_getElem? (i := 189) (by decide +kernel), List.mem_of_getElem? (i := 190) (by decide +kernel)⟩
theorem lw_p4 : lw_okq (⟨"GaugeBoard$Gauge", "startAs", "(I)V"⟩, 11) := ⟨⟨by decide +kernel, by decide +kernel⟩, List.mem_of_getElem? (i := 132) (by decide +kernel), List.mem_of_getElem? (i := 209) (by decide +kernel), List.mem_of_getElem? (i := 210) (by decide +kernel)⟩
theorem lw_p5 : lw_okq (⟨"GaugeBoard", "needGauge", "(I)LGaugeBoard$Gauge;"⟩, 1) := ⟨⟨by decide +kernel, by decide +kernel⟩, List.mem_of_getElem? (i := 11) (by decide +kernel), List.mem_of_getElem? (i := 220) (by decide +kernel), List.mem_of_getElem? (i := 221) (by decide +kernel)⟩
theorem lw_p6 : lw_okq (⟨"GaugeBoard$Gauge", "addStep", "(IIJ)I"⟩, 11) := ⟨⟨by decide +kernel, by decide +kernel⟩, List.mem_of_getElem? (i := 132) (by decide +kernel), List.mem_of_getElem? (i := 236) (by decide +kernel), List.mem_of_getElem? (i := 237) (by decide +kernel)⟩
theorem lw_p7 : lw_okq (⟨"GaugeBoard", "takeReading", "(LGaugeBoard$Gauge;J)J"⟩, 1) := ⟨⟨by decide +kernel, by decide +kernel⟩, List.mem_of_getElem? (i := 11) (by decide +kernel), List.mem_of_getElem? (i := 284) (by decide +kernel), List.mem_of_getElem? (i := 285) (by decide +kernel)⟩
theorem lw_p8 : lw_okq (⟨"GaugeBoard", "operandOf", "(LGaugeBoard$Gauge;I)J"⟩, 1) := ⟨⟨by decide +kernel, by decide +kernel⟩, List.mem_of_getElem? (i := 11) (by decide +kernel), List.mem_of_getElem? (i := 288) (by decide +kernel), List.mem_of_getElem? (i := 289) (by decide +kernel)⟩
theorem lw_p9 : lw_okq (⟨"GaugeBoard$Gauge", "takeValue", "(J)V"⟩, 11) := ⟨⟨by decide +kernel, by decide +kernel⟩, List.mem_of_getElem? (i := 132) (by decide +kernel), List.mem_of_getElem? (i := 349) (by decide +kernel), List.mem_of_getElem? (i := 350) (by decide +kernel)⟩
theorem lw_p10 : lw_okq (⟨"GaugeBoardModel", "takers", "(I)I"⟩, 14) := ⟨⟨by decide +kernel, by decide +kernel⟩, List.mem_of_getElem? (i := 451) (by decide +kernel), List.mem_of_getElem? (i := 509) (by decide +kernel), List.mem_of_getElem? (i := 510) (by decide +kernel)⟩
theorem lw_p11 : lw_okq (⟨"GaugeBoardModel", "takersIn", "(II)I"⟩, 14) := ⟨⟨by decide +kernel, by decide +kernel⟩, List.mem_of_getElem? (i := 451) (by decide +kernel), List.mem_of_getElem? (i := 513) (by decide +kernel), List.mem_of_getElem? (i := 514) (by decide +kernel)⟩
theorem lw_p12 : lw_okq (⟨"GaugeBoardModel", "ownTakers", "(I)I"⟩, 14) := ⟨⟨by decide +kernel, by decide +kernel⟩, List.mem_of_getElem? (i := 451) (by decide +kernel), List.mem_of_getElem? (i := 517) (by decide +kernel), List.mem_of_getElem? (i := 518) (by decide +kernel)⟩
theorem lw_p13 : lw_okq (⟨"GaugeBoardModel", "isThere", "(I)Z"⟩, 14) := ⟨⟨by decide +kernel, by decide +kernel⟩, List.mem_of_getElem? (i := 451) (by decide +kernel), List.mem_of_getElem? (i := 525) (by decide +kernel), List.mem_of_getElem? (i := 526) (by decide +kernel)⟩
theorem lw_p14 : lw_okq (⟨"GaugeBoardModel", "adds", "(IIIJI)I"⟩, 14) := ⟨⟨by decide +kernel, by decide +kernel⟩, List.mem_of_getElem? (i := 451) (by decide +kernel), List.mem_of_getElem? (i := 535) (by decide +kernel), List.mem_of_getElem? (i := 536) (by decide +kernel)⟩
theorem lw_p15 : lw_okq (⟨"GaugeBoardModel", "comes", "(IJ)J"⟩, 14) := ⟨⟨by decide +kernel, by decide +kernel⟩, List.mem_of_getElem? (i := 451) (by decide +kernel), List.mem_of_getElem? (i := 566) (by decide +kernel), List.mem_of_getElem? (i := 567) (by decide +kernel)⟩
def lw_privs_1 : List (MethodName × Nat) := [(⟨"java/lang/Throwable", "fillInStackTrace", "(I)Ljava/lang/Throwable;"⟩, 6), (⟨"GaugeBoard", "gaugeAt", "(I)LGaugeBoard$Gauge;"⟩, 1), (⟨"GaugeBoard", "stepsTaking", "(I)I"⟩, 1), (⟨"GaugeBoard$Gauge", "ownStepsTaking", "(I)I"⟩, 11), (⟨"GaugeBoard$Gauge", "startAs", "(I)V"⟩, 11), (⟨"GaugeBoard", "needGauge", "(I)LGaugeBoard$Gauge;"⟩, 1), (⟨"GaugeBoard$Gauge", "addStep", "(IIJ)I"⟩, 11), (⟨"GaugeBoard", "takeReading", "(LGaugeBoard$Gauge;J)J"⟩, 1), (⟨"GaugeBoard", "operandOf", "(LGaugeBoard$Gauge;I)J"⟩, 1), (⟨"GaugeBoard$Gauge", "takeValue", "(J)V"⟩, 11), (⟨"GaugeBoardModel", "takers", "(I)I"⟩, 14), (⟨"GaugeBoardModel", "takersIn", "(II)I"⟩, 14), (⟨"GaugeBoardModel", "ownTakers", "(I)I"⟩, 14), (⟨"GaugeBoardModel", "isThere", "(I)Z"⟩, 14), (⟨"GaugeBoardModel", "adds", "(IIIJI)I"⟩, 14), (⟨"GaugeBoardModel", "comes", "(IJ)J"⟩, 14)]
theorem lw_r1 : ∀ q ∈ lw_privs_1, lw_okq q := List.forall_mem_cons.mpr ⟨lw_p0, List.forall_mem_cons.mpr ⟨lw_p1, List.forall_mem_cons.mpr ⟨lw_p2, List.forall_mem_cons.mpr ⟨lw_p3, List.forall_mem_cons.mpr ⟨lw_p4, List.forall_mem_cons.mpr ⟨lw_p5, List.forall_mem_cons.mpr ⟨lw_p6, List.forall_mem_cons.mpr ⟨lw_p7, List.forall_mem_cons.mpr ⟨lw_p8, List.forall_mem_cons.mpr ⟨lw_p9, List.forall_mem_cons.mpr ⟨lw_p10, List.forall_mem_cons.mpr ⟨lw_p11, List.forall_mem_cons.mpr ⟨lw_p12, List.forall_mem_cons.mpr ⟨lw_p13, List.forall_mem_cons.mpr ⟨lw_p14, List.forall_mem_cons.mpr ⟨lw_p15, fun _ h => absurd h List.not_mem_nil⟩⟩⟩⟩⟩⟩⟩⟩⟩⟩⟩⟩⟩⟩⟩⟩
theorem lw_p16 : lw_okq (⟨"GaugeBoardModel", "done", "(IIJ)J"⟩, 14) := ⟨⟨by decide +kernel, by decide +kernel⟩, List.mem_of_getElem? (i := 451) (by decide +kernel), List.mem_of_getElem? (i := 570) (by decide +kernel), List.mem_of_getElem? (i := 571) (by decide +kernel)⟩
def lw_privs_2 : List (MethodName × Nat) := [(⟨"GaugeBoardModel", "done", "(IIJ)J"⟩, 14)]
theorem lw_r2 : ∀ q ∈ lw_privs_2, lw_okq q := List.forall_mem_cons.mpr ⟨lw_p16, fun _ h => absurd h List.not_mem_nil⟩
def lw_privs : List (MethodName × Nat) := lw_privs_1 ++ (lw_privs_2)
def lw_tbl : List Cond := k2_sels lw_privs ++ tables_1
theorem lw_privs_ok : ∀ q ∈ lw_privs, lw_okq q := by
  show ∀ q ∈ lw_privs_1 ++ (lw_privs_2), lw_okq q
  exact List.forall_mem_append.mpr ⟨lw_r1, lw_r2⟩
-- ===== end of PART A; then your names; then what follows =====
end
section
/-! the search of a method's own table where rows ahead name other classes: the entry may be open or resolved (rounds have no Shelf42: these stand for what the printed rows name of it) -/
def vy_pass (pl : Platform) (s0 : State) (d : ClassId) (pc : Nat) (th : ClassId) (y : ExceptionTableEntry) : Prop :=
  covers y pc = false ∨ (y.catchType ≠ 0 ∧ ∃ c, s0.vm.ClassLinks pl d y.catchType c ∧ s0.vm.assignable th c = false)
theorem vy_row {Q : Handler → Pre} {E : CtlPost} {e : Env} {d : Bool} {acts : List Action} {s : State} {f : JFrame} {a : Addr} {x : ExceptionTableEntry} {t : List ExceptionTableEntry} {c : ClassId} {cell : Cell} (hx : covers x f.pc = true) (h0 : x.catchType ≠ 0)
    (hl : s.vm.ClassLinks e.platform f.method.cls x.catchType c) (hcell : s.heap[a]? = some cell) (hobj : ∀ k, cell.vm ≠ .statics k)
    (hk : ∃ k, s.vm.classes[cell.cls]? = some k) (hc : ∃ k, s.vm.classes[c]? = some k) :
    wp (findHandler.go f a (x :: t)) Q E e d acts s ↔ if s.vm.assignable cell.cls c = true then Q (.found x.handlerPc) d acts (s.setVm (s.vm.noted f.method.cls x.catchType (.cls c))) else wp (findHandler.go f a t) Q E e d acts (s.setVm (s.vm.noted f.method.cls x.catchType (.cls c))) := by
  simp only [covers] at hx
  obtain ⟨ha, ht⟩ := (resolveClass_links e.toSetting hl).op (op := VmOp.resolveClass f.method.cls x.catchType) rfl
  have hal : s.vm.Alike (s.vm.noted f.method.cls x.catchType (.cls c)) := (Vm.Alike.refl s.vm).noted _ _ _
  obtain ⟨k1, hk1⟩ := hk
  obtain ⟨k2, hk2⟩ := hc
  obtain ⟨z1, hz1, -⟩ := hal.2.2 _ _ hk1
  obtain ⟨z2, hz2, -⟩ := hal.2.2 _ _ hk2
  have hsame : (s.vm.noted f.method.cls x.catchType (.cls c)).assignable cell.cls c = s.vm.assignable cell.cls c := hal.assignable ..
  cases hfit : s.vm.assignable cell.cls c <;> rw [hfit] at hsame <;>
    simp [findHandler.go, hx, h0, ha, ht, hcell, hobj, hz1, hz2, hsame, VmOp.dirties, VmOp.acts]
theorem vy_search {e : Env} {s0 : State} {f : JFrame} {a : Addr} {cell : Cell} (hobj : ∀ k, cell.vm ≠ .statics k) (hk0 : ∃ k, s0.vm.classes[cell.cls]? = some k)
    (x : ExceptionTableEntry) (suf : List ExceptionTableEntry) (hx : covers x f.pc = true) (h0 : x.catchType ≠ 0) {ct : ClassId} (hlx : s0.vm.ClassLinks e.platform f.method.cls x.catchType ct) (hfx : s0.vm.assignable cell.cls ct = true) :
    ∀ (pre : List ExceptionTableEntry) (S : State), s0.WarmedH S.vm → S.heap[a]? = some cell → (∀ y ∈ pre, vy_pass e.platform s0 f.method.cls f.pc cell.cls y) →
      ∃ vm', s0.WarmedH vm' ∧ ∀ (Q : Handler → Pre) (E : CtlPost) (d : Bool) (acts : List Action), wp (findHandler.go f a (pre ++ x :: suf)) Q E e d acts S ↔ Q (.found x.handlerPc) d acts (S.setVm vm') := by
  obtain ⟨k0, hk0⟩ := hk0
  have hrow : ∀ (S : State) (y : ExceptionTableEntry) (cy : ClassId) (t : List ExceptionTableEntry), s0.WarmedH S.vm → S.heap[a]? = some cell → covers y f.pc = true → y.catchType ≠ 0 → s0.vm.ClassLinks e.platform f.method.cls y.catchType cy →
      s0.WarmedH (S.vm.noted f.method.cls y.catchType (.cls cy)) ∧ ∀ (Q : Handler → Pre) (E : CtlPost) (d : Bool) (acts : List Action), wp (findHandler.go f a (y :: t)) Q E e d acts S ↔
        if s0.vm.assignable cell.cls cy = true then Q (.found y.handlerPc) d acts (S.setVm (S.vm.noted f.method.cls y.catchType (.cls cy))) else wp (findHandler.go f a t) Q E e d acts (S.setVm (S.vm.noted f.method.cls y.catchType (.cls cy))) := by
    intro S y cy t hW hcell hy hy0 hl
    obtain ⟨z0, hz0, -⟩ := hW.alike.2.2 _ _ hk0
    obtain ⟨dk, _, _, kt, hd, _, _, _, _, hkt, _, hopn⟩ := hl.here
    obtain ⟨zt, hzt, -⟩ := hW.alike.2.2 _ _ hkt
    refine ⟨hW.noted hd hopn (State.rightAt_cls hl), fun Q E d acts => ?_⟩
    have h9 := vy_row (Q := Q) (E := E) (d := d) (acts := acts) (t := t) hy hy0 (hW.classLinks hl) hcell hobj ⟨z0, hz0⟩ ⟨zt, hzt⟩
    rw [hW.alike.assignable] at h9
    exact h9
  intro pre
  induction pre with
  | nil =>
    intro S hW hcell _
    obtain ⟨hW', hq⟩ := hrow S x ct suf hW hcell hx h0 hlx
    exact ⟨_, hW', fun Q E d acts => by rw [List.nil_append, hq Q E d acts, if_pos hfx]⟩
  | cons y ys ih =>
    intro S hW hcell hpass
    have htail : ∀ z ∈ ys, vy_pass e.platform s0 f.method.cls f.pc cell.cls z := fun z hz => hpass z (List.mem_cons_of_mem _ hz)
    cases hcov : covers y f.pc with
    | false =>
      obtain ⟨vm', hW', hq⟩ := ih S hW hcell htail
      exact ⟨vm', hW', fun Q E d acts => by rw [List.cons_append, Jvm.W.findHandler_go_skip hcov]; exact hq Q E d acts⟩
    | true =>
      rcases hpass y List.mem_cons_self with h | ⟨hy0, cy, hl, hno⟩
      · rw [h] at hcov; cases hcov
      · obtain ⟨hW1, hq1⟩ := hrow S y cy (ys ++ x :: suf) hW hcell hcov hy0 hl
        obtain ⟨vm', hW', hq⟩ := ih (S.setVm (S.vm.noted f.method.cls y.catchType (.cls cy))) hW1 hcell htail
        exact ⟨vm', hW', fun Q E d acts => by rw [List.cons_append, hq1 Q E d acts, if_neg (by rw [hno]; decide)]; exact hq Q E d acts⟩
theorem vy_caught {p : Program} {l : Launch} {e : Env} {R : Room} {s : State} {m : MethodId} {args : Array Value} {below : List Frame} {meth : Method} {c : Code} {T : State} {locs : List Loc} {cells slots : Nat} (X : Stand p l e R s m args below meth c T locs cells slots) (a : Addr) {g : JFrame} (hg : g.method = m)
    {cell : Cell} (hcell : T.heap[a]? = some cell) (hobj : cell.vm.isStatics = false) (hk0 : ∃ k, s.vm.classes[cell.cls]? = some k)
    (pre : List ExceptionTableEntry) (x : ExceptionTableEntry) (suf : List ExceptionTableEntry) (hsplit : c.exceptionTable.toList = pre ++ x :: suf)
    (hpass : ∀ y ∈ pre, vy_pass e.platform s m.cls g.pc cell.cls y) (hx : covers x g.pc = true) (h0 : x.catchType ≠ 0) {ct : ClassId} (hlx : s.vm.ClassLinks e.platform m.cls x.catchType ct) (hfx : s.vm.assignable cell.cls ct = true) :
    ∃ vm', Stand p l e R s m args below meth c (T.setVm vm') locs cells slots ∧ ∀ target, Steps p.tables e below ((T.setVm vm').setTop { g with pc := x.handlerPc, stack := [.ref a] }) target → Steps p.tables e below ((T.setTop g).pushFrame (.throwing a)) target := by
  subst hg
  obtain ⟨vm', hW', hq⟩ := vy_search (e := e) (s0 := s) (f := g) (a := a) (cell := cell) (fun k hk => by rw [hk] at hobj; cases hobj) hk0 x suf hx h0 hlx hfx pre ((T.setTop g).pushFrame (.throwing a)) X.warmed hcell hpass
  refine ⟨vm', X.noted hW', fun target hgo => ?_⟩
  obtain ⟨hgo1, hw1⟩ := X.here.throwing (g := g) a
  refine Steps.head hgo1 hw1 ?_
  have hfind : ∀ (Q : Handler → Pre) (E : CtlPost) (d : Bool) (acts : List Action), wp (findHandler g a) Q E e d acts ((T.setTop g).pushFrame (.throwing a)) ↔ Q (.found x.handlerPc) d acts (((T.setTop g).pushFrame (.throwing a)).setVm vm') := fun Q E d acts => by
    rw [Jvm.W.findHandler_eq (s := (T.setTop g).pushFrame (.throwing a)) (f := g) (meth := meth) (code := c) X.method' X.code, hsplit]
    exact hq Q E d acts
  have hone : (stepThrowing e ((T.setTop g).pushFrame (.throwing a)) a (.java g :: T.frames.tail)).1 = (((T.setTop g).pushFrame (.throwing a)).setVm vm').setFrames (.java { g with pc := x.handlerPc, stack := [.ref a] } :: T.frames.tail) := by
    simp only [stepThrowing, searchFrame, vmDo]
    generalize hr : Sem.go _ e false [] ((T.setTop g).pushFrame (.throwing a)) = res
    obtain ⟨as, rfl, ha⟩ := Sem.eq_ok_of hr (a := Handler.found x.handlerPc) (s' := ((T.setTop g).pushFrame (.throwing a)).setVm vm') (acts' := []) (by simp [hfind _ _ _ _])
    rfl
  rw [stepThread_throwing (frames_entered X.here.top _), hone]
  obtain ⟨g0, hg0⟩ := Option.isSome_iff_exists.mp X.here.top
  obtain ⟨r, hr⟩ := State.topJava?_eq_some.mp hg0
  have hr' : (T.setVm vm').frames = .java g0 :: r := hr
  rw [State.setTop_of_frames _ hr'] at hgo
  have e1 : (((T.setTop g).pushFrame (.throwing a)).setVm vm').setFrames (.java { g with pc := x.handlerPc, stack := [.ref a] } :: T.frames.tail) = (T.setVm vm').setFrames (.java { g with pc := x.handlerPc, stack := [.ref a] } :: r) := by
    rw [hr, List.tail_cons, State.pushFrame, State.setTop_of_frames _ hr]
    have e2 : ∀ (u : State) (F G : List Frame), ((u.setFrames F).setVm vm').setFrames G = (u.setVm vm').setFrames G := fun u F G => by
      have h1 : (u.setFrames F).setVm vm' = (u.setVm vm').setFrames F := rfl
      rw [h1, State.setFrames_setFrames]
    rw [State.setFrames_setFrames, e2]
  rw [e1]
  exact hgo
/-! ===== BEGIN words of one list among another's, by their places ===== -/
theorem goodIn_r {big : List Cond} (ws : List Cond) (ps : List Nat) (hp : ws = ps.filterMap (fun i => big[i]?)) (h : ws.all goodWord = true) : GoodIn big ws := by
  intro w hw
  have h1 := List.all_eq_true.mp h w hw
  rw [hp] at hw
  obtain ⟨i, -, hi⟩ := List.mem_filterMap.mp hw
  have hm : w ∈ big := by first | exact List.mem_of_getElem? hi | exact List.getElem?_mem hi
  exact ⟨hm, good_of_word h1⟩
theorem goodIn_app {big a b : List Cond} (ha : GoodIn big a) (hb : GoodIn big b) : GoodIn big (a ++ b) := fun w h => (List.mem_append.mp h).elim (ha w) (hb w)
theorem goodIn_ca {big a b : List Cond} {c : Cond} (ha : GoodIn big (c :: a)) (hb : GoodIn big b) : GoodIn big (c :: (a ++ b)) := fun w h => (List.mem_cons.mp h).elim (fun e => ha w (List.mem_cons.mpr (Or.inl e))) (fun h => (List.mem_append.mp h).elim (fun h => ha w (List.mem_cons.mpr (Or.inr h))) (hb w))
theorem goodIn_sub {big ws : List Cond} (hm : ∀ w ∈ ws, w ∈ big) (h : ws.all goodWord = true) : GoodIn big ws := fun w hw => ⟨hm w hw, good_of_word (List.all_eq_true.mp h w hw)⟩
/-! ===== END ===== -/

/-! ===== BEGIN exceptions that leave a method, and their catching by the caller (launches without stack traces) ===== -/
section VXA
/-! The laws vx_back, vx_callV, vx_callS, vx_callSW, vx_throw0, vx_throwS follow proofs of the library, with one case more: JvmDerived/Free/Laws.lean (Back.of_free), Shelf42/LK1.lean (callV, callS), Shelf/KitTraced.lean (throwNew0V, throwNewS). -/
/-- where a method has thrown q: the class by its name, the cell, what was written, the world -/
def vx_T (XC : String → State → State → Prop) (st : State) (q : Addr) (t : State) (mc ms : Nat) (free : Addr → Prop) : Prop :=
  ∃ (E : String) (ce : Cell) (L : List Loc), XC E st t ∧ t.heap[q]? = some ce ∧ ce.vm = .none ∧ st.vm.findClass E = some ce.cls ∧ st.WarmedH t.vm ∧ st.sameButNew ({ t with vm := st.vm } : State) L mc ms ∧ ∀ z ∈ L, free z.base
def vx_Q (Qc : Array Value → State → Outcome → State → Prop) (XC : String → State → State → Prop) (mc ms : Nat) (free : Addr → Prop) : Array Value → State → Outcome → State → Prop := fun a st o t =>
  (Qc a st o t ∧ ∃ L, FrameEnd st o t L mc ms ∧ ∀ q ∈ L, free q.base) ∨ ∃ q, o = .threw q ∧ vx_T XC st q t mc ms free
/-- a callee that returns or throws -/
def vx_Met (l : Launch) (y : MethodName) (ws : List Cond) (rm : Room) (Pc : Array Value → State → Prop) (Qc : Array Value → State → Outcome → State → Prop) (XC : String → State → State → Prop) (mc ms : Nat) (free : Addr → Prop) : Prop :=
  MetFree l y (headSpec ws rm) Pc (fun _ _ _ _ _ => True) (vx_Q Qc XC mc ms free)
def vx_Post (XC : String → State → State → Prop) (mc ms : Nat) (free : Addr → Prop) : Pt → Array Value → Addr → Pt → Prop := fun A a q B =>
  ∃ (g : JFrame) (mk : MethodId) (t : State) (L : List Loc) (E : String) (ce : Cell), B.U.heap = t.heap ∧ B.U.vm = t.vm ∧ XC E (A.U.calling g mk a) t ∧ t.heap[q]? = some ce ∧ ce.vm = .none ∧ A.U.vm.findClass E = some ce.cls ∧ B.locs = A.locs ++ L ∧ (∀ z ∈ L, free z.base) ∧ B.cells = A.cells + mc ∧ B.slots = A.slots + ms
def vx_Back (l : Launch) (R : Room) (p : Program) (e : Env) (below : List Frame) (s : State) (sargs : Array Value) (y : MethodName) (len W9 : Nat)
    (Pre : Pt → Array Value → Prop) (Post : Pt → Array Value → Option Value → Pt → Prop) (PostX : Pt → Array Value → Addr → Pt → Prop) : Prop :=
  ∀ (m : MethodId) (meth : Method) (c : Code) (A : Pt) (g : JFrame) (ig : Instr) (mk : MethodId) (a : Array Value),
    Stand p l e R s m sargs below meth c A.U A.locs A.cells A.slots → g.method = m → g.locals.size = c.maxLocals → decode c.code g.pc = .ok (ig, len) →
    2 * g.monitorRoom + (g.stack.map fun v => v.category).sum ≤ W9 → A.U.methodNamed? y = some mk → Pre A a →
    (∃ (v : Option Value) (B : Pt), Stand p l e R s m sargs below meth c B.U B.locs B.cells B.slots ∧ Post A a v B ∧
      Steps p.tables e below (doInvoke e (A.U.setTop g) [] mk a).1 (B.U.setTop { g with pc := g.pc + len, stack := v.toList ++ g.stack })) ∨
    (∃ (q : Addr) (B : Pt), Stand p l e R s m sargs below meth c B.U B.locs B.cells B.slots ∧ PostX A a q B ∧
      Steps p.tables e below (doInvoke e (A.U.setTop g) [] mk a).1 ((B.U.setTop g).pushFrame (.throwing q)))
section Payer
variable {l : Launch} {R : Room} {p : Program} {e : Env} {below : List Frame} {s : State} {sargs : Array Value} {y : MethodName} {len W9 : Nat}
theorem vx_back {ws : List Cond} {rm : Room} {Pc : Array Value → State → Prop} {Qc : Array Value → State → Outcome → State → Prop} {XC : String → State → State → Prop} {mc ms : Nat} {free : Addr → Prop} {bytes : ByteArray} {maxL : Nat} {ret : Option FieldType}
    (hM : vx_Met l y ws rm Pc Qc XC mc ms free) (hblind : FrameBlind Pc) (hrc : rm.cells = mc) (hrs : rm.slots = ms)
    (hframes : rm.frames + 1 ≤ R.frames) (hlocals : W9 + (maxL + 11) + rm.locals ≤ R.locals)
    (hws : ∀ w ∈ ws, ∀ a' U, s.WarmedH U.vm → w.before a' U = true) (hcode : Cond.code y bytes maxL ret ∈ ws) (hinit : ∀ a' U, s.WarmedH U.vm → (Cond.initialized y.cls).before a' U = true) :
    vx_Back l R p e below s sargs y len W9 (PreOf R mc ms Pc) (PostOf Qc mc ms free) (vx_Post XC mc ms free) := by
  intro m meth c A g ig mk a X hg hsize hdg hW hn hp
  have h1 : (headSpec ws rm).pre.before a A.U = true := atoms_intro fun w hw => hws w hw _ _ X.warmed
  have h2 : (Cond.code y bytes maxL ret).before a A.U = true := hws _ hcode _ _ X.warmed
  have h3 : (Cond.initialized y.cls).before a A.U = true := hinit _ _ X.warmed
  have h4 : A.cells + (headSpec ws rm).room.cells ≤ R.cells := by rw [show (headSpec ws rm).room.cells = mc from hrc]; exact hp.1
  have h5 : A.slots + (headSpec ws rm).room.slots ≤ R.slots := by rw [show (headSpec ws rm).room.slots = ms from hrs]; exact hp.2.1
  have hPc : Pc a (A.U.calling g mk a) := hblind _ _ _ _ hp.2.2
  obtain ⟨U, Ls, c0, s0⟩ := A
  dsimp only [Pt.U, Pt.locs, Pt.cells, Pt.slots] at h1 h2 h3 h4 h5 X hn hPc ⊢
  obtain ⟨methY, cY, hmY, hcY, -, hlY, -, -, -, -⟩ := Cond.code_spec hn h2
  obtain ⟨kY, hkY, -⟩ := className_of_methodNamed hn
  have hinitY : kY.init = .initialized := Cond.initialized_spec (findClass_of_methodNamed hn) hkY h3
  have h : At U g.method c below := by rw [hg]; exact X.here
  have hlocals9 : W9 + (maxL + 11) + (headSpec ws rm).room.locals ≤ R.locals := hlocals
  have happ : (headSpec ws rm).appliesLoose y e.platform (U.calling g mk a) = true :=
    Spec.appliesLoose_calling (g := g) h hdg hn hkY hinitY
      (X.room_calling (g := g) (R' := (headSpec ws rm).room) hsize hmY hcY hframes (by rw [hlY]; omega) h4 h5) h1
  obtain ⟨mid, hmid⟩ := h.above
  have hfr : (U.setTop g).frames = (.java g :: mid) ++ below := by rw [State.frames_setTop' g h.top, hmid]; rfl
  obtain ⟨o, s₂, hsteps, -, hend, hq⟩ := Steps.callFree hM p X.admits X.cas X.clock (acts := []) hfr happ hPc trivial
  have hq' : vx_Q Qc XC mc ms free a (U.calling g mk a) o s₂ := hq
  rw [State.frames_setTop' g h.top] at hend
  obtain ⟨g₀, hg0⟩ := Option.isSome_iff_exists.mp h.top
  obtain ⟨r, hr⟩ := State.topJava?_eq_some.mp hg0
  have hr' : (({ U with heap := s₂.heap, slotsUsed := s₂.slotsUsed } : State).setVm s₂.vm).frames = .java g₀ :: r := hr
  rcases hq' with ⟨hqc, L, hfe, hL⟩ | ⟨q, rfl, E, ce, L, hx, hce, hcv, hcl, hW₂, hsm, hL⟩
  · obtain ⟨⟨v, rfl⟩, hW₂, e2, q2, q3, q4, q5, q6⟩ := id hfe
    have e3 : s₂ = ({ (U.calling g mk a).setFrames s₂.frames with heap := s₂.heap, slotsUsed := s₂.slotsUsed } : State).setVm s₂.vm := by
      have : s₂ = ({ s₂ with vm := (U.calling g mk a).vm } : State).setVm s₂.vm := rfl
      rw [e2] at this
      exact this
    obtain ⟨c₂, i₂, len₂, hc₂, hd₂, hf₂⟩ := hend
    have hW' : U.WarmedH s₂.vm := hW₂
    have hcc : c₂ = c := by
      have h1 : s₂.code? g.method = U.code? g.method := by
        rw [State.code?_eq, State.code?_eq, hW'.alike.method?]
      exact Option.some.inj (hc₂.symm.trans (h1.trans h.code))
    subst hcc
    have hlen : len₂ = len := by rw [hdg] at hd₂; cases hd₂; rfl
    subst hlen
    have hs₂ : s₂ = (({ U with heap := s₂.heap, slotsUsed := s₂.slotsUsed } : State).setVm s₂.vm).setTop { g with pc := g.pc + len₂, stack := v.toList ++ g.stack } := by
      refine e3.trans ?_
      rw [hf₂, State.calling_eq h.top, State.setFrames_setFrames, State.setTop_of_frames _ hr', hr]
      rfl
    have hsame : U.sameButNew ({ U with heap := s₂.heap, slotsUsed := s₂.slotsUsed } : State) L mc ms := by
      refine ⟨?_, q2, q3, q4, q5, q6⟩
      obtain ⟨t, ht, -⟩ := State.frames_cons hr
      show ({ U with heap := s₂.heap, slotsUsed := s₂.slotsUsed } : State) = { U.setFrames U.frames with heap := s₂.heap, slotsUsed := s₂.slotsUsed }
      rw [State.setFrames_self ht]
    subst hg
    refine Or.inl ⟨v, ⟨(({ U with heap := s₂.heap, slotsUsed := s₂.slotsUsed } : State).setVm s₂.vm), Ls ++ L, c0 + mc, s0 + ms⟩,
      ⟨X.admits, X.cas, X.clock, X.frames, X.room, X.hears, X.method, X.code, (X.here.setHeapUsed s₂.heap s₂.slotsUsed).setVm hW'.alike, X.tail, State.WarmedH.trans X.warmed hW', X.limits, X.bytes, X.same.trans (hsame.setVm s.vm)⟩,
      ⟨g, mk, s₂, L, rfl, rfl, hqc, rfl, hL, rfl, rfl⟩, ?_⟩
    show Steps p.tables e below _ ((({ U with heap := s₂.heap, slotsUsed := s₂.slotsUsed } : State).setVm s₂.vm).setTop { g with pc := g.pc + len₂, stack := v.toList ++ g.stack })
    rw [← hs₂]
    exact hsteps
  · obtain ⟨e2, q2, q3, q4, q5, q6⟩ := id hsm
    have e3 : s₂ = ({ (U.calling g mk a).setFrames s₂.frames with heap := s₂.heap, slotsUsed := s₂.slotsUsed } : State).setVm s₂.vm := by
      have : s₂ = ({ s₂ with vm := (U.calling g mk a).vm } : State).setVm s₂.vm := rfl
      rw [e2] at this
      exact this
    have hf₂ : s₂.frames = .throwing q :: .java g :: U.frames.tail := hend
    have hW' : U.WarmedH s₂.vm := hW₂
    have hs₂ : s₂ = ((({ U with heap := s₂.heap, slotsUsed := s₂.slotsUsed } : State).setVm s₂.vm).setTop g).pushFrame (.throwing q) := by
      refine e3.trans ?_
      rw [hf₂, State.calling_eq h.top, State.setFrames_setFrames, State.pushFrame, State.frames_setTop _ hr', State.setTop_of_frames _ hr', State.setFrames_setFrames, hr]
      rfl
    have hsame : U.sameButNew ({ U with heap := s₂.heap, slotsUsed := s₂.slotsUsed } : State) L mc ms := by
      refine ⟨?_, q2, q3, q4, q5, q6⟩
      obtain ⟨t, ht, -⟩ := State.frames_cons hr
      show ({ U with heap := s₂.heap, slotsUsed := s₂.slotsUsed } : State) = { U.setFrames U.frames with heap := s₂.heap, slotsUsed := s₂.slotsUsed }
      rw [State.setFrames_self ht]
    subst hg
    refine Or.inr ⟨q, ⟨(({ U with heap := s₂.heap, slotsUsed := s₂.slotsUsed } : State).setVm s₂.vm), Ls ++ L, c0 + mc, s0 + ms⟩,
      ⟨X.admits, X.cas, X.clock, X.frames, X.room, X.hears, X.method, X.code, (X.here.setHeapUsed s₂.heap s₂.slotsUsed).setVm hW'.alike, X.tail, State.WarmedH.trans X.warmed hW', X.limits, X.bytes, X.same.trans (hsame.setVm s.vm)⟩,
      ⟨g, mk, s₂, L, E, ce, rfl, rfl, hx, hce, hcv, hcl, rfl, hL, rfl, rfl⟩, ?_⟩
    show Steps p.tables e below _ (((({ U with heap := s₂.heap, slotsUsed := s₂.slotsUsed } : State).setVm s₂.vm).setTop g).pushFrame (.throwing q))
    rw [← hs₂]
    exact hsteps
end Payer
section Calls
variable {p : Program} {l : Launch} {e : Env} {R : Room} {s : State} {m : MethodId} {args : Array Value} {below : List Frame} {meth : Method} {c : Code} {T : State} {locs : List Loc} {cells slots : Nat}
theorem vx_callV (X : Stand p l e R s m args below meth c T locs cells slots) (hexec : p.tables.exec = Jvm.exec) {own C : String} {index : Nat} {y : MethodName} {bytes : ByteArray} {maxL : Nat} {ret : Option FieldType}
    (hown : s.vm.findClass own = some m.cls) (hlink : (Cond.methodLink own index y).before args s = true) (hinst : (Cond.instanceMethod y).before args s = true) (hsel : (Cond.selects C y y).before args s = true)
    (hcode : (Cond.code y bytes maxL ret).before args s = true) (hy : y.cls ≠ "java/lang/invoke/MethodHandle" ∧ y.cls ≠ "java/lang/invoke/VarHandle")
    {W9 : Nat} {Pre : Pt → Array Value → Prop} {Post : Pt → Array Value → Option Value → Pt → Prop} {PostX : Pt → Array Value → Addr → Pt → Prop} (hK : vx_Back l R p e below s args y 3 W9 Pre Post PostX)
    {b : Addr} {cellB : Cell} (hcell : T.heap[b]? = some cellB) (hobj : cellB.vm.isStatics = false) (hcls : s.vm.findClass C = some cellB.cls)
    {g : JFrame} (hg : g.method = m) (hsize : g.locals.size = c.maxLocals) {argsL rest : List Value} (hlen : ∀ sig, parseMethodDescriptor y.desc = some sig → argsL.length = sig.parameters.length)
    (hstack : g.stack = argsL.reverse ++ .ref b :: rest) (hW : 2 * g.monitorRoom + (rest.map fun v => v.category).sum ≤ W9) (hdg : decode c.code g.pc = .ok (.invokevirtual index, 3))
    (hpre : ∀ vm₁, s.WarmedH vm₁ → Pre ⟨T.setVm vm₁, locs, cells, slots⟩ (Value.ref b :: argsL).toArray) :
    (∃ (v : Option Value) (vm₁ : Vm) (B : Pt), s.WarmedH vm₁ ∧ Stand p l e R s m args below meth c B.U B.locs B.cells B.slots ∧ Post ⟨T.setVm vm₁, locs, cells, slots⟩ (Value.ref b :: argsL).toArray v B ∧
      ∀ target, Steps p.tables e below (B.U.setTop { g with pc := g.pc + 3, stack := v.toList ++ rest }) target → Steps p.tables e below (T.setTop g) target) ∨
    (∃ (q : Addr) (vm₁ : Vm) (B : Pt), s.WarmedH vm₁ ∧ Stand p l e R s m args below meth c B.U B.locs B.cells B.slots ∧ PostX ⟨T.setVm vm₁, locs, cells, slots⟩ (Value.ref b :: argsL).toArray q B ∧
      Steps p.tables e below (T.setTop g) ((B.U.setTop { g with stack := rest }).pushFrame (.throwing q))) := by
  obtain ⟨mk, methM, hnamed, hmethM, hstM, habM⟩ := Cond.instanceMethod_spec hinst
  obtain ⟨methM', cM, hmethM', -, -, -, -, -, -, hsigM⟩ := Cond.code_spec hnamed hcode
  cases hmethM.symm.trans hmethM'
  obtain ⟨c2, r2, m2, q1, q2, q3, q4, kP, hkP, hkPi⟩ := Cond.selects_spec hsel
  cases hcls.symm.trans q1
  cases (State.methodFound?_of_named hnamed hy).symm.trans q2
  cases hnamed.symm.trans q3
  have hselP : selectMethod e.platform s.vm cellB.cls mk = .method mk := by rw [Launch.admits_selectMethod X.admits]; exact q4
  obtain ⟨vm₁, X₁, hstep₁⟩ := X.invokevirtual hexec hown hlink hnamed hmethM hstM hkP hkPi hy (a := b) (cell := cellB) hcell
    (fun z h => by rw [h] at hobj; cases hobj) hselP hmethM habM hkP hkPi (g := g) hg (argsL := argsL) (rest := rest) (hlen _ hsigM) hstack hdg
  rcases hK m meth c ⟨T.setVm vm₁, locs, cells, slots⟩ { g with stack := rest } (.invokevirtual index) mk (Value.ref b :: argsL).toArray X₁ hg hsize hdg hW (X₁.named hnamed) (hpre vm₁ X₁.warmed) with ⟨v, B, X', hpost, hsteps⟩ | ⟨q, B, X', hpost, hsteps⟩
  · exact Or.inl ⟨v, vm₁, B, X₁.warmed, X', hpost, fun target h => hstep₁ _ fun acts => by rw [doInvoke_state]; exact hsteps.trans h⟩
  · exact Or.inr ⟨q, vm₁, B, X₁.warmed, X', hpost, hstep₁ _ fun acts => by rw [doInvoke_state]; exact hsteps⟩
theorem vx_callS (X : Stand p l e R s m args below meth c T locs cells slots) (hexec : p.tables.exec = Jvm.exec) {own : String} {index : Nat} {y : MethodName} {bytes : ByteArray} {maxL : Nat} {ret : Option FieldType}
    (hown : s.vm.findClass own = some m.cls) (hlink : (Cond.methodLink own index y).before args s = true) (hstat : (Cond.static y).before args s = true) (hinit : (Cond.initialized y.cls).before args s = true)
    (hcode : (Cond.code y bytes maxL ret).before args s = true) (hy : y.cls ≠ "java/lang/invoke/MethodHandle" ∧ y.cls ≠ "java/lang/invoke/VarHandle")
    {W9 : Nat} {Pre : Pt → Array Value → Prop} {Post : Pt → Array Value → Option Value → Pt → Prop} {PostX : Pt → Array Value → Addr → Pt → Prop} (hK : vx_Back l R p e below s args y 3 W9 Pre Post PostX)
    {g : JFrame} (hg : g.method = m) (hsize : g.locals.size = c.maxLocals) {argsL rest : List Value} (hlen : ∀ sig, parseMethodDescriptor y.desc = some sig → argsL.length = sig.parameters.length)
    (hstack : g.stack = argsL.reverse ++ rest) (hW : 2 * g.monitorRoom + (rest.map fun v => v.category).sum ≤ W9) (hdg : decode c.code g.pc = .ok (.invokestatic index, 3))
    (hpre : ∀ vm₁, s.WarmedH vm₁ → Pre ⟨T.setVm vm₁, locs, cells, slots⟩ argsL.toArray) :
    (∃ (v : Option Value) (vm₁ : Vm) (B : Pt), s.WarmedH vm₁ ∧ Stand p l e R s m args below meth c B.U B.locs B.cells B.slots ∧ Post ⟨T.setVm vm₁, locs, cells, slots⟩ argsL.toArray v B ∧
      ∀ target, Steps p.tables e below (B.U.setTop { g with pc := g.pc + 3, stack := v.toList ++ rest }) target → Steps p.tables e below (T.setTop g) target) ∨
    (∃ (q : Addr) (vm₁ : Vm) (B : Pt), s.WarmedH vm₁ ∧ Stand p l e R s m args below meth c B.U B.locs B.cells B.slots ∧ PostX ⟨T.setVm vm₁, locs, cells, slots⟩ argsL.toArray q B ∧
      Steps p.tables e below (T.setTop g) ((B.U.setTop { g with stack := rest }).pushFrame (.throwing q))) := by
  obtain ⟨mk, hnamed⟩ := Cond.code_named hcode
  obtain ⟨methM, cM, hmethM, -, -, -, -, -, -, hsigM⟩ := Cond.code_spec hnamed hcode
  have hstatic : methM.isStatic = true := Cond.static_spec hnamed hmethM hstat
  obtain ⟨kP, hkP, -⟩ := className_of_methodNamed hnamed
  have hinitP : kP.init = .initialized := Cond.initialized_spec (findClass_of_methodNamed hnamed) hkP hinit
  obtain ⟨vm₁, X₁, hstep₁⟩ := X.invokestatic hexec hown hlink hnamed hmethM hstatic hkP hinitP hy (g := g) hg (argsL := argsL) (rest := rest) (hlen _ hsigM) hstack hdg
  rcases hK m meth c ⟨T.setVm vm₁, locs, cells, slots⟩ { g with stack := rest } (.invokestatic index) mk argsL.toArray X₁ hg hsize hdg hW (X₁.named hnamed) (hpre vm₁ X₁.warmed) with ⟨v, B, X', hpost, hsteps⟩ | ⟨q, B, X', hpost, hsteps⟩
  · exact Or.inl ⟨v, vm₁, B, X₁.warmed, X', hpost, fun target h => hstep₁ _ fun acts => by rw [doInvoke_state]; exact hsteps.trans h⟩
  · exact Or.inr ⟨q, vm₁, B, X₁.warmed, X', hpost, hstep₁ _ fun acts => by rw [doInvoke_state]; exact hsteps⟩
end Calls
theorem vx_cls {s : State} {T : State} {vm₁ : Vm} {E : String} {k : ClassId} (hW : s.WarmedH vm₁) (h : (T.setVm vm₁).vm.findClass E = some k) : s.vm.findClass E = some k := by
  have h1 : vm₁.findClass E = some k := h
  rw [hW.alike.findClass] at h1
  exact h1
/-- the method's frame g, with q thrown over it -/
def vx_W (p : Program) (l : Launch) (e : Env) (R : Room) (s : State) (m : MethodId) (args : Array Value) (below : List Frame) (meth : Method) (c : Code) (H : Heap) (locs : List Loc) (cells slots : Nat) (Q : State → Prop) (g : JFrame) (q : Addr) : Prop :=
  ∀ T : State, T.heap = H → Stand p l e R s m args below meth c T locs cells slots → ∃ t, Steps p.tables e below ((T.setTop g).pushFrame (.throwing q)) t ∧ Q t
def vx_Run (p : Program) (l : Launch) (e : Env) (R : Room) (s : State) (m : MethodId) (args : Array Value) (below : List Frame) (meth : Method) (c : Code) (H : Heap) (locs : List Loc) (cells slots mc ms : Nat) (g : JFrame) (rest : List Value) (Qa : State → Outcome → State → Prop) (XC : String → State → State → Prop) (free : Addr → Prop) : Prop :=
  ∀ T : State, T.heap = H → Stand p l e R s m args below meth c T locs cells slots →
    (∃ (v : Option Value) (st₀ t T' : State) (L : List Loc), st₀.heap = H ∧ Stand p l e R s m args below meth c T' (locs ++ L) (cells + mc) (slots + ms) ∧ (∀ q ∈ L, free q.base) ∧ T'.heap = t.heap ∧ T'.vm = t.vm ∧ Qa st₀ (.returned v) t ∧
      Goes p e below T g T' { g with pc := g.pc + 3, stack := v.toList ++ rest }) ∨
    (∃ (q : Addr) (st₀ t T' : State) (L : List Loc) (E : String) (ce : Cell), st₀.heap = H ∧ Stand p l e R s m args below meth c T' (locs ++ L) (cells + mc) (slots + ms) ∧ (∀ z ∈ L, free z.base) ∧ T'.heap = t.heap ∧ T'.vm = t.vm ∧ XC E st₀ t ∧ t.heap[q]? = some ce ∧ ce.vm = .none ∧ s.vm.findClass E = some ce.cls ∧
      Steps p.tables e below (T.setTop g) ((T'.setTop { g with stack := rest }).pushFrame (.throwing q)))
def vx_X {S : Type} (px : S → Prop) (B : String → S → State → Prop) (A : Nat → Prop) : String → State → State → Prop := fun E st t => ∃ u : S, px u ∧ B E u t ∧ va_F A st t
section Runs
variable {p : Program} {l : Launch} {e : Env} {R : Room} {s : State} {m : MethodId} {args : Array Value} {below : List Frame} {meth : Method} {c : Code} {H : Heap} {locs : List Loc} {cells slots : Nat}
variable {y : MethodName} {bytes cc : ByteArray} {maxL nL mc ms n index : Nat} {ret : Option FieldType} {ws : List Cond} {rm : Room} {Pc : Array Value → State → Prop} {Qc : Array Value → State → Outcome → State → Prop} {XC : String → State → State → Prop} {free : Addr → Prop} {Ts : List Cond} {own C : String} {b : Addr} {As rest : List Value} {g : JFrame}
theorem vx_callBack (cb : CallB R s args own index y bytes maxL ret ws rm mc ms n) (hM : vx_Met l y ws rm Pc Qc XC mc ms free) (hbl : FrameBlind Pc) : vx_Back l R p e below s args y 3 8 (PreOf R mc ms Pc) (PostOf Qc mc ms free) (vx_Post XC mc ms free) := by
  obtain ⟨hrc, hrs, hfr, hlo, hws, hcw, -, hini, -⟩ := cb
  exact vx_back (bytes := bytes) (maxL := maxL) (ret := ret) hM hbl hrc hrs hfr hlo hws hcw (fun a' U hW => word_at hW (Or.inl (by first | rfl | simp [Cond.onTables, Cond.keeps, Cond.steady])) hini)
theorem vx_runV (S : CallFix p m c cc nL s args Ts own) (hM : vx_Met l y ws rm Pc Qc XC mc ms free) (cw : CallW R s args own C index y bytes maxL ret ws rm mc ms n) (hp : PreV s H C b Pc As)
    (hg : g.method = m) (hn : As.length = n) (hsize : g.locals.size = nL) (hstack : g.stack = As.reverse ++ .ref b :: rest) (hW : 2 * g.monitorRoom + (rest.map fun v => v.category).sum ≤ 8) (hdg : decode cc g.pc = .ok (.invokevirtual index, 3)) (hf : cells + mc ≤ R.cells ∧ slots + ms ≤ R.slots) :
    vx_Run p l e R s m args below meth c H locs cells slots mc ms g rest (Qc (Value.ref b :: As).toArray) XC free := by
  have hK : vx_Back l R p e below s args y 3 8 (PreOf R mc ms Pc) (PostOf Qc mc ms free) (vx_Post XC mc ms free) := vx_callBack cw.1 hM hp.1
  obtain ⟨⟨-, -, -, -, -, -, hcode, -, hy, hlen, hl⟩, hin, hse⟩ := cw
  obtain ⟨hx, hb, hml, ho, -⟩ := S
  obtain ⟨-, ⟨cellB, hcB, hoB, hclB⟩, hPc⟩ := hp
  intro T hT X
  rcases vx_callV X hx (C := C) (bytes := bytes) (maxL := maxL) (ret := ret) ho hl hin hse hcode hy hK (by rw [hT]; exact hcB) hoB hclB hg (hsize.trans hml.symm) (argsL := As) (rest := rest) (fun sig h => hn.trans (hlen sig h)) hstack hW (by rw [hb]; exact hdg)
    (fun vm₁ hW₁ => ⟨hf.1, hf.2, hPc (T.setVm vm₁) hT hW₁⟩) with ⟨v, vm₁, ⟨U', l2, c2, s2⟩, hW₁, X', ⟨g', mk, t, L, e1, e2, hq, h1, hL, h2, h3⟩, st⟩ | ⟨q, vm₁, ⟨U', l2, c2, s2⟩, hW₁, X', ⟨g', mk, t, L, E, ce, e1, e2, hq, hce, hcv, hcl, h1, hL, h2, h3⟩, st⟩
  · dsimp only [Pt.U, Pt.locs, Pt.cells, Pt.slots] at X' e1 e2 h1 h2 h3 st
    subst h1; subst h2; subst h3
    exact Or.inl ⟨v, (T.setVm vm₁).calling g' mk (Value.ref b :: As).toArray, t, U', L, hT, X', hL, e1, e2, hq, st⟩
  · dsimp only [Pt.U, Pt.locs, Pt.cells, Pt.slots] at X' e1 e2 h1 h2 h3 st hcl
    subst h1; subst h2; subst h3
    exact Or.inr ⟨q, (T.setVm vm₁).calling g' mk (Value.ref b :: As).toArray, t, U', L, E, ce, hT, X', hL, e1, e2, hq, hce, hcv, vx_cls hW₁ hcl, st⟩
theorem vx_runS (S : CallFix p m c cc nL s args Ts own) (hM : vx_Met l y ws rm Pc Qc XC mc ms free) (cw : CallB R s args own index y bytes maxL ret ws rm mc ms n ∧ (Cond.static y).before args s = true) (hp : PreS s H Pc As)
    (hg : g.method = m) (hn : As.length = n) (hsize : g.locals.size = nL) (hstack : g.stack = As.reverse ++ rest) (hW : 2 * g.monitorRoom + (rest.map fun v => v.category).sum ≤ 8) (hdg : decode cc g.pc = .ok (.invokestatic index, 3)) (hf : cells + mc ≤ R.cells ∧ slots + ms ≤ R.slots) :
    vx_Run p l e R s m args below meth c H locs cells slots mc ms g rest (Qc As.toArray) XC free := by
  have hK : vx_Back l R p e below s args y 3 8 (PreOf R mc ms Pc) (PostOf Qc mc ms free) (vx_Post XC mc ms free) := vx_callBack cw.1 hM hp.1
  obtain ⟨⟨-, -, -, -, -, -, hcode, hini, hy, hlen, hl⟩, hstt⟩ := cw
  obtain ⟨hx, hb, hml, ho, -⟩ := S
  intro T hT X
  rcases vx_callS X hx (bytes := bytes) (maxL := maxL) (ret := ret) ho hl hstt hini hcode hy hK hg (hsize.trans hml.symm) (argsL := As) (rest := rest) (fun sig h => hn.trans (hlen sig h)) hstack hW (by rw [hb]; exact hdg)
    (fun vm₁ hW₁ => ⟨hf.1, hf.2, hp.2 (T.setVm vm₁) hT hW₁⟩) with ⟨v, vm₁, ⟨U', l2, c2, s2⟩, hW₁, X', ⟨g', mk, t, L, e1, e2, hq, h1, hL, h2, h3⟩, st⟩ | ⟨q, vm₁, ⟨U', l2, c2, s2⟩, hW₁, X', ⟨g', mk, t, L, E, ce, e1, e2, hq, hce, hcv, hcl, h1, hL, h2, h3⟩, st⟩
  · dsimp only [Pt.U, Pt.locs, Pt.cells, Pt.slots] at X' e1 e2 h1 h2 h3 st
    subst h1; subst h2; subst h3
    exact Or.inl ⟨v, (T.setVm vm₁).calling g' mk As.toArray, t, U', L, hT, X', hL, e1, e2, hq, st⟩
  · dsimp only [Pt.U, Pt.locs, Pt.cells, Pt.slots] at X' e1 e2 h1 h2 h3 st hcl
    subst h1; subst h2; subst h3
    exact Or.inr ⟨q, (T.setVm vm₁).calling g' mk As.toArray, t, U', L, E, ce, hT, X', hL, e1, e2, hq, hce, hcv, vx_cls hW₁ hcl, st⟩
end Runs
section Rows
variable {p : Program} {l : Launch} {e : Env} {R : Room} {s : State} {m : MethodId} {args : Array Value} {below : List Frame} {meth : Method} {c : Code} {H : Heap} {locs : List Loc} {cells slots : Nat} {Q : State → Prop}
variable {mc ms : Nat} {free : Addr → Prop} {A0 A1 : Nat → Prop} {H0 : Heap} {a : Array Value} {pc : Nat} {ls : Array Slot} {st0 rest : List Value}
theorem vx_keep {st₀ t T' : State} {L : List Loc} (h0 : st₀.heap = H) (e1 : T'.heap = t.heap) (hS : va_S A0 H0 H locs) (hA : ∀ q, q < H.size → A1 q → A0 q) (hf : ∀ q, free q → A0 q) (hL : ∀ q ∈ L, free q.base) (hF : va_F A1 st₀ t) :
    H.size ≤ T'.heap.size ∧ (∀ q : Nat, q < H.size → ¬ A1 q → T'.heap[q]? = H[q]?) ∧ va_S A0 H0 T'.heap (locs ++ L) := by
  obtain ⟨hz, hk⟩ := hF
  rw [h0] at hz hk
  exact ⟨by rw [e1]; exact hz, fun q h1 h2 => by rw [e1]; exact hk q h1 h2,
    ⟨Nat.le_trans hS.1 (by rw [e1]; exact hz), fun q h1 h2 => by rw [e1, hk q (Nat.lt_of_lt_of_le h1 hS.1) (fun z => h2 (hA q (Nat.lt_of_lt_of_le h1 hS.1) z))]; exact hS.2.1 q h1 h2, fun q hq => by
      rcases List.mem_append.mp hq with h | h
      · exact hS.2.2 q h
      · exact hf _ (hL q h)⟩⟩
theorem vx_calli {S SX : Type} {post : Int32 → S → Prop} {px : SX → Prop} {B : S → State → Prop} {BX : String → SX → State → Prop} {AX : Nat → Prop} (hr : vx_Run p l e R s m args below meth c H locs cells slots mc ms (F0 m pc ls st0) rest (va_Qi post B A1 a) (vx_X px BX AX) free) (hS : va_S A0 H0 H locs) (hA : ∀ q, q < H.size → A1 q → A0 q) (hf : ∀ q, free q → A0 q) (hAX : ∀ q, q < H.size → AX q → A0 q)
    (kx : ∀ (E : String) (ce : Cell) (q9 : Addr) (u : SX) (t : State) (H1 : Heap) (locs1 : List Loc), t.heap = H1 → s.vm.Alike t.vm → px u → BX E u t → H.size ≤ H1.size → (∀ q : Nat, q < H.size → ¬ AX q → H1[q]? = H[q]?) → va_S A0 H0 H1 locs1 → H1[q9]? = some ce → ce.vm = .none → s.vm.findClass E = some ce.cls → vx_W p l e R s m args below meth c H1 locs1 (cells + mc) (slots + ms) Q (F0 m pc ls rest) q9)
    (kk : ∀ (r : Int32) (u : S) (t : State) (H1 : Heap) (locs1 : List Loc), t.heap = H1 → s.vm.Alike t.vm → post r u → B u t → H.size ≤ H1.size → (∀ q : Nat, q < H.size → ¬ A1 q → H1[q]? = H[q]?) → va_S A0 H0 H1 locs1 → W p l e R s m args below meth c H1 locs1 (cells + mc) (slots + ms) Q (F0 m (pc + 3) ls (.int r :: rest))) : W p l e R s m args below meth c H locs cells slots Q (F0 m pc ls st0) := by
  intro T hT X
  rcases hr T hT X with ⟨v, st₀, t, T', L, h0, X', hL, e1, e2, ⟨⟨r, u, hv, hp, hb⟩, hF⟩, st⟩ | ⟨q, st₀, t, T', L, E, ce, h0, X', hL, e1, e2, ⟨u, hp, hb, hF⟩, hce, hcv, hcl, st⟩
  · cases hv
    obtain ⟨k1, k2, k3⟩ := vx_keep h0 e1 hS hA hf hL hF
    obtain ⟨t2, a1, b1⟩ := kk r u t T'.heap (locs ++ L) e1.symm (by rw [← e2]; exact X'.warmed.alike) hp hb k1 k2 k3 T' rfl X'
    exact ⟨t2, st t2 a1, b1⟩
  · obtain ⟨k1, k2, k3⟩ := vx_keep h0 e1 hS hAX hf hL hF
    obtain ⟨t2, a1, b1⟩ := kx E ce q u t T'.heap (locs ++ L) e1.symm (by rw [← e2]; exact X'.warmed.alike) hp hb k1 k2 k3 (by rw [e1]; exact hce) hcv hcl T' rfl X'
    exact ⟨t2, st.trans a1, b1⟩
theorem vx_calll {S SX : Type} {post : Int64 → S → Prop} {px : SX → Prop} {B : S → State → Prop} {BX : String → SX → State → Prop} {AX : Nat → Prop} (hr : vx_Run p l e R s m args below meth c H locs cells slots mc ms (F0 m pc ls st0) rest (va_Ql post B A1 a) (vx_X px BX AX) free) (hS : va_S A0 H0 H locs) (hA : ∀ q, q < H.size → A1 q → A0 q) (hf : ∀ q, free q → A0 q) (hAX : ∀ q, q < H.size → AX q → A0 q)
    (kx : ∀ (E : String) (ce : Cell) (q9 : Addr) (u : SX) (t : State) (H1 : Heap) (locs1 : List Loc), t.heap = H1 → s.vm.Alike t.vm → px u → BX E u t → H.size ≤ H1.size → (∀ q : Nat, q < H.size → ¬ AX q → H1[q]? = H[q]?) → va_S A0 H0 H1 locs1 → H1[q9]? = some ce → ce.vm = .none → s.vm.findClass E = some ce.cls → vx_W p l e R s m args below meth c H1 locs1 (cells + mc) (slots + ms) Q (F0 m pc ls rest) q9)
    (kk : ∀ (r : Int64) (u : S) (t : State) (H1 : Heap) (locs1 : List Loc), t.heap = H1 → s.vm.Alike t.vm → post r u → B u t → H.size ≤ H1.size → (∀ q : Nat, q < H.size → ¬ A1 q → H1[q]? = H[q]?) → va_S A0 H0 H1 locs1 → W p l e R s m args below meth c H1 locs1 (cells + mc) (slots + ms) Q (F0 m (pc + 3) ls (.long r :: rest))) : W p l e R s m args below meth c H locs cells slots Q (F0 m pc ls st0) := by
  intro T hT X
  rcases hr T hT X with ⟨v, st₀, t, T', L, h0, X', hL, e1, e2, ⟨⟨r, u, hv, hp, hb⟩, hF⟩, st⟩ | ⟨q, st₀, t, T', L, E, ce, h0, X', hL, e1, e2, ⟨u, hp, hb, hF⟩, hce, hcv, hcl, st⟩
  · cases hv
    obtain ⟨k1, k2, k3⟩ := vx_keep h0 e1 hS hA hf hL hF
    obtain ⟨t2, a1, b1⟩ := kk r u t T'.heap (locs ++ L) e1.symm (by rw [← e2]; exact X'.warmed.alike) hp hb k1 k2 k3 T' rfl X'
    exact ⟨t2, st t2 a1, b1⟩
  · obtain ⟨k1, k2, k3⟩ := vx_keep h0 e1 hS hAX hf hL hF
    obtain ⟨t2, a1, b1⟩ := kx E ce q u t T'.heap (locs ++ L) e1.symm (by rw [← e2]; exact X'.warmed.alike) hp hb k1 k2 k3 (by rw [e1]; exact hce) hcv hcl T' rfl X'
    exact ⟨t2, st.trans a1, b1⟩
theorem vx_callf {S SX : Type} {post : UInt32 → S → Prop} {px : SX → Prop} {B : S → State → Prop} {BX : String → SX → State → Prop} {AX : Nat → Prop} (hr : vx_Run p l e R s m args below meth c H locs cells slots mc ms (F0 m pc ls st0) rest (va_Qf post B A1 a) (vx_X px BX AX) free) (hS : va_S A0 H0 H locs) (hA : ∀ q, q < H.size → A1 q → A0 q) (hf : ∀ q, free q → A0 q) (hAX : ∀ q, q < H.size → AX q → A0 q)
    (kx : ∀ (E : String) (ce : Cell) (q9 : Addr) (u : SX) (t : State) (H1 : Heap) (locs1 : List Loc), t.heap = H1 → s.vm.Alike t.vm → px u → BX E u t → H.size ≤ H1.size → (∀ q : Nat, q < H.size → ¬ AX q → H1[q]? = H[q]?) → va_S A0 H0 H1 locs1 → H1[q9]? = some ce → ce.vm = .none → s.vm.findClass E = some ce.cls → vx_W p l e R s m args below meth c H1 locs1 (cells + mc) (slots + ms) Q (F0 m pc ls rest) q9)
    (kk : ∀ (r : UInt32) (u : S) (t : State) (H1 : Heap) (locs1 : List Loc), t.heap = H1 → s.vm.Alike t.vm → post r u → B u t → H.size ≤ H1.size → (∀ q : Nat, q < H.size → ¬ A1 q → H1[q]? = H[q]?) → va_S A0 H0 H1 locs1 → W p l e R s m args below meth c H1 locs1 (cells + mc) (slots + ms) Q (F0 m (pc + 3) ls (.float r :: rest))) : W p l e R s m args below meth c H locs cells slots Q (F0 m pc ls st0) := by
  intro T hT X
  rcases hr T hT X with ⟨v, st₀, t, T', L, h0, X', hL, e1, e2, ⟨⟨r, u, hv, hp, hb⟩, hF⟩, st⟩ | ⟨q, st₀, t, T', L, E, ce, h0, X', hL, e1, e2, ⟨u, hp, hb, hF⟩, hce, hcv, hcl, st⟩
  · cases hv
    obtain ⟨k1, k2, k3⟩ := vx_keep h0 e1 hS hA hf hL hF
    obtain ⟨t2, a1, b1⟩ := kk r u t T'.heap (locs ++ L) e1.symm (by rw [← e2]; exact X'.warmed.alike) hp hb k1 k2 k3 T' rfl X'
    exact ⟨t2, st t2 a1, b1⟩
  · obtain ⟨k1, k2, k3⟩ := vx_keep h0 e1 hS hAX hf hL hF
    obtain ⟨t2, a1, b1⟩ := kx E ce q u t T'.heap (locs ++ L) e1.symm (by rw [← e2]; exact X'.warmed.alike) hp hb k1 k2 k3 (by rw [e1]; exact hce) hcv hcl T' rfl X'
    exact ⟨t2, st.trans a1, b1⟩
theorem vx_calld {S SX : Type} {post : UInt64 → S → Prop} {px : SX → Prop} {B : S → State → Prop} {BX : String → SX → State → Prop} {AX : Nat → Prop} (hr : vx_Run p l e R s m args below meth c H locs cells slots mc ms (F0 m pc ls st0) rest (va_Qd post B A1 a) (vx_X px BX AX) free) (hS : va_S A0 H0 H locs) (hA : ∀ q, q < H.size → A1 q → A0 q) (hf : ∀ q, free q → A0 q) (hAX : ∀ q, q < H.size → AX q → A0 q)
    (kx : ∀ (E : String) (ce : Cell) (q9 : Addr) (u : SX) (t : State) (H1 : Heap) (locs1 : List Loc), t.heap = H1 → s.vm.Alike t.vm → px u → BX E u t → H.size ≤ H1.size → (∀ q : Nat, q < H.size → ¬ AX q → H1[q]? = H[q]?) → va_S A0 H0 H1 locs1 → H1[q9]? = some ce → ce.vm = .none → s.vm.findClass E = some ce.cls → vx_W p l e R s m args below meth c H1 locs1 (cells + mc) (slots + ms) Q (F0 m pc ls rest) q9)
    (kk : ∀ (r : UInt64) (u : S) (t : State) (H1 : Heap) (locs1 : List Loc), t.heap = H1 → s.vm.Alike t.vm → post r u → B u t → H.size ≤ H1.size → (∀ q : Nat, q < H.size → ¬ A1 q → H1[q]? = H[q]?) → va_S A0 H0 H1 locs1 → W p l e R s m args below meth c H1 locs1 (cells + mc) (slots + ms) Q (F0 m (pc + 3) ls (.double r :: rest))) : W p l e R s m args below meth c H locs cells slots Q (F0 m pc ls st0) := by
  intro T hT X
  rcases hr T hT X with ⟨v, st₀, t, T', L, h0, X', hL, e1, e2, ⟨⟨r, u, hv, hp, hb⟩, hF⟩, st⟩ | ⟨q, st₀, t, T', L, E, ce, h0, X', hL, e1, e2, ⟨u, hp, hb, hF⟩, hce, hcv, hcl, st⟩
  · cases hv
    obtain ⟨k1, k2, k3⟩ := vx_keep h0 e1 hS hA hf hL hF
    obtain ⟨t2, a1, b1⟩ := kk r u t T'.heap (locs ++ L) e1.symm (by rw [← e2]; exact X'.warmed.alike) hp hb k1 k2 k3 T' rfl X'
    exact ⟨t2, st t2 a1, b1⟩
  · obtain ⟨k1, k2, k3⟩ := vx_keep h0 e1 hS hAX hf hL hF
    obtain ⟨t2, a1, b1⟩ := kx E ce q u t T'.heap (locs ++ L) e1.symm (by rw [← e2]; exact X'.warmed.alike) hp hb k1 k2 k3 (by rw [e1]; exact hce) hcv hcl T' rfl X'
    exact ⟨t2, st.trans a1, b1⟩
theorem vx_callv {S SX : Type} {post : S → Prop} {px : SX → Prop} {B : S → State → Prop} {BX : String → SX → State → Prop} {AX : Nat → Prop} (hr : vx_Run p l e R s m args below meth c H locs cells slots mc ms (F0 m pc ls st0) rest (va_Qv post B A1 a) (vx_X px BX AX) free) (hS : va_S A0 H0 H locs) (hA : ∀ q, q < H.size → A1 q → A0 q) (hf : ∀ q, free q → A0 q) (hAX : ∀ q, q < H.size → AX q → A0 q)
    (kx : ∀ (E : String) (ce : Cell) (q9 : Addr) (u : SX) (t : State) (H1 : Heap) (locs1 : List Loc), t.heap = H1 → s.vm.Alike t.vm → px u → BX E u t → H.size ≤ H1.size → (∀ q : Nat, q < H.size → ¬ AX q → H1[q]? = H[q]?) → va_S A0 H0 H1 locs1 → H1[q9]? = some ce → ce.vm = .none → s.vm.findClass E = some ce.cls → vx_W p l e R s m args below meth c H1 locs1 (cells + mc) (slots + ms) Q (F0 m pc ls rest) q9)
    (kk : ∀ (u : S) (t : State) (H1 : Heap) (locs1 : List Loc), t.heap = H1 → s.vm.Alike t.vm → post u → B u t → H.size ≤ H1.size → (∀ q : Nat, q < H.size → ¬ A1 q → H1[q]? = H[q]?) → va_S A0 H0 H1 locs1 → W p l e R s m args below meth c H1 locs1 (cells + mc) (slots + ms) Q (F0 m (pc + 3) ls (rest))) : W p l e R s m args below meth c H locs cells slots Q (F0 m pc ls st0) := by
  intro T hT X
  rcases hr T hT X with ⟨v, st₀, t, T', L, h0, X', hL, e1, e2, ⟨⟨u, hv, hp, hb⟩, hF⟩, st⟩ | ⟨q, st₀, t, T', L, E, ce, h0, X', hL, e1, e2, ⟨u, hp, hb, hF⟩, hce, hcv, hcl, st⟩
  · cases hv
    obtain ⟨k1, k2, k3⟩ := vx_keep h0 e1 hS hA hf hL hF
    obtain ⟨t2, a1, b1⟩ := kk u t T'.heap (locs ++ L) e1.symm (by rw [← e2]; exact X'.warmed.alike) hp hb k1 k2 k3 T' rfl X'
    exact ⟨t2, st t2 a1, b1⟩
  · obtain ⟨k1, k2, k3⟩ := vx_keep h0 e1 hS hAX hf hL hF
    obtain ⟨t2, a1, b1⟩ := kx E ce q u t T'.heap (locs ++ L) e1.symm (by rw [← e2]; exact X'.warmed.alike) hp hb k1 k2 k3 (by rw [e1]; exact hce) hcv hcl T' rfl X'
    exact ⟨t2, st.trans a1, b1⟩
/-- caught by the row x of this method's table; the rows ahead don't take it -/
theorem vx_catch {own name : String} {E : String} {ce : Cell} {q : Addr} (hown : s.vm.findClass own = some m.cls) (pre : List ExceptionTableEntry) (x : ExceptionTableEntry) (suf : List ExceptionTableEntry) (hsplit : c.exceptionTable.toList = pre ++ x :: suf)
    (hpass : ∀ z ∈ pre, covers z pc = false ∨ (z.catchType ≠ 0 ∧ ∃ nm : String, (Cond.classLink own z.catchType nm).before args s = true ∧ va_Nc E nm s)) (hx : covers x pc = true) (h0 : x.catchType ≠ 0)
    (hlink : (Cond.classLink own x.catchType name).before args s = true) (hcast : (Cond.castable E name).before args s = true) (hcell : H[q]? = some ce) (hv : ce.vm = .none) (hcl : s.vm.findClass E = some ce.cls)
    (kk : W p l e R s m args below meth c H locs cells slots Q (F0 m x.handlerPc ls [.ref q])) : vx_W p l e R s m args below meth c H locs cells slots Q (F0 m pc ls rest) q := by
  intro T hT X
  have hpl : e.platform.magicAccessors = ({} : Platform).magicAccessors := by rw [X.admits.platform]
  obtain ⟨c3, c4, hc3, hc4, hasg⟩ := Cond.castable_spec hcast
  cases Option.some.inj (hc3.symm.trans hcl)
  obtain ⟨c5, hc5, hcl5⟩ := Cond.classLink_spec hown hlink e.platform hpl
  cases Option.some.inj (hc4.symm.trans hc5)
  obtain ⟨vm', X', st⟩ := vy_caught X q (g := F0 m pc ls rest) rfl (by rw [hT]; exact hcell) (by rw [hv]; rfl) (by obtain ⟨k9, h9, -⟩ := Vm.findClass_spec hcl; exact ⟨k9, h9⟩) pre x suf hsplit
    (fun z hz => by
      rcases hpass z hz with h | ⟨hz0, nm, hl1, hn1⟩
      · exact Or.inl h
      · obtain ⟨c6, hc6, hcl6⟩ := Cond.classLink_spec hown hl1 e.platform hpl
        obtain ⟨a8, b8, h1, h2, h3⟩ := hn1
        cases Option.some.inj (h1.symm.trans hcl)
        cases Option.some.inj (h2.symm.trans hc6)
        exact Or.inr ⟨hz0, _, hcl6, h3⟩) hx h0 hcl5 hasg
  obtain ⟨t, a1, b1⟩ := kk (T.setVm vm') hT X'
  exact ⟨t, st t a1, b1⟩
end Rows
section Ends
variable {p : Program} {l : Launch} {e : Env} {R : Room} {s : State} {m : MethodId} {args : Array Value} {below : List Frame} {meth : Method} {c : Code} {H : Heap} {locs : List Loc} {cells slots : Nat} {Q : State → Prop}
variable {mc ms : Nat} {free : Addr → Prop} {A0 A1 : Nat → Prop} {H0 : Heap} {a : Array Value} {ls : Array Slot} {st0 rest : List Value}
variable {Qc : Array Value → State → Outcome → State → Prop} {XC : String → State → State → Prop}
/-- what a body that may throw owes at its end -/
def vx_MQ (below : List Frame) (Qc : Array Value → State → Outcome → State → Prop) (XC : String → State → State → Prop) (a : Array Value) (s : State) (mc ms : Nat) (free : Addr → Prop) : State → Prop := fun t =>
  ∃ o, t.status = .running ∧ Ended t below o ∧ vx_Q Qc XC mc ms free a s o t
theorem vx_ret {g : JFrame} {mc ms : Nat} (k : W p l e R s m args below meth c H locs cells slots (MQ below Qc args s mc ms free) g) : W p l e R s m args below meth c H locs cells slots (vx_MQ below Qc XC args s mc ms free) g := by
  intro T hT X
  obtain ⟨t, a1, o, b1, b2, b3, b4⟩ := k T hT X
  exact ⟨t, a1, o, b1, b2, Or.inl ⟨b3, b4⟩⟩
/-- not caught here: it goes on to the caller -/
theorem vx_widen {g : JFrame} {q : Addr} {k n : Nat} (h1 : cells ≤ k) (h2 : slots ≤ n) (kk : vx_W p l e R s m args below meth c H locs k n Q g q) : vx_W p l e R s m args below meth c H locs cells slots Q g q := fun T hT X => kk T hT (stand_widen X h1 h2)
theorem vx_out {pc : Nat} {E : String} {ce : Cell} {q : Addr} {mc ms : Nat} (hout : ∀ x ∈ c.exceptionTable.toList, covers x pc = false) (hlocks : meth.locks = false) (hcell : H[q]? = some ce) (hv : ce.vm = .none) (hcl : s.vm.findClass E = some ce.cls)
    (hx : ∀ t : State, t.heap = H → s.vm.Alike t.vm → XC E s t) (hf : ∀ z ∈ locs, free z.base) (hc : cells ≤ mc) (hs : slots ≤ ms) :
    vx_W p l e R s m args below meth c H locs cells slots (vx_MQ below Qc XC args s mc ms free) (F0 m pc ls rest) q := by
  intro T hT X
  obtain ⟨st1, hrun, hend, hW, hsm⟩ := X.leaveThrown q (g := F0 m pc ls rest) rfl rfl rfl hout hlocks
  have hcell9 : (T.setFrames (.throwing q :: below)).heap[q]? = some ce := by
    show T.heap[q]? = some ce
    rw [hT]; exact hcell
  exact ⟨_, st1, .threw q, hrun, hend, Or.inr ⟨q, rfl, E, ce, locs, hx _ hT hW.alike, hcell9, hv, hcl, hW, hsm.mono hc hs, hf⟩⟩
theorem vx_frame {U : State} {k n : Nat} (h : s.sameButNew ({ U with vm := s.vm } : State) locs k n) : s.heap.size ≤ U.heap.size ∧ ∀ q : Nat, q < s.heap.size → (∀ z ∈ locs, z.base ≠ q) → U.heap[q]? = s.heap[q]? := by
  obtain ⟨-, h2, -, -, -, h6⟩ := h
  refine ⟨h2, fun q hq hz => ?_⟩
  obtain ⟨c9, e1, e2, e3, e4⟩ := h6 q _ (Array.getElem?_eq_getElem hq)
  have hs : c9.slots = (s.heap[q]).slots := Array.ext_getElem? fun i => e4 i fun hm => hz _ hm rfl
  have h9 : c9 = s.heap[q] := by
    rw [hs] at e2
    exact e2
  have e5 : U.heap[q]? = some c9 := e1
  rw [e5, h9, Array.getElem?_eq_getElem hq]
/-- the words of a throw but the four that speak of the heap -/
def vx_no (w : Cond) : Bool := decide (w ≠ .isRef (.static Bundle.tN "UNASSIGNED_STACK" Bundle.steD)) && decide (w ≠ .isRef (.static Bundle.tN "SUPPRESSED_SENTINEL" Bundle.listD)) && decide (w ≠ .laysStatic Bundle.tN "UNASSIGNED_STACK" Bundle.steD) && decide (w ≠ .laysStatic Bundle.tN "SUPPRESSED_SENTINEL" Bundle.listD)
def vx_at0 (own : String) (ic : Nat) (X : String) (names : List String) : List Cond := (Bundle.ownAtoms0 own ic X names).filter vx_no
def vx_atS (own : String) (ic : Nat) (X : String) (names : List String) : List Cond := (Bundle.ownAtoms own ic X names).filter vx_no
/-- a word that the tables alone decide, or a good one -/
def vx_ot (w : Cond) : Bool := w.onTables || goodWord w
theorem vx_ot_at {args a' : Array Value} {s U : State} {w : Cond} (hW : s.WarmedH U.vm) (hvm : s.vm = U.vm) (hg : vx_ot w = true) (h : w.before args s = true) : w.before a' U = true := by
  simp only [vx_ot, Bool.or_eq_true] at hg
  rcases hg with hg | hg
  · exact va_tabs hg hvm h
  · exact word_at hW (good_of_word hg) h
/-- a list's words: the good ones out of the method's own list, the others by premises of their own -/
theorem vx_hat {args : Array Value} {s : State} {L B : List Cond} (h1 : ∀ w ∈ L.filter goodWord, w.before args s = true) (h2 : ∀ w ∈ L.filter (fun w => !goodWord w), w ∈ B) (h3 : ∀ w ∈ B, w.before args s = true) : ∀ w ∈ L, w.before args s = true := by
  intro w hw
  by_cases g : goodWord w = true
  · exact h1 w (List.mem_filter.mpr ⟨hw, g⟩)
  · refine h3 w (h2 w (List.mem_filter.mpr ⟨hw, ?_⟩))
    show (!goodWord w) = true
    cases hgw : goodWord w
    · rfl
    · exact absurd hgw g
theorem vx_c {args : Array Value} {s : State} {w : Cond} {B : List Cond} (h : w.before args s = true) (t : ∀ w ∈ B, w.before args s = true) : ∀ w' ∈ w :: B, w'.before args s = true := fun w' h' => (List.mem_cons.mp h').elim (fun e => by rw [e]; exact h) (t w')
theorem vx_n {args : Array Value} {s : State} : ∀ w ∈ ([] : List Cond), w.before args s = true := fun _ h => nomatch h
theorem vx_own {args : Array Value} {s : State} {L : List Cond} (h1 : ∀ w ∈ L.filter vx_no, w.before args s = true)
    (hU : (Cond.isRef (.static Bundle.tN "UNASSIGNED_STACK" Bundle.steD)).before args s = true) (hN : (Cond.isRef (.static Bundle.tN "SUPPRESSED_SENTINEL" Bundle.listD)).before args s = true)
    (lU : (Cond.laysStatic Bundle.tN "UNASSIGNED_STACK" Bundle.steD).before args s = true) (lN : (Cond.laysStatic Bundle.tN "SUPPRESSED_SENTINEL" Bundle.listD).before args s = true) : ∀ w ∈ L, w.before args s = true := by
  intro w hw
  by_cases e1 : w = .isRef (.static Bundle.tN "UNASSIGNED_STACK" Bundle.steD)
  · rw [e1]; exact hU
  · by_cases e2 : w = .isRef (.static Bundle.tN "SUPPRESSED_SENTINEL" Bundle.listD)
    · rw [e2]; exact hN
    · by_cases e3 : w = .laysStatic Bundle.tN "UNASSIGNED_STACK" Bundle.steD
      · rw [e3]; exact lU
      · by_cases e4 : w = .laysStatic Bundle.tN "SUPPRESSED_SENTINEL" Bundle.listD
        · rw [e4]; exact lN
        · exact h1 w (List.mem_filter.mpr ⟨hw, by unfold vx_no; rw [decide_eq_true e1, decide_eq_true e2, decide_eq_true e3, decide_eq_true e4]; rfl⟩)
/-- where a static field lies, its class's statics cell in H -/
def vx_L (C n d : String) (A : Nat → Prop) (U : State) (H : Heap) : Prop := ∃ (c : ClassId) (k : Class) (i : Nat) (f : Field) (a : Nat) (cell : Cell), U.vm.findClass C = some c ∧ U.fieldFound? C n d = some (c, k, i, f) ∧ f.isStatic = true ∧ k.statics = some a ∧ H[a]? = some cell ∧ cell.vm.isStatics = true ∧ cell.cls = c ∧ f.slot < cell.slots.size ∧ k.staticTypes[f.slot]? = some f.type ∧ ¬ A a
theorem vx_L.moved {C n d : String} {A : Nat → Prop} {u U : State} {H : Heap} (hvm : u.vm.Alike U.vm) (h : vx_L C n d A u H) : vx_L C n d A U H := by
  obtain ⟨c, k, i, f, a, cell, h1, h2, h3, h4, h5, h6, h7, h8, h9, h10⟩ := h
  obtain ⟨k', hi', he⟩ := State.fieldFound?_setVm hvm h2
  exact ⟨c, k', i, f, a, cell, by rw [hvm.findClass]; exact h1, hi', h3, by rw [he]; exact h4, h5, h6, h7, h8, by rw [he]; exact h9, h10⟩
theorem vx_L.kept {C n d : String} {A : Nat → Prop} {U : State} {H H1 : Heap} (h : vx_L C n d A U H) (hq : ∀ a : Nat, a < H.size → ¬ A a → H1[a]? = H[a]?) : vx_L C n d A U H1 := by
  obtain ⟨c, k, i, f, a, cell, h1, h2, h3, h4, h5, h6, h7, h8, h9, h10⟩ := h
  exact ⟨c, k, i, f, a, cell, h1, h2, h3, h4, by rw [hq a (Array.getElem?_eq_some_iff.mp h5).1 h10]; exact h5, h6, h7, h8, h9, h10⟩
theorem vx_L.narrow {C n d : String} {A B : Nat → Prop} {U : State} {H : Heap} (h : vx_L C n d A U H) (hAB : ∀ q, B q → A q) : vx_L C n d B U H := by
  obtain ⟨c, k, i, f, a, cell, h1, h2, h3, h4, h5, h6, h7, h8, h9, h10⟩ := h
  exact ⟨c, k, i, f, a, cell, h1, h2, h3, h4, h5, h6, h7, h8, h9, fun z => h10 (hAB _ z)⟩
theorem vx_L.word {C n d : String} {A : Nat → Prop} {s : State} {args : Array Value} (h : vx_L C n d A s s.heap) : (Cond.laysStatic C n d).before args s = true := by
  obtain ⟨c, k, i, f, a, cell, h1, h2, h3, h4, h5, h6, h7, h8, h9, -⟩ := h
  show (Cond.laysStatic C n d).holds args s none s [] = true
  exact Cond.laysStatic_of h1 h2 h3 h4 h5 h6 h7 h8 h9
/-- .. and what it holds: null or some reference -/
def vx_Zq (C n d : String) (A : Nat → Prop) (U : State) (H : Heap) : Prop := va_Zq C n d A U H ∧ vx_L C n d A U H
theorem vx_Zq.moved {C n d : String} {A : Nat → Prop} {u U : State} {H : Heap} (hvm : u.vm.Alike U.vm) (h : vx_Zq C n d A u H) : vx_Zq C n d A U H := ⟨va_Zq.moved hvm h.1, vx_L.moved hvm h.2⟩
theorem vx_Zq.kept {C n d : String} {A : Nat → Prop} {U : State} {H H1 : Heap} (h : vx_Zq C n d A U H) (hq : ∀ a : Nat, a < H.size → ¬ A a → H1[a]? = H[a]?) : vx_Zq C n d A U H1 := ⟨va_Zq.kept h.1 hq, vx_L.kept h.2 hq⟩
theorem vx_Zq.narrow {C n d : String} {A B : Nat → Prop} {U : State} {H : Heap} (h : vx_Zq C n d A U H) (hAB : ∀ q, B q → A q) : vx_Zq C n d B U H := ⟨va_Zq.narrow h.1 hAB, vx_L.narrow h.2 hAB⟩
theorem vx_Zqof {args : Array Value} {s : State} {C n d : String} {A : Nat → Prop} (hl : (Cond.laysStatic C n d).before args s = true) (hini : (Cond.initialized C).before args s = true) (h : (Cond.isRef (.static C n d)).before args s = true) (hA : ∀ a : Nat, a < s.heap.size → ¬ A a) : vx_Zq C n d A s s.heap := by
  refine ⟨va_Zqof hl hini h hA, ?_⟩
  obtain ⟨c, k, i, f, a, cell, h1, h2, h3, h4, h5, h6, h7, h8, h9⟩ := Cond.laysStatic_spec hl
  exact ⟨c, k, i, f, a, cell, h1, h2, h3, h4, h5, h6, h7, h8, h9, hA a (Array.getElem?_eq_some_iff.mp h5).1⟩
theorem vx_isRef {C n d : String} {v : Value} {A : Nat → Prop} {s : State} {args : Array Value} (h : va_Z C n d v A s s.heap) (hv : v.isRef = true) : (Cond.isRef (.static C n d)).before args s = true := by
  obtain ⟨cf, kf, fi, f, a, cell, h1, h2, h3, h4, h5, h6, h7, -⟩ := h
  have he : (Term.static C n d).eval args s none [] s = some v := by
    simp [Term.eval, State.fieldNamed?, h1, h2, h4, h5, h6, h7]
  simp only [Cond.before, Cond.holds, Cond.value, he]
  cases v <;> simp_all [Value.isRef]
theorem vx_isRefq {C n d : String} {A : Nat → Prop} {s : State} {args : Array Value} (h : va_Zq C n d A s s.heap) : (Cond.isRef (.static C n d)).before args s = true := by
  rcases h with h | ⟨t, h⟩
  · exact vx_isRef h rfl
  · exact vx_isRef h rfl
/-- the same frame, seen from here: as if the method were called anew in this heap -/
theorem vx_rebase {T : State} (X : Stand p l e R s m args below meth c T locs cells slots) {R' : Room} (hf : R'.frames ≤ R.frames) (hl : R'.locals ≤ R.locals) (hc : cells + R'.cells ≤ R.cells) (hs : slots + R'.slots ≤ R.slots) :
    Stand p l e R' ((T.setVm s.vm).setFrames (.invoking m args :: below)) m args below meth c T [] 0 0 := by
  have htop : (T.setVm s.vm).topJava?.isSome := X.here.top
  have hF : ((T.setVm s.vm).setFrames (.invoking m args :: below)).frames = .invoking m args :: below := State.frames_setFrames _ (State.cur_lt_of_top htop)
  obtain ⟨g₀, hg0⟩ := Option.isSome_iff_exists.mp htop
  obtain ⟨r, hr⟩ := State.topJava?_eq_some.mp hg0
  have hl9 : e.platform.stackLimits (T.setVm s.vm).me = e.platform.stackLimits s.me := X.limits
  have hb9 : (T.setVm s.vm).me.stackBytes = s.me.stackBytes := X.bytes
  refine ⟨X.admits, X.cas, X.clock, hF, ?_, X.hears, X.method, X.code, X.here, X.tail, X.warmed, ?_, ?_, ?_⟩
  · have h := X.room
    have hU : ((T.setVm s.vm).setFrames (.invoking m args :: below)).localsInUse = s.localsInUse := by
      rw [State.localsInUse_invoking hF (meth := meth) (c := c) X.method X.code, State.localsInUse_invoking X.frames X.method X.code]
    simp only [State.hasRoom, Bool.and_eq_true, decide_eq_true_eq] at h ⊢
    obtain ⟨⟨⟨⟨h1, h2, h3, h4, h5, h6⟩, h7⟩, h8⟩, h9⟩ := h
    rw [X.frames, List.length_cons] at h2 h3
    have q1 := X.heapSize
    have q2 := X.used
    simp only [hF, hU, List.length_cons, State.stackLimits_setFrames, State.stackBytes_setFrames, hl9, hb9]
    refine ⟨⟨⟨⟨by omega, by omega, by omega, by omega, by omega, h6⟩, ?_⟩, ?_⟩, X.book⟩
    · show T.heap.size + R'.cells ≤ e.platform.maxCells
      omega
    · show T.slotsUsed + R'.slots ≤ e.platform.maxSlots
      omega
  · rw [State.stackLimits_setFrames]; rfl
  · rw [State.stackBytes_setFrames]; rfl
  · refine ⟨?_, Nat.le_refl _, Nat.le_refl _, ?_, ?_, fun a c9 h9 => ⟨c9, h9, rfl, rfl, fun _ _ => rfl⟩⟩
    · obtain ⟨t, ht, -⟩ := State.frames_cons hr
      show T.setVm s.vm = { ((T.setVm s.vm).setFrames (.invoking m args :: below)).setFrames (T.setVm s.vm).frames with heap := T.heap, slotsUsed := T.slotsUsed }
      rw [State.setFrames_setFrames, State.setFrames_self ht]
      rfl
    · show T.slotsUsed = T.slotsUsed + ((T.heap.toList.drop T.heap.size).map (·.slots.size)).sum
      rw [List.drop_eq_nil_of_le (Nat.le_of_eq Array.length_toList)]
      rfl
    · show ((T.heap.toList.drop T.heap.size).map (·.slots.size)).sum ≤ 0
      rw [List.drop_eq_nil_of_le (Nat.le_of_eq Array.length_toList)]
      exact Nat.le_refl _
/-- 'throw new E()': new; dup; invokespecial; athrow -/
theorem vx_throw0 {cc : ByteArray} {pc : Nat} (hexec : p.tables.exec = Jvm.exec) (hb : c.code = cc) (hl : l.stackTraces = false) {own cls : String} {names : List String} {ik ic mc ms : Nat} {A : Nat → Prop}
    (hown : s.vm.findClass own = some m.cls) (hcls : Bundle.fit cls = true) (hnames : ∀ n ∈ names, Bundle.fit n = true)
    (hk : (Cond.classLink own ik cls).before args s = true) (hini : (Cond.initialized cls).before args s = true) (hat : ∀ w ∈ vx_at0 own ic cls names, w.before args s = true)
    (hgood : ∀ w ∈ Cond.classLink own ik cls :: Cond.initialized cls :: vx_at0 own ic cls names, vx_ot w = true)
    (hU : vx_Zq Bundle.tN "UNASSIGNED_STACK" Bundle.steD A s s.heap) (hN : vx_Zq Bundle.tN "SUPPRESSED_SENTINEL" Bundle.listD A s s.heap) (hS : va_S A s.heap H locs) (hsize : ls.size = c.maxLocals)
    (d0 : decode cc pc = .ok (.new ik, 3)) (d3 : decode cc (pc + 3) = .ok (.dup, 1)) (d4 : decode cc (pc + 4) = .ok (.invokespecial ic, 3)) (d7 : decode cc (pc + 7) = .ok (.athrow, 1))
    (hout : ∀ x ∈ c.exceptionTable.toList, covers x (pc + 7) = false)
    (hRframes : names.length + 3 < R.frames) (hRlocals : (rest.map fun v => v.category).sum + (13 * (names.length + 1) + 42) ≤ R.locals) (hRcells : cells + 1 ≤ R.cells) (hRslots : slots + 6 ≤ R.slots) (hlocks : meth.locks = false)
    (hx : ∀ t : State, s.vm.Alike t.vm → H.size ≤ t.heap.size → (∀ q : Nat, q < H.size → t.heap[q]? = H[q]?) → XC cls s t)
    (hf : ∀ z ∈ locs, free z.base) (hc : cells + 1 ≤ mc) (hs : slots + 6 ≤ ms) :
    W p l e R s m args below meth c H locs cells slots (vx_MQ below Qc XC args s mc ms free) (F0 m pc ls rest) := by
  intro T hT X
  have htr : e.platform.stackTraces = false := (show e.platform.stackTraces = l.stackTraces by rw [X.admits.platform]).trans hl
  have Y := vx_rebase X (R' := { frames := R.frames, locals := R.locals, cells := 1, slots := 6 }) (Nat.le_refl _) (Nat.le_refl _) hRcells hRslots
  obtain ⟨s', hA⟩ : ∃ z, z = (T.setVm s.vm).setFrames (.invoking m args :: below) := ⟨_, rfl⟩
  rw [← hA] at Y
  have hvm : s'.vm = s.vm := by rw [hA]; rfl
  have hhp : s'.heap = H := by rw [hA]; exact hT
  have hW0 : s.WarmedH s'.vm := by rw [hvm]; exact State.WarmedH.refl s
  have hat' : ∀ w ∈ vx_at0 own ic cls names, w.before args s' = true := fun w hw => vx_ot_at hW0 hvm.symm (hgood w (List.mem_cons_of_mem _ (List.mem_cons_of_mem _ hw))) (hat w hw)
  have hk' : (Cond.classLink own ik cls).before args s' = true := vx_ot_at hW0 hvm.symm (hgood _ List.mem_cons_self) hk
  have hini' : (Cond.initialized cls).before args s' = true := vx_ot_at hW0 hvm.symm (hgood _ (List.mem_cons_of_mem _ List.mem_cons_self)) hini
  have hU' : vx_Zq Bundle.tN "UNASSIGNED_STACK" Bundle.steD A s' s'.heap := by rw [hhp]; exact vx_Zq.moved hW0.alike (hU.kept hS.2.1)
  have hN' : vx_Zq Bundle.tN "SUPPRESSED_SENTINEL" Bundle.listD A s' s'.heap := by rw [hhp]; exact vx_Zq.moved hW0.alike (hN.kept hS.2.1)
  have h : ∀ w ∈ Bundle.ownAtoms0 own ic cls names, w.before args s' = true := vx_own hat' (vx_isRefq hU'.1) (vx_isRefq hN'.1) hU'.2.word hN'.2.word
  have hown' : s'.vm.findClass own = some m.cls := by rw [hvm]; exact hown
  have hins : (Cond.instantiable cls 6).before args s' = true := h _ (by simp [Bundle.ownAtoms0])
  obtain ⟨vm₁, cX, kX, hfX, hkX, -, -, X₁, st1⟩ := Y.newCold hexec (own := own) (C := cls) (index := ik) (n := 6) hown' hk' hins hini'
    (g := F0 m pc ls rest) rfl (by rw [hb]; exact d0) (Nat.le_refl _) (Nat.le_refl _)
  generalize hT1 : (T.setVm vm₁).pushCell { cls := cX, slots := kX.instanceTypes.map defaultValue, vm := .none } = T1 at X₁ st1
  have hcat : (Value.ref T.heap.size).category = 1 := rfl
  have hcellA : T1.heap[T.heap.size]? = some (freshCell cX kX) := by rw [← hT1]; exact State.heap_pushCell_size _ _
  have d3' : decode c.code (pc + 3) = .ok (.dup, 1) := by rw [hb]; exact d3
  obtain ⟨U, hsteps, hrun, hend, hW, hsame, ce, hce, hO⟩ := X₁.ctorThrow0 hexec htr (own := own) (cls := cls) (names := names) (ic := ic) hown' hcls hnames h (fun x hx => nomatch hx) hfX hkX hcellA (by rw [hhp, hT]; exact Nat.le_refl _)
    (g := { method := m, pc := pc + 4, locals := ls, stack := .ref T.heap.size :: .ref T.heap.size :: rest, locked := none }) rfl hsize rfl rfl (rest := rest) rfl
    (by rw [hb]; exact d4) (by rw [hb]; exact d7) hout hRframes (by simp only [List.map_cons, List.sum_cons, hcat]; omega) hlocks
  obtain ⟨f1, f2⟩ := vx_frame hsame
  rw [hhp] at f1 f2
  have hWs : s.WarmedH U.vm := State.WarmedH.trans hW0 hW
  have hcl : s.vm.findClass cls = some ce.cls := by
    have h9 := hO.cls
    rw [hvm] at h9
    exact h9
  have hall : s.sameButNew ({ U with vm := s.vm } : State) locs mc ms := by
    subst hA
    obtain ⟨e1, e2⟩ := hsame
    rw [State.setFrames_setFrames] at e1
    have h2 : (T.setVm s.vm).sameButNew ({ U with vm := s.vm } : State) [] (0 + 1) (0 + 6) := ⟨e1, e2⟩
    have h3 := X.same.trans h2
    rw [List.append_nil] at h3
    exact h3.mono hc hs
  refine ⟨U, ?_, .threw T.heap.size, hrun, hend, Or.inr ⟨T.heap.size, rfl, cls, ce, locs, hx U hWs.alike f1 (fun q hq => f2 q hq (fun z hz => nomatch hz)), hce, hO.vm, hcl, hWs, hall, hf⟩⟩
  refine st1 _ ?_
  show Steps p.tables e below (T1.setTop { method := m, pc := pc + 3, locals := ls, stack := .ref T.heap.size :: rest, locked := none }) _
  jvm_step X₁.here [X₁.here.top, hexec, d3', Value.category]
  exact hsteps
/-- 'throw new E("text")': new; dup; ldc; invokespecial; athrow -/
theorem vx_throwS {cc : ByteArray} {pc : Nat} (hexec : p.tables.exec = Jvm.exec) (hb : c.code = cc) (hl : l.stackTraces = false) {own cls text : String} {names : List String} {ik is ic mc ms sa : Nat} {A : Nat → Prop}
    (hown : s.vm.findClass own = some m.cls) (hcls : Bundle.fit cls = true) (hnames : ∀ n ∈ names, Bundle.fit n = true)
    (hk : (Cond.classLink own ik cls).before args s = true) (hini : (Cond.initialized cls).before args s = true) (hstr : vk_R own is text sa s) (hat : ∀ w ∈ vx_atS own ic cls names, w.before args s = true)
    (hgood : ∀ w ∈ Cond.classLink own ik cls :: Cond.initialized cls :: vx_atS own ic cls names, vx_ot w = true)
    (hU : vx_Zq Bundle.tN "UNASSIGNED_STACK" Bundle.steD A s s.heap) (hN : vx_Zq Bundle.tN "SUPPRESSED_SENTINEL" Bundle.listD A s s.heap) (hS : va_S A s.heap H locs) (hsize : ls.size = c.maxLocals)
    (d0 : decode cc pc = .ok (.new ik, 3)) (d3 : decode cc (pc + 3) = .ok (.dup, 1)) (d4 : decode cc (pc + 4) = .ok (.ldc is, 2)) (d6 : decode cc (pc + 6) = .ok (.invokespecial ic, 3)) (d9 : decode cc (pc + 9) = .ok (.athrow, 1))
    (hout : ∀ x ∈ c.exceptionTable.toList, covers x (pc + 9) = false)
    (hRframes : names.length + 3 < R.frames) (hRlocals : (rest.map fun v => v.category).sum + (13 * (names.length + 1) + 43) ≤ R.locals) (hRcells : cells + 1 ≤ R.cells) (hRslots : slots + 6 ≤ R.slots) (hlocks : meth.locks = false)
    (hx : ∀ t : State, s.vm.Alike t.vm → H.size ≤ t.heap.size → (∀ q : Nat, q < H.size → t.heap[q]? = H[q]?) → XC cls s t)
    (hf : ∀ z ∈ locs, free z.base) (hc : cells + 1 ≤ mc) (hs : slots + 6 ≤ ms) :
    W p l e R s m args below meth c H locs cells slots (vx_MQ below Qc XC args s mc ms free) (F0 m pc ls rest) := by
  intro T hT X
  have htr : e.platform.stackTraces = false := (show e.platform.stackTraces = l.stackTraces by rw [X.admits.platform]).trans hl
  have Y := vx_rebase X (R' := { frames := R.frames, locals := R.locals, cells := 1, slots := 6 }) (Nat.le_refl _) (Nat.le_refl _) hRcells hRslots
  obtain ⟨s', hA⟩ : ∃ z, z = (T.setVm s.vm).setFrames (.invoking m args :: below) := ⟨_, rfl⟩
  rw [← hA] at Y
  have hvm : s'.vm = s.vm := by rw [hA]; rfl
  have hhp : s'.heap = H := by rw [hA]; exact hT
  have hW0 : s.WarmedH s'.vm := by rw [hvm]; exact State.WarmedH.refl s
  have hat' : ∀ w ∈ vx_atS own ic cls names, w.before args s' = true := fun w hw => vx_ot_at hW0 hvm.symm (hgood w (List.mem_cons_of_mem _ (List.mem_cons_of_mem _ hw))) (hat w hw)
  have hk' : (Cond.classLink own ik cls).before args s' = true := vx_ot_at hW0 hvm.symm (hgood _ List.mem_cons_self) hk
  have hini' : (Cond.initialized cls).before args s' = true := vx_ot_at hW0 hvm.symm (hgood _ (List.mem_cons_of_mem _ List.mem_cons_self)) hini
  have hU' : vx_Zq Bundle.tN "UNASSIGNED_STACK" Bundle.steD A s' s'.heap := by rw [hhp]; exact vx_Zq.moved hW0.alike (hU.kept hS.2.1)
  have hN' : vx_Zq Bundle.tN "SUPPRESSED_SENTINEL" Bundle.listD A s' s'.heap := by rw [hhp]; exact vx_Zq.moved hW0.alike (hN.kept hS.2.1)
  have h : ∀ w ∈ Bundle.ownAtoms own ic cls names, w.before args s' = true := vx_own hat' (vx_isRefq hU'.1) (vx_isRefq hN'.1) hU'.2.word hN'.2.word
  have hown' : s'.vm.findClass own = some m.cls := by rw [hvm]; exact hown
  have hins : (Cond.instantiable cls 6).before args s' = true := h _ (by simp [Bundle.ownAtoms])
  obtain ⟨vm₁, cX, kX, hfX, hkX, -, -, X₁, st1⟩ := Y.newCold hexec (own := own) (C := cls) (index := ik) (n := 6) hown' hk' hins hini'
    (g := F0 m pc ls rest) rfl (by rw [hb]; exact d0) (Nat.le_refl _) (Nat.le_refl _)
  generalize hT1 : (T.setVm vm₁).pushCell { cls := cX, slots := kX.instanceTypes.map defaultValue, vm := .none } = T1 at X₁ st1
  have hcat : (Value.ref T.heap.size).category = 1 := rfl
  have hcellA : T1.heap[T.heap.size]? = some (freshCell cX kX) := by rw [← hT1]; exact State.heap_pushCell_size _ _
  have d3' : decode c.code (pc + 3) = .ok (.dup, 1) := by rw [hb]; exact d3
  have d4' : decode c.code (pc + 4) = .ok (.ldc is, 2) := by rw [hb]; exact d4
  have hstr' : vk_R own is text sa s' := vk_R.warm hW0 hstr
  obtain ⟨U, hsteps, hrun, hend, hW, hsame, ce, hce, hO⟩ := X₁.ctorThrowS hexec htr (own := own) (cls := cls) (names := names) (ic := ic) hown' hcls hnames h (fun x hx => nomatch hx) hfX hkX hcellA (by rw [hhp, hT]; exact Nat.le_refl _) (msg := .ref sa) rfl
    (g := { method := m, pc := pc + 6, locals := ls, stack := .ref sa :: .ref T.heap.size :: .ref T.heap.size :: rest, locked := none }) rfl hsize rfl rfl (rest := rest) rfl
    (by rw [hb]; exact d6) (by rw [hb]; exact d9) hout hRframes (by simp only [List.map_cons, List.sum_cons, hcat]; omega) hlocks
  obtain ⟨f1, f2⟩ := vx_frame hsame
  rw [hhp] at f1 f2
  have hWs : s.WarmedH U.vm := State.WarmedH.trans hW0 hW
  have hcl : s.vm.findClass cls = some ce.cls := by
    have h9 := hO.cls
    rw [hvm] at h9
    exact h9
  have hall : s.sameButNew ({ U with vm := s.vm } : State) locs mc ms := by
    subst hA
    obtain ⟨e1, e2⟩ := hsame
    rw [State.setFrames_setFrames] at e1
    have h2 : (T.setVm s.vm).sameButNew ({ U with vm := s.vm } : State) [] (0 + 1) (0 + 6) := ⟨e1, e2⟩
    have h3 := X.same.trans h2
    rw [List.append_nil] at h3
    exact h3.mono hc hs
  refine ⟨U, ?_, .threw T.heap.size, hrun, hend, Or.inr ⟨T.heap.size, rfl, cls, ce, locs, hx U hWs.alike f1 (fun q hq => f2 q hq (fun z hz => nomatch hz)), hce, hO.vm, hcl, hWs, hall, hf⟩⟩
  refine st1 _ ?_
  show Steps p.tables e below (T1.setTop { method := m, pc := pc + 3, locals := ls, stack := .ref T.heap.size :: rest, locked := none }) _
  jvm_step X₁.here [X₁.here.top, hexec, d3', Value.category]
  exact X₁.ldcString hexec (own := own) (text := text) (index := is) (a := sa) hown' hstr'.1 hstr'.2
    (g := { method := m, pc := pc + 4, locals := ls, stack := .ref T.heap.size :: .ref T.heap.size :: rest, locked := none }) rfl d4' _ hsteps
/-- 'throw new E("text")', the text by a wide index -/
theorem vx_throwSW {cc : ByteArray} {pc : Nat} (hexec : p.tables.exec = Jvm.exec) (hb : c.code = cc) (hl : l.stackTraces = false) {own cls text : String} {names : List String} {ik is ic mc ms sa : Nat} {A : Nat → Prop}
    (hown : s.vm.findClass own = some m.cls) (hcls : Bundle.fit cls = true) (hnames : ∀ n ∈ names, Bundle.fit n = true)
    (hk : (Cond.classLink own ik cls).before args s = true) (hini : (Cond.initialized cls).before args s = true) (hstr : vk_R own is text sa s) (hat : ∀ w ∈ vx_atS own ic cls names, w.before args s = true)
    (hgood : ∀ w ∈ Cond.classLink own ik cls :: Cond.initialized cls :: vx_atS own ic cls names, vx_ot w = true)
    (hU : vx_Zq Bundle.tN "UNASSIGNED_STACK" Bundle.steD A s s.heap) (hN : vx_Zq Bundle.tN "SUPPRESSED_SENTINEL" Bundle.listD A s s.heap) (hS : va_S A s.heap H locs) (hsize : ls.size = c.maxLocals)
    (d0 : decode cc pc = .ok (.new ik, 3)) (d3 : decode cc (pc + 3) = .ok (.dup, 1)) (d4 : decode cc (pc + 4) = .ok (.ldc_w is, 3)) (d7 : decode cc (pc + 7) = .ok (.invokespecial ic, 3)) (d10 : decode cc (pc + 10) = .ok (.athrow, 1))
    (hout : ∀ x ∈ c.exceptionTable.toList, covers x (pc + 10) = false)
    (hRframes : names.length + 3 < R.frames) (hRlocals : (rest.map fun v => v.category).sum + (13 * (names.length + 1) + 43) ≤ R.locals) (hRcells : cells + 1 ≤ R.cells) (hRslots : slots + 6 ≤ R.slots) (hlocks : meth.locks = false)
    (hx : ∀ t : State, s.vm.Alike t.vm → H.size ≤ t.heap.size → (∀ q : Nat, q < H.size → t.heap[q]? = H[q]?) → XC cls s t)
    (hf : ∀ z ∈ locs, free z.base) (hc : cells + 1 ≤ mc) (hs : slots + 6 ≤ ms) :
    W p l e R s m args below meth c H locs cells slots (vx_MQ below Qc XC args s mc ms free) (F0 m pc ls rest) := by
  intro T hT X
  have htr : e.platform.stackTraces = false := (show e.platform.stackTraces = l.stackTraces by rw [X.admits.platform]).trans hl
  have Y := vx_rebase X (R' := { frames := R.frames, locals := R.locals, cells := 1, slots := 6 }) (Nat.le_refl _) (Nat.le_refl _) hRcells hRslots
  obtain ⟨s', hA⟩ : ∃ z, z = (T.setVm s.vm).setFrames (.invoking m args :: below) := ⟨_, rfl⟩
  rw [← hA] at Y
  have hvm : s'.vm = s.vm := by rw [hA]; rfl
  have hhp : s'.heap = H := by rw [hA]; exact hT
  have hW0 : s.WarmedH s'.vm := by rw [hvm]; exact State.WarmedH.refl s
  have hat' : ∀ w ∈ vx_atS own ic cls names, w.before args s' = true := fun w hw => vx_ot_at hW0 hvm.symm (hgood w (List.mem_cons_of_mem _ (List.mem_cons_of_mem _ hw))) (hat w hw)
  have hk' : (Cond.classLink own ik cls).before args s' = true := vx_ot_at hW0 hvm.symm (hgood _ List.mem_cons_self) hk
  have hini' : (Cond.initialized cls).before args s' = true := vx_ot_at hW0 hvm.symm (hgood _ (List.mem_cons_of_mem _ List.mem_cons_self)) hini
  have hU' : vx_Zq Bundle.tN "UNASSIGNED_STACK" Bundle.steD A s' s'.heap := by rw [hhp]; exact vx_Zq.moved hW0.alike (hU.kept hS.2.1)
  have hN' : vx_Zq Bundle.tN "SUPPRESSED_SENTINEL" Bundle.listD A s' s'.heap := by rw [hhp]; exact vx_Zq.moved hW0.alike (hN.kept hS.2.1)
  have h : ∀ w ∈ Bundle.ownAtoms own ic cls names, w.before args s' = true := vx_own hat' (vx_isRefq hU'.1) (vx_isRefq hN'.1) hU'.2.word hN'.2.word
  have hown' : s'.vm.findClass own = some m.cls := by rw [hvm]; exact hown
  have hins : (Cond.instantiable cls 6).before args s' = true := h _ (by simp [Bundle.ownAtoms])
  obtain ⟨vm₁, cX, kX, hfX, hkX, -, -, X₁, st1⟩ := Y.newCold hexec (own := own) (C := cls) (index := ik) (n := 6) hown' hk' hins hini'
    (g := F0 m pc ls rest) rfl (by rw [hb]; exact d0) (Nat.le_refl _) (Nat.le_refl _)
  generalize hT1 : (T.setVm vm₁).pushCell { cls := cX, slots := kX.instanceTypes.map defaultValue, vm := .none } = T1 at X₁ st1
  have hcat : (Value.ref T.heap.size).category = 1 := rfl
  have hcellA : T1.heap[T.heap.size]? = some (freshCell cX kX) := by rw [← hT1]; exact State.heap_pushCell_size _ _
  have d3' : decode c.code (pc + 3) = .ok (.dup, 1) := by rw [hb]; exact d3
  have d4' : decode c.code (pc + 4) = .ok (.ldc_w is, 3) := by rw [hb]; exact d4
  have hstr' : vk_R own is text sa s' := vk_R.warm hW0 hstr
  obtain ⟨U, hsteps, hrun, hend, hW, hsame, ce, hce, hO⟩ := X₁.ctorThrowS hexec htr (own := own) (cls := cls) (names := names) (ic := ic) hown' hcls hnames h (fun x hx => nomatch hx) hfX hkX hcellA (by rw [hhp, hT]; exact Nat.le_refl _) (msg := .ref sa) rfl
    (g := { method := m, pc := pc + 7, locals := ls, stack := .ref sa :: .ref T.heap.size :: .ref T.heap.size :: rest, locked := none }) rfl hsize rfl rfl (rest := rest) rfl
    (by rw [hb]; exact d7) (by rw [hb]; exact d10) hout hRframes (by simp only [List.map_cons, List.sum_cons, hcat]; omega) hlocks
  obtain ⟨f1, f2⟩ := vx_frame hsame
  rw [hhp] at f1 f2
  have hWs : s.WarmedH U.vm := State.WarmedH.trans hW0 hW
  have hcl : s.vm.findClass cls = some ce.cls := by
    have h9 := hO.cls
    rw [hvm] at h9
    exact h9
  have hall : s.sameButNew ({ U with vm := s.vm } : State) locs mc ms := by
    subst hA
    obtain ⟨e1, e2⟩ := hsame
    rw [State.setFrames_setFrames] at e1
    have h2 : (T.setVm s.vm).sameButNew ({ U with vm := s.vm } : State) [] (0 + 1) (0 + 6) := ⟨e1, e2⟩
    have h3 := X.same.trans h2
    rw [List.append_nil] at h3
    exact h3.mono hc hs
  refine ⟨U, ?_, .threw T.heap.size, hrun, hend, Or.inr ⟨T.heap.size, rfl, cls, ce, locs, hx U hWs.alike f1 (fun q hq => f2 q hq (fun z hz => nomatch hz)), hce, hO.vm, hcl, hWs, hall, hf⟩⟩
  refine st1 _ ?_
  show Steps p.tables e below (T1.setTop { method := m, pc := pc + 3, locals := ls, stack := .ref T.heap.size :: rest, locked := none }) _
  jvm_step X₁.here [X₁.here.top, hexec, d3', Value.category]
  exact X₁.ldcStringW hexec (own := own) (text := text) (index := is) (a := sa) hown' hstr'.1 hstr'.2
    (g := { method := m, pc := pc + 4, locals := ls, stack := .ref T.heap.size :: .ref T.heap.size :: rest, locked := none }) rfl d4' _ hsteps
end Ends
section Bodies
variable {l : Launch}
theorem vx_ofW {y : MethodName} {ws ws' : List Cond} {rm : Room} {Pc : Array Value → State → Prop} {Qc : Array Value → State → Outcome → State → Prop} {XC : String → State → State → Prop} {mc ms : Nat} {free : Addr → Prop} {cc : ByteArray} {maxL : Nat} {ret : Option FieldType}
    (hy : plainName y.cls = true) (hw : ws = Cond.code y cc maxL ret :: ws')
    (body : ∀ p e s m args below meth c s₁, BodyLoose p l y (headSpec ws rm) cc maxL ret e s m args below meth c s₁ → c.maxLocals = maxL → (∀ x ∈ c.exceptionTable.toList, False) → Pc args s →
      W p l e (headSpec ws rm).room s m args below meth c s.heap [] 0 0 (vx_MQ below Qc XC args s mc ms free) (entryFrame m args maxL)) : vx_Met l y ws rm Pc Qc XC mc ms free := by
  refine MetFree.of_bodyS (code := cc) (maxLocals := maxL) (ret := ret) hy ?_ ?_
  · intro args s m h hn
    obtain ⟨meth, c, h1, h2, h3, h4, h5, h6, -, -⟩ := Cond.code_spec hn (atoms_spec (ws := ws) h _ (by rw [hw]; exact List.mem_cons_self))
    exact ⟨meth, c, h1, h2, h3, h4, h5, h6⟩
  · intro p e s m args below meth c s₁ B hml hP _
    have hh0 : s₁.heap = s.heap := by rw [B.state]; rfl
    have ht : ∀ x ∈ c.exceptionTable.toList, False := by
      obtain ⟨meth9, c9, h1, h2, -, -, -, -, h7, -⟩ := Cond.code_spec B.named (atoms_spec (ws := ws) B.pre _ (by rw [hw]; exact List.mem_cons_self))
      cases Option.some.inj (h1.symm.trans B.method)
      cases Option.some.inj (h2.symm.trans (Stand.of_body B).code)
      intro x hx
      rw [Array.isEmpty_iff.mp h7] at hx
      cases hx
    obtain ⟨t, a1, o, b1, b2, b3⟩ := body p e s m args below meth c s₁ B hml ht hP s₁ hh0 (Stand.of_body B)
    exact ⟨t, o, a1, b1, b2, b3⟩
/-- the table of a body with handlers -/
theorem vx_table {p : Program} {x y : MethodName} {S : Spec} {cc bytes : ByteArray} {maxL maxL' : Nat} {ret ret' : Option FieldType} {e : Env} {s s₁ : State} {m : MethodId} {args : Array Value} {below : List Frame} {meth : Method} {c : Code} {hh : List (Nat × Nat × Nat × Nat)}
    (B : BodyLoose p l y S cc maxL ret e s m args below meth c s₁) (h : (Cond.codeWith y bytes maxL' ret' hh).before args s = true) : c.exceptionTable.toList = tableOf hh := by
  obtain ⟨m9, meth9, c9, hn9, h1, h2, -, -, h6, -⟩ := Cond.codeWith_spec h
  cases Option.some.inj (hn9.symm.trans B.named)
  cases Option.some.inj (h1.symm.trans B.method)
  cases Option.some.inj (h2.symm.trans (Stand.of_body B).code)
  rw [← h6, table_eq]
end Bodies
end VXA
/-! ===== END ===== -/
/-! ===== BEGIN a static call of a method with an exception table ===== -/
section VXS
variable {p : Program} {l : Launch} {e : Env} {R : Room} {s : State} {m : MethodId} {args : Array Value} {below : List Frame} {meth : Method} {c : Code} {T : State} {H : Heap} {locs : List Loc} {cells slots : Nat}
abbrev vx_CSW (R : Room) (s : State) (args : Array Value) (own : String) (index : Nat) (y : MethodName) (bytes : ByteArray) (maxL : Nat) (ret : Option FieldType) (hh : List (Nat × Nat × Nat × Nat)) (ws : List Cond) (rm : Room) (mc ms n : Nat) : Prop :=
  (rm.cells = mc ∧ rm.slots = ms ∧ rm.frames + 1 ≤ R.frames ∧ 8 + (maxL + 11) + rm.locals ≤ R.locals ∧ (∀ w ∈ ws, ∀ (a' : Array Value) (U : State), s.WarmedH U.vm → w.before a' U = true) ∧ Cond.codeWith y bytes maxL ret hh ∈ ws) ∧
  (Cond.codeWith y bytes maxL ret hh).before args s = true ∧ (Cond.initialized y.cls).before args s = true ∧ (y.cls ≠ "java/lang/invoke/MethodHandle" ∧ y.cls ≠ "java/lang/invoke/VarHandle") ∧
  (∀ sig, parseMethodDescriptor y.desc = some sig → n = sig.parameters.length) ∧ (Cond.methodLink own index y).before args s = true ∧ (Cond.static y).before args s = true
theorem vx_cwSW {own : String} {index maxL mc ms : Nat} {y : MethodName} {bytes : ByteArray} {ret : Option FieldType} {hh : List (Nat × Nat × Nat × Nat)} {Ts ws ws' : List Cond} {rm : Room} (n : Nat) (ht : ∀ w ∈ Ts, w.before args s = true) (hT : GoodIn Ts (va_wsS own index y ws)) (hw : ws = Cond.codeWith y bytes maxL ret hh :: ws') (hrc : rm.cells = mc) (hrs : rm.slots = ms)
    (hd : y.cls ≠ "java/lang/invoke/MethodHandle" ∧ y.cls ≠ "java/lang/invoke/VarHandle" ∧ (parseMethodDescriptor y.desc).map (fun d => d.parameters.length) = some n) (hR : rm.frames + 1 ≤ R.frames ∧ 8 + (maxL + 11) + rm.locals ≤ R.locals) :
    vx_CSW R s args own index y bytes maxL ret hh ws rm mc ms n := by
  have ok : ∀ w ∈ va_wsS own index y ws, w.before args s = true := fun w h => ht w (hT w h).1
  have hG : GoodIn Ts ws := fun w h => hT w (by unfold va_wsS; exact List.mem_append_right _ h)
  have hc : Cond.codeWith y bytes maxL ret hh ∈ ws := by rw [hw]; exact List.mem_cons_self
  refine ⟨⟨hrc, hrs, hR.1, hR.2, pay_in ht hG, hc⟩, ht _ (hG _ hc).1, ok _ (by simp [va_wsS]), ⟨hd.1, hd.2.1⟩, fun sig h => ?_, ok _ (by simp [va_wsS]), ok _ (by simp [va_wsS])⟩
  have h2 := hd.2.2
  rw [h] at h2
  exact (Option.some.inj h2).symm
theorem vx_callSW (X : Stand p l e R s m args below meth c T locs cells slots) (hexec : p.tables.exec = Jvm.exec) {own : String} {index : Nat} {y : MethodName} {bytes : ByteArray} {maxL : Nat} {ret : Option FieldType} {hh : List (Nat × Nat × Nat × Nat)}
    (hown : s.vm.findClass own = some m.cls) (hlink : (Cond.methodLink own index y).before args s = true) (hstat : (Cond.static y).before args s = true) (hinit : (Cond.initialized y.cls).before args s = true)
    (hcode : (Cond.codeWith y bytes maxL ret hh).before args s = true) (hy : y.cls ≠ "java/lang/invoke/MethodHandle" ∧ y.cls ≠ "java/lang/invoke/VarHandle")
    {W9 : Nat} {Pre : Pt → Array Value → Prop} {Post : Pt → Array Value → Option Value → Pt → Prop} (hK : Back l R p e below s args y 3 W9 Pre Post)
    {g : JFrame} (hg : g.method = m) (hsize : g.locals.size = c.maxLocals) {argsL rest : List Value} (hlen : ∀ sig, parseMethodDescriptor y.desc = some sig → argsL.length = sig.parameters.length)
    (hstack : g.stack = argsL.reverse ++ rest) (hW : 2 * g.monitorRoom + (rest.map fun v => v.category).sum ≤ W9) (hdg : decode c.code g.pc = .ok (.invokestatic index, 3))
    (hpre : ∀ vm₁, s.WarmedH vm₁ → Pre ⟨T.setVm vm₁, locs, cells, slots⟩ argsL.toArray) :
    ∃ (v : Option Value) (vm₁ : Vm) (B : Pt), s.WarmedH vm₁ ∧ Stand p l e R s m args below meth c B.U B.locs B.cells B.slots ∧ Post ⟨T.setVm vm₁, locs, cells, slots⟩ argsL.toArray v B ∧
      ∀ target, Steps p.tables e below (B.U.setTop { g with pc := g.pc + 3, stack := v.toList ++ rest }) target → Steps p.tables e below (T.setTop g) target := by
  obtain ⟨mk, methM, cM, hnamed, hmethM, -, -, -, -, -, -, hsigM⟩ := Cond.codeWith_spec hcode
  have hstatic : methM.isStatic = true := Cond.static_spec hnamed hmethM hstat
  obtain ⟨kP, hkP, -⟩ := className_of_methodNamed hnamed
  have hinitP : kP.init = .initialized := Cond.initialized_spec (findClass_of_methodNamed hnamed) hkP hinit
  obtain ⟨vm₁, X₁, hstep₁⟩ := X.invokestatic hexec hown hlink hnamed hmethM hstatic hkP hinitP hy (g := g) hg (argsL := argsL) (rest := rest) (hlen _ hsigM) hstack hdg
  obtain ⟨v, B, X', hpost, hsteps⟩ := hK m meth c ⟨T.setVm vm₁, locs, cells, slots⟩ { g with stack := rest } (.invokestatic index) mk argsL.toArray X₁ hg hsize hdg hW (X₁.named hnamed) (hpre vm₁ X₁.warmed)
  exact ⟨v, vm₁, B, X₁.warmed, X', hpost, fun target h => hstep₁ _ fun acts => by rw [doInvoke_state]; exact hsteps.trans h⟩
theorem vx_runSW {y : MethodName} {bytes cc : ByteArray} {maxL nL mc ms n index : Nat} {ret : Option FieldType} {hh : List (Nat × Nat × Nat × Nat)} {ws : List Cond} {rm : Room} {Pc : Array Value → State → Prop} {Qc : Array Value → State → Outcome → State → Prop} {free : Addr → Prop} {Ts : List Cond} {own : String} {As rest : List Value} {g : JFrame}
    (S : CallFix p m c cc nL s args Ts own) (hM : Met l y ws rm Pc Qc mc ms free) (cw : vx_CSW R s args own index y bytes maxL ret hh ws rm mc ms n) (hp : PreS s H Pc As)
    (hg : g.method = m) (hn : As.length = n) (hsize : g.locals.size = nL) (hstack : g.stack = As.reverse ++ rest) (hW : 2 * g.monitorRoom + (rest.map fun v => v.category).sum ≤ 8) (hdg : decode cc g.pc = .ok (.invokestatic index, 3)) (hf : cells + mc ≤ R.cells ∧ slots + ms ≤ R.slots) :
    va_Run p l e R s m args below meth c H locs cells slots mc ms g rest (Qc As.toArray) (free) := by
  obtain ⟨⟨hrc, hrs, hfr, hlo, hws, hcw⟩, hcode, hini, hy, hlen, hl, hstt⟩ := cw
  have hK : Back l R p e below s args y 3 8 (PreOf R mc ms Pc) (PostOf Qc mc ms free) := va_backW (hh := hh) (bytes := bytes) (maxL := maxL) (ret := ret) hM hp.1 hrc hrs hfr hlo hws hcw (fun a' U hW => word_at hW (Or.inl (by first | rfl | simp [Cond.onTables, Cond.keeps, Cond.steady])) hini)
  obtain ⟨hx, hb, hml, ho, -⟩ := S
  intro T hT X
  obtain ⟨v, vm₁, ⟨U', l2, c2, s2⟩, hW₁, X', ⟨g', mk, t, L, e1, e2, hq, h1, hL, h2, h3⟩, st⟩ := vx_callSW X hx (hh := hh) (bytes := bytes) (maxL := maxL) (ret := ret) ho hl hstt hini hcode hy hK hg (hsize.trans hml.symm) (argsL := As) (rest := rest) (fun sig h => hn.trans (hlen sig h)) hstack hW (by rw [hb]; exact hdg)
    (fun vm₁ hW₁ => ⟨hf.1, hf.2, hp.2 (T.setVm vm₁) hT hW₁⟩)
  dsimp only [Pt.U, Pt.locs, Pt.cells, Pt.slots] at X' e1 e2 h1 h2 h3 st
  subst h1; subst h2; subst h3
  exact ⟨v, (T.setVm vm₁).calling g' mk As.toArray, t, U', L, hT, X', hL, e1, e2, hq, st⟩
/-- a thing of a world lies in the heap -/
theorem vx_lt {D : va_G} {cl : List vw_C} {ws : va_W} {H1 : Heap} (h : va_P D cl ws H1) {k : Nat} {q : Nat × va_E} (hk : ws[k]? = some q) : q.1 < H1.size := (h k q hk).lt
end VXS
/-! ===== END ===== -/
/-! ===== BEGIN methods with a table of their own: called by a name, returning or throwing ===== -/
section VXH
/-! vx_backW, vx_callVX, vx_callSX, vx_callVW, vx_runVW, vx_runVX, vx_runSX, vx_ofWH follow the same proofs as their sisters above (Free/Laws.lean, Shelf42/LK1.lean); vx_outP calls Shelf42/NT130.lean (outThrough). -/
section
variable {l : Launch} {R : Room} {p : Program} {e : Env} {below : List Frame} {s : State} {sargs : Array Value} {y : MethodName} {len W9 : Nat}
theorem vx_backW {ws : List Cond} {rm : Room} {Pc : Array Value → State → Prop} {Qc : Array Value → State → Outcome → State → Prop} {XC : String → State → State → Prop} {mc ms : Nat} {free : Addr → Prop} {bytes : ByteArray} {maxL : Nat} {ret : Option FieldType} {hh : List (Nat × Nat × Nat × Nat)}
    (hM : vx_Met l y ws rm Pc Qc XC mc ms free) (hblind : FrameBlind Pc) (hrc : rm.cells = mc) (hrs : rm.slots = ms)
    (hframes : rm.frames + 1 ≤ R.frames) (hlocals : W9 + (maxL + 11) + rm.locals ≤ R.locals)
    (hws : ∀ w ∈ ws, ∀ a' U, s.WarmedH U.vm → w.before a' U = true) (hcode : Cond.codeWith y bytes maxL ret hh ∈ ws) (hinit : ∀ a' U, s.WarmedH U.vm → (Cond.initialized y.cls).before a' U = true) :
    vx_Back l R p e below s sargs y len W9 (PreOf R mc ms Pc) (PostOf Qc mc ms free) (vx_Post XC mc ms free) := by
  intro m meth c A g ig mk a X hg hsize hdg hW hn hp
  have h1 : (headSpec ws rm).pre.before a A.U = true := atoms_intro fun w hw => hws w hw _ _ X.warmed
  have h2 : (Cond.codeWith y bytes maxL ret hh).before a A.U = true := hws _ hcode _ _ X.warmed
  have h3 : (Cond.initialized y.cls).before a A.U = true := hinit _ _ X.warmed
  have h4 : A.cells + (headSpec ws rm).room.cells ≤ R.cells := by rw [show (headSpec ws rm).room.cells = mc from hrc]; exact hp.1
  have h5 : A.slots + (headSpec ws rm).room.slots ≤ R.slots := by rw [show (headSpec ws rm).room.slots = ms from hrs]; exact hp.2.1
  have hPc : Pc a (A.U.calling g mk a) := hblind _ _ _ _ hp.2.2
  obtain ⟨U, Ls, c0, s0⟩ := A
  dsimp only [Pt.U, Pt.locs, Pt.cells, Pt.slots] at h1 h2 h3 h4 h5 X hn hPc ⊢
  obtain ⟨m9, methY, cY, hn9, hmY, hcY, -, hlY, -⟩ := Cond.codeWith_spec h2
  cases Option.some.inj (hn9.symm.trans hn)
  obtain ⟨kY, hkY, -⟩ := className_of_methodNamed hn
  have hinitY : kY.init = .initialized := Cond.initialized_spec (findClass_of_methodNamed hn) hkY h3
  have h : At U g.method c below := by rw [hg]; exact X.here
  have hlocals9 : W9 + (maxL + 11) + (headSpec ws rm).room.locals ≤ R.locals := hlocals
  have happ : (headSpec ws rm).appliesLoose y e.platform (U.calling g mk a) = true :=
    Spec.appliesLoose_calling (g := g) h hdg hn hkY hinitY
      (X.room_calling (g := g) (R' := (headSpec ws rm).room) hsize hmY hcY hframes (by rw [hlY]; omega) h4 h5) h1
  obtain ⟨mid, hmid⟩ := h.above
  have hfr : (U.setTop g).frames = (.java g :: mid) ++ below := by rw [State.frames_setTop' g h.top, hmid]; rfl
  obtain ⟨o, s₂, hsteps, -, hend, hq⟩ := Steps.callFree hM p X.admits X.cas X.clock (acts := []) hfr happ hPc trivial
  have hq' : vx_Q Qc XC mc ms free a (U.calling g mk a) o s₂ := hq
  rw [State.frames_setTop' g h.top] at hend
  obtain ⟨g₀, hg0⟩ := Option.isSome_iff_exists.mp h.top
  obtain ⟨r, hr⟩ := State.topJava?_eq_some.mp hg0
  have hr' : (({ U with heap := s₂.heap, slotsUsed := s₂.slotsUsed } : State).setVm s₂.vm).frames = .java g₀ :: r := hr
  rcases hq' with ⟨hqc, L, hfe, hL⟩ | ⟨q, rfl, E, ce, L, hx, hce, hcv, hcl, hW₂, hsm, hL⟩
  · obtain ⟨⟨v, rfl⟩, hW₂, e2, q2, q3, q4, q5, q6⟩ := id hfe
    have e3 : s₂ = ({ (U.calling g mk a).setFrames s₂.frames with heap := s₂.heap, slotsUsed := s₂.slotsUsed } : State).setVm s₂.vm := by
      have : s₂ = ({ s₂ with vm := (U.calling g mk a).vm } : State).setVm s₂.vm := rfl
      rw [e2] at this
      exact this
    obtain ⟨c₂, i₂, len₂, hc₂, hd₂, hf₂⟩ := hend
    have hW' : U.WarmedH s₂.vm := hW₂
    have hcc : c₂ = c := by
      have h1 : s₂.code? g.method = U.code? g.method := by
        rw [State.code?_eq, State.code?_eq, hW'.alike.method?]
      exact Option.some.inj (hc₂.symm.trans (h1.trans h.code))
    subst hcc
    have hlen : len₂ = len := by rw [hdg] at hd₂; cases hd₂; rfl
    subst hlen
    have hs₂ : s₂ = (({ U with heap := s₂.heap, slotsUsed := s₂.slotsUsed } : State).setVm s₂.vm).setTop { g with pc := g.pc + len₂, stack := v.toList ++ g.stack } := by
      refine e3.trans ?_
      rw [hf₂, State.calling_eq h.top, State.setFrames_setFrames, State.setTop_of_frames _ hr', hr]
      rfl
    have hsame : U.sameButNew ({ U with heap := s₂.heap, slotsUsed := s₂.slotsUsed } : State) L mc ms := by
      refine ⟨?_, q2, q3, q4, q5, q6⟩
      obtain ⟨t, ht, -⟩ := State.frames_cons hr
      show ({ U with heap := s₂.heap, slotsUsed := s₂.slotsUsed } : State) = { U.setFrames U.frames with heap := s₂.heap, slotsUsed := s₂.slotsUsed }
      rw [State.setFrames_self ht]
    subst hg
    refine Or.inl ⟨v, ⟨(({ U with heap := s₂.heap, slotsUsed := s₂.slotsUsed } : State).setVm s₂.vm), Ls ++ L, c0 + mc, s0 + ms⟩,
      ⟨X.admits, X.cas, X.clock, X.frames, X.room, X.hears, X.method, X.code, (X.here.setHeapUsed s₂.heap s₂.slotsUsed).setVm hW'.alike, X.tail, State.WarmedH.trans X.warmed hW', X.limits, X.bytes, X.same.trans (hsame.setVm s.vm)⟩,
      ⟨g, mk, s₂, L, rfl, rfl, hqc, rfl, hL, rfl, rfl⟩, ?_⟩
    show Steps p.tables e below _ ((({ U with heap := s₂.heap, slotsUsed := s₂.slotsUsed } : State).setVm s₂.vm).setTop { g with pc := g.pc + len₂, stack := v.toList ++ g.stack })
    rw [← hs₂]
    exact hsteps
  · obtain ⟨e2, q2, q3, q4, q5, q6⟩ := id hsm
    have e3 : s₂ = ({ (U.calling g mk a).setFrames s₂.frames with heap := s₂.heap, slotsUsed := s₂.slotsUsed } : State).setVm s₂.vm := by
      have : s₂ = ({ s₂ with vm := (U.calling g mk a).vm } : State).setVm s₂.vm := rfl
      rw [e2] at this
      exact this
    have hf₂ : s₂.frames = .throwing q :: .java g :: U.frames.tail := hend
    have hW' : U.WarmedH s₂.vm := hW₂
    have hs₂ : s₂ = ((({ U with heap := s₂.heap, slotsUsed := s₂.slotsUsed } : State).setVm s₂.vm).setTop g).pushFrame (.throwing q) := by
      refine e3.trans ?_
      rw [hf₂, State.calling_eq h.top, State.setFrames_setFrames, State.pushFrame, State.frames_setTop _ hr', State.setTop_of_frames _ hr', State.setFrames_setFrames, hr]
      rfl
    have hsame : U.sameButNew ({ U with heap := s₂.heap, slotsUsed := s₂.slotsUsed } : State) L mc ms := by
      refine ⟨?_, q2, q3, q4, q5, q6⟩
      obtain ⟨t, ht, -⟩ := State.frames_cons hr
      show ({ U with heap := s₂.heap, slotsUsed := s₂.slotsUsed } : State) = { U.setFrames U.frames with heap := s₂.heap, slotsUsed := s₂.slotsUsed }
      rw [State.setFrames_self ht]
    subst hg
    refine Or.inr ⟨q, ⟨(({ U with heap := s₂.heap, slotsUsed := s₂.slotsUsed } : State).setVm s₂.vm), Ls ++ L, c0 + mc, s0 + ms⟩,
      ⟨X.admits, X.cas, X.clock, X.frames, X.room, X.hears, X.method, X.code, (X.here.setHeapUsed s₂.heap s₂.slotsUsed).setVm hW'.alike, X.tail, State.WarmedH.trans X.warmed hW', X.limits, X.bytes, X.same.trans (hsame.setVm s.vm)⟩,
      ⟨g, mk, s₂, L, E, ce, rfl, rfl, hx, hce, hcv, hcl, rfl, hL, rfl, rfl⟩, ?_⟩
    show Steps p.tables e below _ (((({ U with heap := s₂.heap, slotsUsed := s₂.slotsUsed } : State).setVm s₂.vm).setTop g).pushFrame (.throwing q))
    rw [← hs₂]
    exact hsteps
end
variable {p : Program} {l : Launch} {e : Env} {R : Room} {s : State} {m : MethodId} {args : Array Value} {below : List Frame} {meth : Method} {c : Code} {T : State} {H : Heap} {locs : List Loc} {cells slots : Nat}
theorem vx_callVX (X : Stand p l e R s m args below meth c T locs cells slots) (hexec : p.tables.exec = Jvm.exec) {own C : String} {index : Nat} {y : MethodName} {bytes : ByteArray} {maxL : Nat} {ret : Option FieldType} {hh : List (Nat × Nat × Nat × Nat)}
    (hown : s.vm.findClass own = some m.cls) (hlink : (Cond.methodLink own index y).before args s = true) (hinst : (Cond.instanceMethod y).before args s = true) (hsel : (Cond.selects C y y).before args s = true)
    (hcode : (Cond.codeWith y bytes maxL ret hh).before args s = true) (hy : y.cls ≠ "java/lang/invoke/MethodHandle" ∧ y.cls ≠ "java/lang/invoke/VarHandle")
    {W9 : Nat} {Pre : Pt → Array Value → Prop} {Post : Pt → Array Value → Option Value → Pt → Prop} {PostX : Pt → Array Value → Addr → Pt → Prop} (hK : vx_Back l R p e below s args y 3 W9 Pre Post PostX)
    {b : Addr} {cellB : Cell} (hcell : T.heap[b]? = some cellB) (hobj : cellB.vm.isStatics = false) (hcls : s.vm.findClass C = some cellB.cls)
    {g : JFrame} (hg : g.method = m) (hsize : g.locals.size = c.maxLocals) {argsL rest : List Value} (hlen : ∀ sig, parseMethodDescriptor y.desc = some sig → argsL.length = sig.parameters.length)
    (hstack : g.stack = argsL.reverse ++ .ref b :: rest) (hW : 2 * g.monitorRoom + (rest.map fun v => v.category).sum ≤ W9) (hdg : decode c.code g.pc = .ok (.invokevirtual index, 3))
    (hpre : ∀ vm₁, s.WarmedH vm₁ → Pre ⟨T.setVm vm₁, locs, cells, slots⟩ (Value.ref b :: argsL).toArray) :
    (∃ (v : Option Value) (vm₁ : Vm) (B : Pt), s.WarmedH vm₁ ∧ Stand p l e R s m args below meth c B.U B.locs B.cells B.slots ∧ Post ⟨T.setVm vm₁, locs, cells, slots⟩ (Value.ref b :: argsL).toArray v B ∧
      ∀ target, Steps p.tables e below (B.U.setTop { g with pc := g.pc + 3, stack := v.toList ++ rest }) target → Steps p.tables e below (T.setTop g) target) ∨
    (∃ (q : Addr) (vm₁ : Vm) (B : Pt), s.WarmedH vm₁ ∧ Stand p l e R s m args below meth c B.U B.locs B.cells B.slots ∧ PostX ⟨T.setVm vm₁, locs, cells, slots⟩ (Value.ref b :: argsL).toArray q B ∧
      Steps p.tables e below (T.setTop g) ((B.U.setTop { g with stack := rest }).pushFrame (.throwing q))) := by
  obtain ⟨mk, methM, hnamed, hmethM, hstM, habM⟩ := Cond.instanceMethod_spec hinst
  obtain ⟨m8, methM', cM, hn8, hmethM', -, -, -, -, -, -, hsigM⟩ := Cond.codeWith_spec hcode
  cases Option.some.inj (hn8.symm.trans hnamed)
  cases hmethM.symm.trans hmethM'
  obtain ⟨c2, r2, m2, q1, q2, q3, q4, kP, hkP, hkPi⟩ := Cond.selects_spec hsel
  cases hcls.symm.trans q1
  cases (State.methodFound?_of_named hnamed hy).symm.trans q2
  cases hnamed.symm.trans q3
  have hselP : selectMethod e.platform s.vm cellB.cls mk = .method mk := by rw [Launch.admits_selectMethod X.admits]; exact q4
  obtain ⟨vm₁, X₁, hstep₁⟩ := X.invokevirtual hexec hown hlink hnamed hmethM hstM hkP hkPi hy (a := b) (cell := cellB) hcell
    (fun z h => by rw [h] at hobj; cases hobj) hselP hmethM habM hkP hkPi (g := g) hg (argsL := argsL) (rest := rest) (hlen _ hsigM) hstack hdg
  rcases hK m meth c ⟨T.setVm vm₁, locs, cells, slots⟩ { g with stack := rest } (.invokevirtual index) mk (Value.ref b :: argsL).toArray X₁ hg hsize hdg hW (X₁.named hnamed) (hpre vm₁ X₁.warmed) with ⟨v, B, X', hpost, hsteps⟩ | ⟨q, B, X', hpost, hsteps⟩
  · exact Or.inl ⟨v, vm₁, B, X₁.warmed, X', hpost, fun target h => hstep₁ _ fun acts => by rw [doInvoke_state]; exact hsteps.trans h⟩
  · exact Or.inr ⟨q, vm₁, B, X₁.warmed, X', hpost, hstep₁ _ fun acts => by rw [doInvoke_state]; exact hsteps⟩
theorem vx_callSX (X : Stand p l e R s m args below meth c T locs cells slots) (hexec : p.tables.exec = Jvm.exec) {own : String} {index : Nat} {y : MethodName} {bytes : ByteArray} {maxL : Nat} {ret : Option FieldType} {hh : List (Nat × Nat × Nat × Nat)}
    (hown : s.vm.findClass own = some m.cls) (hlink : (Cond.methodLink own index y).before args s = true) (hstat : (Cond.static y).before args s = true) (hinit : (Cond.initialized y.cls).before args s = true)
    (hcode : (Cond.codeWith y bytes maxL ret hh).before args s = true) (hy : y.cls ≠ "java/lang/invoke/MethodHandle" ∧ y.cls ≠ "java/lang/invoke/VarHandle")
    {W9 : Nat} {Pre : Pt → Array Value → Prop} {Post : Pt → Array Value → Option Value → Pt → Prop} {PostX : Pt → Array Value → Addr → Pt → Prop} (hK : vx_Back l R p e below s args y 3 W9 Pre Post PostX)
    {g : JFrame} (hg : g.method = m) (hsize : g.locals.size = c.maxLocals) {argsL rest : List Value} (hlen : ∀ sig, parseMethodDescriptor y.desc = some sig → argsL.length = sig.parameters.length)
    (hstack : g.stack = argsL.reverse ++ rest) (hW : 2 * g.monitorRoom + (rest.map fun v => v.category).sum ≤ W9) (hdg : decode c.code g.pc = .ok (.invokestatic index, 3))
    (hpre : ∀ vm₁, s.WarmedH vm₁ → Pre ⟨T.setVm vm₁, locs, cells, slots⟩ argsL.toArray) :
    (∃ (v : Option Value) (vm₁ : Vm) (B : Pt), s.WarmedH vm₁ ∧ Stand p l e R s m args below meth c B.U B.locs B.cells B.slots ∧ Post ⟨T.setVm vm₁, locs, cells, slots⟩ argsL.toArray v B ∧
      ∀ target, Steps p.tables e below (B.U.setTop { g with pc := g.pc + 3, stack := v.toList ++ rest }) target → Steps p.tables e below (T.setTop g) target) ∨
    (∃ (q : Addr) (vm₁ : Vm) (B : Pt), s.WarmedH vm₁ ∧ Stand p l e R s m args below meth c B.U B.locs B.cells B.slots ∧ PostX ⟨T.setVm vm₁, locs, cells, slots⟩ argsL.toArray q B ∧
      Steps p.tables e below (T.setTop g) ((B.U.setTop { g with stack := rest }).pushFrame (.throwing q))) := by
  obtain ⟨mk, methM, cM, hnamed, hmethM, -, -, -, -, -, -, hsigM⟩ := Cond.codeWith_spec hcode
  have hstatic : methM.isStatic = true := Cond.static_spec hnamed hmethM hstat
  obtain ⟨kP, hkP, -⟩ := className_of_methodNamed hnamed
  have hinitP : kP.init = .initialized := Cond.initialized_spec (findClass_of_methodNamed hnamed) hkP hinit
  obtain ⟨vm₁, X₁, hstep₁⟩ := X.invokestatic hexec hown hlink hnamed hmethM hstatic hkP hinitP hy (g := g) hg (argsL := argsL) (rest := rest) (hlen _ hsigM) hstack hdg
  rcases hK m meth c ⟨T.setVm vm₁, locs, cells, slots⟩ { g with stack := rest } (.invokestatic index) mk argsL.toArray X₁ hg hsize hdg hW (X₁.named hnamed) (hpre vm₁ X₁.warmed) with ⟨v, B, X', hpost, hsteps⟩ | ⟨q, B, X', hpost, hsteps⟩
  · exact Or.inl ⟨v, vm₁, B, X₁.warmed, X', hpost, fun target h => hstep₁ _ fun acts => by rw [doInvoke_state]; exact hsteps.trans h⟩
  · exact Or.inr ⟨q, vm₁, B, X₁.warmed, X', hpost, hstep₁ _ fun acts => by rw [doInvoke_state]; exact hsteps⟩
theorem vx_callVW (X : Stand p l e R s m args below meth c T locs cells slots) (hexec : p.tables.exec = Jvm.exec) {own C : String} {index : Nat} {y : MethodName} {bytes : ByteArray} {maxL : Nat} {ret : Option FieldType} {hh : List (Nat × Nat × Nat × Nat)}
    (hown : s.vm.findClass own = some m.cls) (hlink : (Cond.methodLink own index y).before args s = true) (hinst : (Cond.instanceMethod y).before args s = true) (hsel : (Cond.selects C y y).before args s = true)
    (hcode : (Cond.codeWith y bytes maxL ret hh).before args s = true) (hy : y.cls ≠ "java/lang/invoke/MethodHandle" ∧ y.cls ≠ "java/lang/invoke/VarHandle")
    {W9 : Nat} {Pre : Pt → Array Value → Prop} {Post : Pt → Array Value → Option Value → Pt → Prop} (hK : Back l R p e below s args y 3 W9 Pre Post)
    {b : Addr} {cellB : Cell} (hcell : T.heap[b]? = some cellB) (hobj : cellB.vm.isStatics = false) (hcls : s.vm.findClass C = some cellB.cls)
    {g : JFrame} (hg : g.method = m) (hsize : g.locals.size = c.maxLocals) {argsL rest : List Value} (hlen : ∀ sig, parseMethodDescriptor y.desc = some sig → argsL.length = sig.parameters.length)
    (hstack : g.stack = argsL.reverse ++ .ref b :: rest) (hW : 2 * g.monitorRoom + (rest.map fun v => v.category).sum ≤ W9) (hdg : decode c.code g.pc = .ok (.invokevirtual index, 3))
    (hpre : ∀ vm₁, s.WarmedH vm₁ → Pre ⟨T.setVm vm₁, locs, cells, slots⟩ (Value.ref b :: argsL).toArray) :
    ∃ (v : Option Value) (vm₁ : Vm) (B : Pt), s.WarmedH vm₁ ∧ Stand p l e R s m args below meth c B.U B.locs B.cells B.slots ∧ Post ⟨T.setVm vm₁, locs, cells, slots⟩ (Value.ref b :: argsL).toArray v B ∧
      ∀ target, Steps p.tables e below (B.U.setTop { g with pc := g.pc + 3, stack := v.toList ++ rest }) target → Steps p.tables e below (T.setTop g) target := by
  obtain ⟨mk, methM, hnamed, hmethM, hstM, habM⟩ := Cond.instanceMethod_spec hinst
  obtain ⟨m8, methM', cM, hn8, hmethM', -, -, -, -, -, -, hsigM⟩ := Cond.codeWith_spec hcode
  cases Option.some.inj (hn8.symm.trans hnamed)
  cases hmethM.symm.trans hmethM'
  obtain ⟨c2, r2, m2, q1, q2, q3, q4, kP, hkP, hkPi⟩ := Cond.selects_spec hsel
  cases hcls.symm.trans q1
  cases (State.methodFound?_of_named hnamed hy).symm.trans q2
  cases hnamed.symm.trans q3
  have hselP : selectMethod e.platform s.vm cellB.cls mk = .method mk := by rw [Launch.admits_selectMethod X.admits]; exact q4
  obtain ⟨vm₁, X₁, hstep₁⟩ := X.invokevirtual hexec hown hlink hnamed hmethM hstM hkP hkPi hy (a := b) (cell := cellB) hcell
    (fun z h => by rw [h] at hobj; cases hobj) hselP hmethM habM hkP hkPi (g := g) hg (argsL := argsL) (rest := rest) (hlen _ hsigM) hstack hdg
  obtain ⟨v, B, X', hpost, hsteps⟩ := hK m meth c ⟨T.setVm vm₁, locs, cells, slots⟩ { g with stack := rest } (.invokevirtual index) mk (Value.ref b :: argsL).toArray X₁ hg hsize hdg hW (X₁.named hnamed) (hpre vm₁ X₁.warmed)
  exact ⟨v, vm₁, B, X₁.warmed, X', hpost, fun target h => hstep₁ _ fun acts => by rw [doInvoke_state]; exact hsteps.trans h⟩
abbrev vx_CVW (R : Room) (s : State) (args : Array Value) (own C : String) (index : Nat) (y : MethodName) (bytes : ByteArray) (maxL : Nat) (ret : Option FieldType) (hh : List (Nat × Nat × Nat × Nat)) (ws : List Cond) (rm : Room) (mc ms n : Nat) : Prop :=
  (rm.cells = mc ∧ rm.slots = ms ∧ rm.frames + 1 ≤ R.frames ∧ 8 + (maxL + 11) + rm.locals ≤ R.locals ∧ (∀ w ∈ ws, ∀ (a' : Array Value) (U : State), s.WarmedH U.vm → w.before a' U = true) ∧ Cond.codeWith y bytes maxL ret hh ∈ ws) ∧
  (Cond.codeWith y bytes maxL ret hh).before args s = true ∧ (Cond.initialized y.cls).before args s = true ∧ (y.cls ≠ "java/lang/invoke/MethodHandle" ∧ y.cls ≠ "java/lang/invoke/VarHandle") ∧
  (∀ sig, parseMethodDescriptor y.desc = some sig → n = sig.parameters.length) ∧ (Cond.methodLink own index y).before args s = true ∧ (Cond.instanceMethod y).before args s = true ∧ (Cond.selects C y y).before args s = true
theorem vx_cwVW {own C : String} {index maxL mc ms : Nat} {y : MethodName} {bytes : ByteArray} {ret : Option FieldType} {hh : List (Nat × Nat × Nat × Nat)} {Ts ws ws' : List Cond} {rm : Room} (n : Nat) (ht : ∀ w ∈ Ts, w.before args s = true) (hT : GoodIn Ts (wsV own index C y ws)) (hw : ws = Cond.codeWith y bytes maxL ret hh :: ws') (hrc : rm.cells = mc) (hrs : rm.slots = ms)
    (hd : y.cls = C ∧ y.cls ≠ "java/lang/invoke/MethodHandle" ∧ y.cls ≠ "java/lang/invoke/VarHandle" ∧ (parseMethodDescriptor y.desc).map (fun d => d.parameters.length) = some n) (hR : rm.frames + 1 ≤ R.frames ∧ 8 + (maxL + 11) + rm.locals ≤ R.locals) :
    vx_CVW R s args own C index y bytes maxL ret hh ws rm mc ms n := by
  obtain ⟨hC, hd⟩ := hd
  subst hC
  have ok : ∀ w ∈ wsV own index y.cls y ws, w.before args s = true := fun w h => ht w (hT w h).1
  have hG : GoodIn Ts ws := fun w h => hT w (by unfold wsV; exact List.mem_append_right _ h)
  have hc : Cond.codeWith y bytes maxL ret hh ∈ ws := by rw [hw]; exact List.mem_cons_self
  refine ⟨⟨hrc, hrs, hR.1, hR.2, pay_in ht hG, hc⟩, ht _ (hG _ hc).1, ok _ (by simp [wsV]), ⟨hd.1, hd.2.1⟩, fun sig h => ?_, ok _ (by simp [wsV]), ok _ (by simp [wsV]), ok _ (by simp [wsV])⟩
  have h2 := hd.2.2
  rw [h] at h2
  exact (Option.some.inj h2).symm
theorem vx_runVW {y : MethodName} {bytes cc : ByteArray} {maxL nL mc ms n index : Nat} {ret : Option FieldType} {hh : List (Nat × Nat × Nat × Nat)} {ws : List Cond} {rm : Room} {Pc : Array Value → State → Prop} {Qc : Array Value → State → Outcome → State → Prop} {free : Addr → Prop} {Ts : List Cond} {own C : String} {b : Addr} {As rest : List Value} {g : JFrame}
    (S : CallFix p m c cc nL s args Ts own) (hM : Met l y ws rm Pc Qc mc ms free) (cw : vx_CVW R s args own C index y bytes maxL ret hh ws rm mc ms n) (hp : PreV s H C b Pc As)
    (hg : g.method = m) (hn : As.length = n) (hsize : g.locals.size = nL) (hstack : g.stack = As.reverse ++ .ref b :: rest) (hW : 2 * g.monitorRoom + (rest.map fun v => v.category).sum ≤ 8) (hdg : decode cc g.pc = .ok (.invokevirtual index, 3)) (hf : cells + mc ≤ R.cells ∧ slots + ms ≤ R.slots) :
    va_Run p l e R s m args below meth c H locs cells slots mc ms g rest (Qc (Value.ref b :: As).toArray) free := by
  obtain ⟨⟨hrc, hrs, hfr, hlo, hws, hcw⟩, hcode, hini, hy, hlen, hl, hin, hse⟩ := cw
  have hK : Back l R p e below s args y 3 8 (PreOf R mc ms Pc) (PostOf Qc mc ms free) := va_backW (hh := hh) (bytes := bytes) (maxL := maxL) (ret := ret) hM hp.1 hrc hrs hfr hlo hws hcw (fun a' U hW => word_at hW (Or.inl (by first | rfl | simp [Cond.onTables, Cond.keeps, Cond.steady])) hini)
  obtain ⟨hx, hb, hml, ho, -⟩ := S
  obtain ⟨-, ⟨cellB, hcB, hoB, hclB⟩, hPc⟩ := hp
  intro T hT X
  obtain ⟨v, vm₁, ⟨U', l2, c2, s2⟩, hW₁, X', ⟨g', mk, t, L, e1, e2, hq, h1, hL, h2, h3⟩, st⟩ := vx_callVW X hx (C := C) (hh := hh) (bytes := bytes) (maxL := maxL) (ret := ret) ho hl hin hse hcode hy hK (by rw [hT]; exact hcB) hoB hclB hg (hsize.trans hml.symm) (argsL := As) (rest := rest) (fun sig h => hn.trans (hlen sig h)) hstack hW (by rw [hb]; exact hdg)
    (fun vm₁ hW₁ => ⟨hf.1, hf.2, hPc (T.setVm vm₁) hT hW₁⟩)
  dsimp only [Pt.U, Pt.locs, Pt.cells, Pt.slots] at X' e1 e2 h1 h2 h3 st
  subst h1; subst h2; subst h3
  exact ⟨v, (T.setVm vm₁).calling g' mk (Value.ref b :: As).toArray, t, U', L, hT, X', hL, e1, e2, hq, st⟩
section
variable {y : MethodName} {bytes cc : ByteArray} {maxL nL mc ms n index : Nat} {ret : Option FieldType} {ws : List Cond} {rm : Room} {Pc : Array Value → State → Prop} {Qc : Array Value → State → Outcome → State → Prop} {XC : String → State → State → Prop} {free : Addr → Prop} {Ts : List Cond} {own C : String} {b : Addr} {As rest : List Value} {g : JFrame}
theorem vx_runVX {hh : List (Nat × Nat × Nat × Nat)} (S : CallFix p m c cc nL s args Ts own) (hM : vx_Met l y ws rm Pc Qc XC mc ms free) (cw : vx_CVW R s args own C index y bytes maxL ret hh ws rm mc ms n) (hp : PreV s H C b Pc As)
    (hg : g.method = m) (hn : As.length = n) (hsize : g.locals.size = nL) (hstack : g.stack = As.reverse ++ .ref b :: rest) (hW : 2 * g.monitorRoom + (rest.map fun v => v.category).sum ≤ 8) (hdg : decode cc g.pc = .ok (.invokevirtual index, 3)) (hf : cells + mc ≤ R.cells ∧ slots + ms ≤ R.slots) :
    vx_Run p l e R s m args below meth c H locs cells slots mc ms g rest (Qc (Value.ref b :: As).toArray) XC free := by
  obtain ⟨⟨hrc, hrs, hfr, hlo, hws, hcw⟩, hcode, hini, hy, hlen, hl, hin, hse⟩ := cw
  have hK : vx_Back l R p e below s args y 3 8 (PreOf R mc ms Pc) (PostOf Qc mc ms free) (vx_Post XC mc ms free) := vx_backW (hh := hh) (bytes := bytes) (maxL := maxL) (ret := ret) hM hp.1 hrc hrs hfr hlo hws hcw (fun a' U hW => word_at hW (Or.inl (by first | rfl | simp [Cond.onTables, Cond.keeps, Cond.steady])) hini)
  obtain ⟨hx, hb, hml, ho, -⟩ := S
  obtain ⟨-, ⟨cellB, hcB, hoB, hclB⟩, hPc⟩ := hp
  intro T hT X
  rcases vx_callVX X hx (C := C) (hh := hh) (bytes := bytes) (maxL := maxL) (ret := ret) ho hl hin hse hcode hy hK (by rw [hT]; exact hcB) hoB hclB hg (hsize.trans hml.symm) (argsL := As) (rest := rest) (fun sig h => hn.trans (hlen sig h)) hstack hW (by rw [hb]; exact hdg)
    (fun vm₁ hW₁ => ⟨hf.1, hf.2, hPc (T.setVm vm₁) hT hW₁⟩) with ⟨v, vm₁, ⟨U', l2, c2, s2⟩, hW₁, X', ⟨g', mk, t, L, e1, e2, hq, h1, hL, h2, h3⟩, st⟩ | ⟨q, vm₁, ⟨U', l2, c2, s2⟩, hW₁, X', ⟨g', mk, t, L, E, ce, e1, e2, hq, hce, hcv, hcl, h1, hL, h2, h3⟩, st⟩
  · dsimp only [Pt.U, Pt.locs, Pt.cells, Pt.slots] at X' e1 e2 h1 h2 h3 st
    subst h1; subst h2; subst h3
    exact Or.inl ⟨v, (T.setVm vm₁).calling g' mk (Value.ref b :: As).toArray, t, U', L, hT, X', hL, e1, e2, hq, st⟩
  · dsimp only [Pt.U, Pt.locs, Pt.cells, Pt.slots] at X' e1 e2 h1 h2 h3 st hcl
    subst h1; subst h2; subst h3
    exact Or.inr ⟨q, (T.setVm vm₁).calling g' mk (Value.ref b :: As).toArray, t, U', L, E, ce, hT, X', hL, e1, e2, hq, hce, hcv, vx_cls hW₁ hcl, st⟩
theorem vx_runSX {hh : List (Nat × Nat × Nat × Nat)} (S : CallFix p m c cc nL s args Ts own) (hM : vx_Met l y ws rm Pc Qc XC mc ms free) (cw : vx_CSW R s args own index y bytes maxL ret hh ws rm mc ms n) (hp : PreS s H Pc As)
    (hg : g.method = m) (hn : As.length = n) (hsize : g.locals.size = nL) (hstack : g.stack = As.reverse ++ rest) (hW : 2 * g.monitorRoom + (rest.map fun v => v.category).sum ≤ 8) (hdg : decode cc g.pc = .ok (.invokestatic index, 3)) (hf : cells + mc ≤ R.cells ∧ slots + ms ≤ R.slots) :
    vx_Run p l e R s m args below meth c H locs cells slots mc ms g rest (Qc As.toArray) XC free := by
  obtain ⟨⟨hrc, hrs, hfr, hlo, hws, hcw⟩, hcode, hini, hy, hlen, hl, hstt⟩ := cw
  have hK : vx_Back l R p e below s args y 3 8 (PreOf R mc ms Pc) (PostOf Qc mc ms free) (vx_Post XC mc ms free) := vx_backW (hh := hh) (bytes := bytes) (maxL := maxL) (ret := ret) hM hp.1 hrc hrs hfr hlo hws hcw (fun a' U hW => word_at hW (Or.inl (by first | rfl | simp [Cond.onTables, Cond.keeps, Cond.steady])) hini)
  obtain ⟨hx, hb, hml, ho, -⟩ := S
  intro T hT X
  rcases vx_callSX X hx (hh := hh) (bytes := bytes) (maxL := maxL) (ret := ret) ho hl hstt hini hcode hy hK hg (hsize.trans hml.symm) (argsL := As) (rest := rest) (fun sig h => hn.trans (hlen sig h)) hstack hW (by rw [hb]; exact hdg)
    (fun vm₁ hW₁ => ⟨hf.1, hf.2, hp.2 (T.setVm vm₁) hT hW₁⟩) with ⟨v, vm₁, ⟨U', l2, c2, s2⟩, hW₁, X', ⟨g', mk, t, L, e1, e2, hq, h1, hL, h2, h3⟩, st⟩ | ⟨q, vm₁, ⟨U', l2, c2, s2⟩, hW₁, X', ⟨g', mk, t, L, E, ce, e1, e2, hq, hce, hcv, hcl, h1, hL, h2, h3⟩, st⟩
  · dsimp only [Pt.U, Pt.locs, Pt.cells, Pt.slots] at X' e1 e2 h1 h2 h3 st
    subst h1; subst h2; subst h3
    exact Or.inl ⟨v, (T.setVm vm₁).calling g' mk As.toArray, t, U', L, hT, X', hL, e1, e2, hq, st⟩
  · dsimp only [Pt.U, Pt.locs, Pt.cells, Pt.slots] at X' e1 e2 h1 h2 h3 st hcl
    subst h1; subst h2; subst h3
    exact Or.inr ⟨q, (T.setVm vm₁).calling g' mk As.toArray, t, U', L, E, ce, hT, X', hL, e1, e2, hq, hce, hcv, vx_cls hW₁ hcl, st⟩
end
end VXH
theorem vx_ofWH {l : Launch} {y : MethodName} {ws ws' : List Cond} {rm : Room} {Pc : Array Value → State → Prop} {Qc : Array Value → State → Outcome → State → Prop} {XC : String → State → State → Prop} {mc ms : Nat} {free : Addr → Prop} {cc : ByteArray} {maxL : Nat} {ret : Option FieldType} {hh : List (Nat × Nat × Nat × Nat)}
    (hy : plainName y.cls = true) (hw : ws = Cond.codeWith y cc maxL ret hh :: ws')
    (body : ∀ p e s m args below meth c s₁, BodyLoose p l y (headSpec ws rm) cc maxL ret e s m args below meth c s₁ → c.maxLocals = maxL → Pc args s →
      W p l e (headSpec ws rm).room s m args below meth c s.heap [] 0 0 (vx_MQ below Qc XC args s mc ms free) (entryFrame m args maxL)) : vx_Met l y ws rm Pc Qc XC mc ms free := by
  refine MetFree.of_bodyS (code := cc) (maxLocals := maxL) (ret := ret) hy ?_ ?_
  · intro args s m h hn
    obtain ⟨m9, meth, c, hn9, h1, h2, h3, h4, -, h5, h6, -⟩ := Cond.codeWith_spec (atoms_spec (ws := ws) h _ (by rw [hw]; exact List.mem_cons_self))
    cases hn.symm.trans hn9
    exact ⟨meth, c, h1, h2, h3, h4, h5, h6⟩
  · intro p e s m args below meth c s₁ B hml hP _
    have hh0 : s₁.heap = s.heap := by rw [B.state]; rfl
    obtain ⟨t, a1, o, b1, b2, b3⟩ := body p e s m args below meth c s₁ B hml hP s₁ hh0 (Stand.of_body B)
    exact ⟨t, o, a1, b1, b2, b3⟩
/-! ===== END ===== -/
end
section
/-- the words of a throw whose class's own constructor passes on by the link ix, with these bytes (NoSuchElementException) -/
def vy_own (own : String) (ic : Nat) (X : String) (ix : Nat) (bytes : ByteArray) (Y : String) (names : List String) : List Cond :=
  Bundle.throwableAtoms ++ Bundle.throwableSAtoms ++ Bundle.passSAtoms X Y ix bytes ++ Bundle.chainSAtoms Y names ++
  [.methodLink own ic (Bundle.initS X), .instantiable X 6, .castable X X, .selects X Bundle.tFill0 Bundle.tFill0, .selects X Bundle.tFill Bundle.tFill,
   .lays X Bundle.tN "cause" "Ljava/lang/Throwable;", .lays X Bundle.tN "stackTrace" Bundle.steD, .lays X Bundle.tN "suppressedExceptions" Bundle.listD, .lays X Bundle.tN "detailMessage" "Ljava/lang/String;",
   .isRef (.static Bundle.tN "UNASSIGNED_STACK" Bundle.steD), .isRef (.static Bundle.tN "SUPPRESSED_SENTINEL" Bundle.listD),
   .fieldLink Bundle.tN 198 Bundle.tN "backtrace" "Ljava/lang/Object;", .lays Bundle.tN Bundle.tN "backtrace" "Ljava/lang/Object;", .lays X Bundle.tN "backtrace" "Ljava/lang/Object;"]
def vy_atS (own : String) (ic : Nat) (X : String) (ix : Nat) (bytes : ByteArray) (Y : String) (names : List String) : List Cond := (vy_own own ic X ix bytes Y names).filter vx_no
end
section
/-! ===== BEGIN printed: names, fields, word lists, decode rows ===== -/
def RX0 : String := "GaugeBoard$Gauge"
def TX0 : u_T := fun k => match k with
  | 0 => ("GaugeBoard$Gauge", "sorts", "[I", true)
  | 1 => ("GaugeBoard$Gauge", "sources", "[I", true)
  | 2 => ("GaugeBoard$Gauge", "operands", "[J", true)
  | 3 => ("GaugeBoard$Gauge", "kind", "I", false)
  | 4 => ("GaugeBoard$Gauge", "stepCount", "I", false)
  | 5 => ("GaugeBoard$Gauge", "value", "J", false)
  | 6 => ("GaugeBoard$Gauge", "marked", "Z", false)
  | 7 => ("GaugeBoard$Gauge", "high", "J", false)
  | 8 => ("GaugeBoard$Gauge", "low", "J", false)
  | 9 => ("GaugeBoard$Gauge", "readings", "I", false)
  | _ => ("GaugeBoard$Gauge", "swings", "I", false)
def tyX0 : Nat → FieldType := fun k => match k with
  | 0 => .array .int
  | 1 => .array .int
  | 2 => .array .long
  | 3 => .int
  | 4 => .int
  | 5 => .long
  | 6 => .boolean
  | 7 => .long
  | 8 => .long
  | 9 => .int
  | _ => .int
abbrev wsX00 : List Cond := u_ws RX0 TX0 11
theorem nmX0 : ∀ a, a < 11 → ∀ b, b < 11 → a ≠ b → (TX0 a).2.1 ≠ (TX0 b).2.1 := by decide +kernel
theorem tyX0_ok : ∀ k, k < 11 → parseFieldDescriptor (TX0 k).2.2.1 = some (tyX0 k) := by decide +kernel
abbrev cX0_init : ByteArray := prog_2_method_1_code
def yX0_init : MethodName := ⟨RX0, "<init>", "(I)V"⟩
abbrev cX0_startAs : ByteArray := prog_2_method_2_code
def yX0_startAs : MethodName := ⟨RX0, "startAs", "(I)V"⟩
abbrev cX0_addStep : ByteArray := prog_2_method_3_code
def yX0_addStep : MethodName := ⟨RX0, "addStep", "(IIJ)I"⟩
abbrev cX0_ownStepsTaking : ByteArray := prog_2_method_4_code
def yX0_ownStepsTaking : MethodName := ⟨RX0, "ownStepsTaking", "(I)I"⟩
abbrev cX0_takeValue : ByteArray := prog_2_method_5_code
def yX0_takeValue : MethodName := ⟨RX0, "takeValue", "(J)V"⟩
def RX1 : String := "GaugeBoard"
def TX1 : u_T := fun k => match k with
  | _ => ("GaugeBoard", "places", "[LGaugeBoard$Gauge;", true)
def tyX1 : Nat → FieldType := fun k => match k with
  | _ => .array (.object "GaugeBoard$Gauge")
abbrev wsX10 : List Cond := u_ws RX1 TX1 1
theorem nmX1 : ∀ a, a < 1 → ∀ b, b < 1 → a ≠ b → (TX1 a).2.1 ≠ (TX1 b).2.1 := by decide +kernel
theorem tyX1_ok : ∀ k, k < 1 → parseFieldDescriptor (TX1 k).2.2.1 = some (tyX1 k) := by decide +kernel
abbrev cX1_init : ByteArray := prog_1_method_1_code
def yX1_init : MethodName := ⟨RX1, "<init>", "()V"⟩
abbrev cX1_fit : ByteArray := prog_1_method_2_code
def yX1_fit : MethodName := ⟨RX1, "fit", "(II)Z"⟩
abbrev cX1_step : ByteArray := prog_1_method_3_code
def yX1_step : MethodName := ⟨RX1, "step", "(II)I"⟩
abbrev cX1_stepBy : ByteArray := prog_1_method_4_code
def yX1_stepBy : MethodName := ⟨RX1, "stepBy", "(IIJ)I"⟩
abbrev cX1_stepOf : ByteArray := prog_1_method_5_code
def yX1_stepOf : MethodName := ⟨RX1, "stepOf", "(III)I"⟩
abbrev cX1_bare : ByteArray := prog_1_method_6_code
def yX1_bare : MethodName := ⟨RX1, "bare", "(I)I"⟩
abbrev cX1_read : ByteArray := prog_1_method_7_code
def yX1_read : MethodName := ⟨RX1, "read", "(IJ)J"⟩
abbrev cX1_hand : ByteArray := prog_1_method_8_code
def yX1_hand : MethodName := ⟨RX1, "hand", "(II)J"⟩
abbrev cX1_clear : ByteArray := prog_1_method_9_code
def yX1_clear : MethodName := ⟨RX1, "clear", "(I)Z"⟩
abbrev cX1_value : ByteArray := prog_1_method_10_code
def yX1_value : MethodName := ⟨RX1, "value", "(I)J"⟩
abbrev cX1_mark : ByteArray := prog_1_method_11_code
def yX1_mark : MethodName := ⟨RX1, "mark", "(IZ)J"⟩
abbrev cX1_about : ByteArray := prog_1_method_12_code
def yX1_about : MethodName := ⟨RX1, "about", "(II)I"⟩
abbrev cX1_stepAt : ByteArray := prog_1_method_13_code
def yX1_stepAt : MethodName := ⟨RX1, "stepAt", "(III)I"⟩
abbrev cX1_rank : ByteArray := prog_1_method_14_code
def yX1_rank : MethodName := ⟨RX1, "rank", "(I)I"⟩
abbrev cX1_most : ByteArray := prog_1_method_15_code
def yX1_most : MethodName := ⟨RX1, "most", "(IZ)J"⟩
abbrev cX1_gauges : ByteArray := prog_1_method_16_code
def yX1_gauges : MethodName := ⟨RX1, "gauges", "()I"⟩
abbrev cX1_isPlace : ByteArray := prog_1_method_17_code
def yX1_isPlace : MethodName := ⟨RX1, "isPlace", "(I)Z"⟩
abbrev cX1_gaugeAt : ByteArray := prog_1_method_18_code
def yX1_gaugeAt : MethodName := ⟨RX1, "gaugeAt", "(I)LGaugeBoard$Gauge;"⟩
abbrev cX1_needGauge : ByteArray := prog_1_method_19_code
def yX1_needGauge : MethodName := ⟨RX1, "needGauge", "(I)LGaugeBoard$Gauge;"⟩
abbrev cX1_needKind : ByteArray := prog_1_method_20_code
def yX1_needKind : MethodName := ⟨RX1, "needKind", "(I)V"⟩
abbrev cX1_needSort : ByteArray := prog_1_method_21_code
def yX1_needSort : MethodName := ⟨RX1, "needSort", "(IIZ)V"⟩
abbrev cX1_needGood : ByteArray := prog_1_method_22_code
def yX1_needGood : MethodName := ⟨RX1, "needGood", "(IJ)V"⟩
abbrev cX1_lastSort : ByteArray := prog_1_method_23_code
def yX1_lastSort : MethodName := ⟨RX1, "lastSort", "(I)I"⟩
abbrev cX1_wantsOperand : ByteArray := prog_1_method_24_code
def yX1_wantsOperand : MethodName := ⟨RX1, "wantsOperand", "(I)Z"⟩
abbrev cX1_operandForm : ByteArray := prog_1_method_25_code
def yX1_operandForm : MethodName := ⟨RX1, "operandForm", "(II)I"⟩
abbrev cX1_isGood : ByteArray := prog_1_method_26_code
def yX1_isGood : MethodName := ⟨RX1, "isGood", "(IJ)Z"⟩
abbrev cX1_isReal : ByteArray := prog_1_method_27_code
def yX1_isReal : MethodName := ⟨RX1, "isReal", "(I)Z"⟩
abbrev cX1_signOf : ByteArray := prog_1_method_28_code
def yX1_signOf : MethodName := ⟨RX1, "signOf", "(J)I"⟩
abbrev cX1_orderKey : ByteArray := prog_1_method_29_code
def yX1_orderKey : MethodName := ⟨RX1, "orderKey", "(JI)J"⟩
abbrev cX1_isAbove : ByteArray := prog_1_method_30_code
def yX1_isAbove : MethodName := ⟨RX1, "isAbove", "(JJI)Z"⟩
abbrev cX1_higher : ByteArray := prog_1_method_31_code
def yX1_higher : MethodName := ⟨RX1, "higher", "(JJI)J"⟩
abbrev cX1_lower : ByteArray := prog_1_method_32_code
def yX1_lower : MethodName := ⟨RX1, "lower", "(JJI)J"⟩
abbrev cX1_further : ByteArray := prog_1_method_33_code
def yX1_further : MethodName := ⟨RX1, "further", "(LGaugeBoard$Gauge;LGaugeBoard$Gauge;Z)LGaugeBoard$Gauge;"⟩
abbrev cX1_stepsTaking : ByteArray := prog_1_method_34_code
def yX1_stepsTaking : MethodName := ⟨RX1, "stepsTaking", "(I)I"⟩
abbrev cX1_takeReading : ByteArray := prog_1_method_35_code
def yX1_takeReading : MethodName := ⟨RX1, "takeReading", "(LGaugeBoard$Gauge;J)J"⟩
abbrev cX1_operandOf : ByteArray := prog_1_method_36_code
def yX1_operandOf : MethodName := ⟨RX1, "operandOf", "(LGaugeBoard$Gauge;I)J"⟩
abbrev cX1_afterStep : ByteArray := prog_1_method_37_code
def yX1_afterStep : MethodName := ⟨RX1, "afterStep", "(IJJI)J"⟩
abbrev cX1_signBits : ByteArray := prog_1_method_38_code
def yX1_signBits : MethodName := ⟨RX1, "signBits", "(I)J"⟩
abbrev cX1_withSign : ByteArray := prog_1_method_39_code
def yX1_withSign : MethodName := ⟨RX1, "withSign", "(JZI)J"⟩
abbrev cX1_sizeOf : ByteArray := prog_1_method_40_code
def yX1_sizeOf : MethodName := ⟨RX1, "sizeOf", "(JI)J"⟩
abbrev cX1_shown : ByteArray := prog_1_method_41_code
def yX1_shown : MethodName := ⟨RX1, "shown", "(JI)J"⟩
abbrev cX1_partMask : ByteArray := prog_1_method_42_code
def yX1_partMask : MethodName := ⟨RX1, "partMask", "(J)J"⟩
abbrev cX1_isBelowOne : ByteArray := prog_1_method_43_code
def yX1_isBelowOne : MethodName := ⟨RX1, "isBelowOne", "(J)Z"⟩
abbrev cX1_isWhole : ByteArray := prog_1_method_44_code
def yX1_isWhole : MethodName := ⟨RX1, "isWhole", "(J)Z"⟩
abbrev cX1_wholeToward : ByteArray := prog_1_method_45_code
def yX1_wholeToward : MethodName := ⟨RX1, "wholeToward", "(J)J"⟩
abbrev cX1_wholeAway : ByteArray := prog_1_method_46_code
def yX1_wholeAway : MethodName := ⟨RX1, "wholeAway", "(J)J"⟩
abbrev cX1_wholeNearest : ByteArray := prog_1_method_47_code
def yX1_wholeNearest : MethodName := ⟨RX1, "wholeNearest", "(J)J"⟩
abbrev cX1_roundsAway : ByteArray := prog_1_method_48_code
def yX1_roundsAway : MethodName := ⟨RX1, "roundsAway", "(JJ)Z"⟩
abbrev cX1_canHandOn : ByteArray := prog_1_method_49_code
def yX1_canHandOn : MethodName := ⟨RX1, "canHandOn", "(II)Z"⟩
abbrev cX1_handedOn : ByteArray := prog_1_method_50_code
def yX1_handedOn : MethodName := ⟨RX1, "handedOn", "(JII)J"⟩
abbrev cX1_wholeAsReal : ByteArray := prog_1_method_51_code
def yX1_wholeAsReal : MethodName := ⟨RX1, "wholeAsReal", "(JIII)J"⟩
abbrev cX1_highestBit : ByteArray := prog_1_method_52_code
def yX1_highestBit : MethodName := ⟨RX1, "highestBit", "(J)I"⟩
abbrev cX1_cutTo : ByteArray := prog_1_method_53_code
def yX1_cutTo : MethodName := ⟨RX1, "cutTo", "(JI)J"⟩
abbrev cX1_singleAsDouble : ByteArray := prog_1_method_54_code
def yX1_singleAsDouble : MethodName := ⟨RX1, "singleAsDouble", "(J)J"⟩
abbrev cX1_sizeAsDouble : ByteArray := prog_1_method_55_code
def yX1_sizeAsDouble : MethodName := ⟨RX1, "sizeAsDouble", "(J)J"⟩
def RX2 : String := "GaugeBoardModel"
def TX2 : u_T := fun k => match k with
  | 0 => ("GaugeBoardModel", "thrown", "I", false)
  | 1 => ("GaugeBoardModel", "there", "[Z", true)
  | 2 => ("GaugeBoardModel", "kind", "[I", true)
  | 3 => ("GaugeBoardModel", "value", "[J", true)
  | 4 => ("GaugeBoardModel", "steps", "[I", true)
  | 5 => ("GaugeBoardModel", "readings", "[I", true)
  | 6 => ("GaugeBoardModel", "swings", "[I", true)
  | 7 => ("GaugeBoardModel", "marked", "[Z", true)
  | 8 => ("GaugeBoardModel", "high", "[J", true)
  | 9 => ("GaugeBoardModel", "low", "[J", true)
  | 10 => ("GaugeBoardModel", "sortOf", "[I", true)
  | 11 => ("GaugeBoardModel", "operandOf", "[I", true)
  | 12 => ("GaugeBoardModel", "bitsOf", "[J", true)
  | _ => ("GaugeBoardModel", "gaugeOf", "[I", true)
def tyX2 : Nat → FieldType := fun k => match k with
  | 0 => .int
  | 1 => .array .boolean
  | 2 => .array .int
  | 3 => .array .long
  | 4 => .array .int
  | 5 => .array .int
  | 6 => .array .int
  | 7 => .array .boolean
  | 8 => .array .long
  | 9 => .array .long
  | 10 => .array .int
  | 11 => .array .int
  | 12 => .array .long
  | _ => .array .int
abbrev wsX20 : List Cond := u_ws RX2 TX2 14
theorem nmX2 : ∀ a, a < 14 → ∀ b, b < 14 → a ≠ b → (TX2 a).2.1 ≠ (TX2 b).2.1 := by decide +kernel
theorem tyX2_ok : ∀ k, k < 14 → parseFieldDescriptor (TX2 k).2.2.1 = some (tyX2 k) := by decide +kernel
abbrev cX2_init : ByteArray := prog_4_method_1_code
def yX2_init : MethodName := ⟨RX2, "<init>", "()V"⟩
abbrev cX2_thrown : ByteArray := prog_4_method_2_code
def yX2_thrown : MethodName := ⟨RX2, "thrown", "()I"⟩
abbrev cX2_isThere : ByteArray := prog_4_method_3_code
def yX2_isThere : MethodName := ⟨RX2, "isThere", "(I)Z"⟩
abbrev cX2_isNone : ByteArray := prog_4_method_4_code
def yX2_isNone : MethodName := ⟨RX2, "isNone", "(JI)Z"⟩
abbrev cX2_isGood : ByteArray := prog_4_method_5_code
def yX2_isGood : MethodName := ⟨RX2, "isGood", "(JI)Z"⟩
abbrev cX2_keyOf : ByteArray := prog_4_method_6_code
def yX2_keyOf : MethodName := ⟨RX2, "keyOf", "(JI)J"⟩
abbrev cX2_isAbove : ByteArray := prog_4_method_7_code
def yX2_isAbove : MethodName := ⟨RX2, "isAbove", "(JJI)Z"⟩
abbrev cX2_isZero : ByteArray := prog_4_method_8_code
def yX2_isZero : MethodName := ⟨RX2, "isZero", "(JI)Z"⟩
abbrev cX2_has : ByteArray := prog_4_method_9_code
def yX2_has : MethodName := ⟨RX2, "has", "(II)Z"⟩
abbrev cX2_wants : ByteArray := prog_4_method_10_code
def yX2_wants : MethodName := ⟨RX2, "wants", "(I)Z"⟩
abbrev cX2_sizeOf : ByteArray := prog_4_method_11_code
def yX2_sizeOf : MethodName := ⟨RX2, "sizeOf", "(JI)J"⟩
abbrev cX2_shown : ByteArray := prog_4_method_12_code
def yX2_shown : MethodName := ⟨RX2, "shown", "(JI)J"⟩
abbrev cX2_like : ByteArray := prog_4_method_13_code
def yX2_like : MethodName := ⟨RX2, "like", "(JJI)J"⟩
abbrev cX2_wholeOf : ByteArray := prog_4_method_14_code
def yX2_wholeOf : MethodName := ⟨RX2, "wholeOf", "(JI)J"⟩
abbrev cX2_done : ByteArray := prog_4_method_15_code
def yX2_done : MethodName := ⟨RX2, "done", "(IIJ)J"⟩
abbrev cX2_comes : ByteArray := prog_4_method_16_code
def yX2_comes : MethodName := ⟨RX2, "comes", "(IJ)J"⟩
abbrev cX2_top : ByteArray := prog_4_method_17_code
def yX2_top : MethodName := ⟨RX2, "top", "(J)I"⟩
abbrev cX2_nearest : ByteArray := prog_4_method_18_code
def yX2_nearest : MethodName := ⟨RX2, "nearest", "(JII)J"⟩
abbrev cX2_asSingle : ByteArray := prog_4_method_19_code
def yX2_asSingle : MethodName := ⟨RX2, "asSingle", "(J)J"⟩
abbrev cX2_asDouble : ByteArray := prog_4_method_20_code
def yX2_asDouble : MethodName := ⟨RX2, "asDouble", "(J)J"⟩
abbrev cX2_widened : ByteArray := prog_4_method_21_code
def yX2_widened : MethodName := ⟨RX2, "widened", "(J)J"⟩
abbrev cX2_handed : ByteArray := prog_4_method_22_code
def yX2_handed : MethodName := ⟨RX2, "handed", "(JII)J"⟩
abbrev cX2_fit : ByteArray := prog_4_method_23_code
def yX2_fit : MethodName := ⟨RX2, "fit", "(II)Z"⟩
abbrev cX2_takersIn : ByteArray := prog_4_method_24_code
def yX2_takersIn : MethodName := ⟨RX2, "takersIn", "(II)I"⟩
abbrev cX2_takers : ByteArray := prog_4_method_25_code
def yX2_takers : MethodName := ⟨RX2, "takers", "(I)I"⟩
abbrev cX2_ownTakers : ByteArray := prog_4_method_26_code
def yX2_ownTakers : MethodName := ⟨RX2, "ownTakers", "(I)I"⟩
abbrev cX2_adds : ByteArray := prog_4_method_27_code
def yX2_adds : MethodName := ⟨RX2, "adds", "(IIIJI)I"⟩
abbrev cX2_step : ByteArray := prog_4_method_28_code
def yX2_step : MethodName := ⟨RX2, "step", "(II)I"⟩
abbrev cX2_stepBy : ByteArray := prog_4_method_29_code
def yX2_stepBy : MethodName := ⟨RX2, "stepBy", "(IIJ)I"⟩
abbrev cX2_stepOf : ByteArray := prog_4_method_30_code
def yX2_stepOf : MethodName := ⟨RX2, "stepOf", "(III)I"⟩
abbrev cX2_bare : ByteArray := prog_4_method_31_code
def yX2_bare : MethodName := ⟨RX2, "bare", "(I)I"⟩
abbrev cX2_read : ByteArray := prog_4_method_32_code
def yX2_read : MethodName := ⟨RX2, "read", "(IJ)J"⟩
abbrev cX2_hand : ByteArray := prog_4_method_33_code
def yX2_hand : MethodName := ⟨RX2, "hand", "(II)J"⟩
abbrev cX2_clear : ByteArray := prog_4_method_34_code
def yX2_clear : MethodName := ⟨RX2, "clear", "(I)Z"⟩
abbrev cX2_value : ByteArray := prog_4_method_35_code
def yX2_value : MethodName := ⟨RX2, "value", "(I)J"⟩
abbrev cX2_mark : ByteArray := prog_4_method_36_code
def yX2_mark : MethodName := ⟨RX2, "mark", "(IZ)J"⟩
abbrev cX2_about : ByteArray := prog_4_method_37_code
def yX2_about : MethodName := ⟨RX2, "about", "(II)I"⟩
abbrev cX2_stepAt : ByteArray := prog_4_method_38_code
def yX2_stepAt : MethodName := ⟨RX2, "stepAt", "(III)I"⟩
abbrev cX2_rank : ByteArray := prog_4_method_39_code
def yX2_rank : MethodName := ⟨RX2, "rank", "(I)I"⟩
abbrev cX2_most : ByteArray := prog_4_method_40_code
def yX2_most : MethodName := ⟨RX2, "most", "(IZ)J"⟩
abbrev cX2_gauges : ByteArray := prog_4_method_41_code
def yX2_gauges : MethodName := ⟨RX2, "gauges", "()I"⟩
def RJ0 : String := "java/lang/String"
def TJ0 : u_T := fun k => match k with
  | _ => ("", "", "", false)
def tyJ0 : Nat → FieldType := fun k => match k with
  | _ => .int
abbrev wsJ00 : List Cond := u_ws RJ0 TJ0 0
theorem nmJ0 : ∀ a, a < 0 → ∀ b, b < 0 → a ≠ b → (TJ0 a).2.1 ≠ (TJ0 b).2.1 := by decide +kernel
theorem tyJ0_ok : ∀ k, k < 0 → parseFieldDescriptor (TJ0 k).2.2.1 = some (tyJ0 k) := by decide +kernel
def RL : String := "GaugeBoardLaw"
abbrev cL_fit : ByteArray := method_3_code
def yL_fit : MethodName := ⟨RL, "fit", "(LGaugeBoard;II[J)I"⟩
abbrev cL_step : ByteArray := method_4_code
def yL_step : MethodName := ⟨RL, "step", "(LGaugeBoard;II[J)I"⟩
abbrev cL_stepBy : ByteArray := method_5_code
def yL_stepBy : MethodName := ⟨RL, "stepBy", "(LGaugeBoard;IIJ[J)I"⟩
abbrev cL_stepOf : ByteArray := method_6_code
def yL_stepOf : MethodName := ⟨RL, "stepOf", "(LGaugeBoard;III[J)I"⟩
abbrev cL_bare : ByteArray := method_7_code
def yL_bare : MethodName := ⟨RL, "bare", "(LGaugeBoard;I[J)I"⟩
abbrev cL_read : ByteArray := method_8_code
def yL_read : MethodName := ⟨RL, "read", "(LGaugeBoard;IJ[J)I"⟩
abbrev cL_hand : ByteArray := method_9_code
def yL_hand : MethodName := ⟨RL, "hand", "(LGaugeBoard;II[J)I"⟩
abbrev cL_clear : ByteArray := method_10_code
def yL_clear : MethodName := ⟨RL, "clear", "(LGaugeBoard;I[J)I"⟩
abbrev cL_value : ByteArray := method_11_code
def yL_value : MethodName := ⟨RL, "value", "(LGaugeBoard;I[J)I"⟩
abbrev cL_mark : ByteArray := method_12_code
def yL_mark : MethodName := ⟨RL, "mark", "(LGaugeBoard;IZ[J)I"⟩
abbrev cL_about : ByteArray := method_13_code
def yL_about : MethodName := ⟨RL, "about", "(LGaugeBoard;II[J)I"⟩
abbrev cL_stepAt : ByteArray := method_14_code
def yL_stepAt : MethodName := ⟨RL, "stepAt", "(LGaugeBoard;III[J)I"⟩
abbrev cL_rank : ByteArray := method_15_code
def yL_rank : MethodName := ⟨RL, "rank", "(LGaugeBoard;I[J)I"⟩
abbrev cL_most : ByteArray := method_16_code
def yL_most : MethodName := ⟨RL, "most", "(LGaugeBoard;IZ[J)I"⟩
abbrev cL_law : ByteArray := code
def yL_law : MethodName := ⟨RL, "law", "([I)Z"⟩
def wsX0_init : List Cond := .code yX0_init cX0_init 2 none :: ([.methodLink RX0 3 objectInit, .instanceMethod objectInit, .code objectInit ⟨#[0xb1]⟩ 1 none, .arrayClass .int, .fieldLink RX0 9 "GaugeBoard$Gauge" "sorts" "[I", .fieldLink RX0 15 "GaugeBoard$Gauge" "sources" "[I", .arrayClass .long, .fieldLink RX0 18 "GaugeBoard$Gauge" "operands" "[J", .fieldLink RX0 22 "GaugeBoard$Gauge" "kind" "I"] ++ wsX00)
def wsX0_startAs : List Cond := .code yX0_startAs cX0_startAs 2 none :: ([.fieldLink RX0 22 "GaugeBoard$Gauge" "kind" "I", .fieldLink RX0 26 "GaugeBoard$Gauge" "stepCount" "I", .fieldLink RX0 29 "GaugeBoard$Gauge" "value" "J", .fieldLink RX0 33 "GaugeBoard$Gauge" "marked" "Z", .fieldLink RX0 37 "GaugeBoard$Gauge" "readings" "I", .fieldLink RX0 40 "GaugeBoard$Gauge" "swings" "I"] ++ wsX00)
def wsX0_addStep : List Cond := .code yX0_addStep cX0_addStep 5 (some .int) :: ([.classLink RX0 43 "java/lang/IllegalStateException", .initialized "java/lang/IllegalStateException", .fieldLink RX0 26 "GaugeBoard$Gauge" "stepCount" "I", .fieldLink RX0 9 "GaugeBoard$Gauge" "sorts" "[I", .fieldLink RX0 15 "GaugeBoard$Gauge" "sources" "[I", .fieldLink RX0 18 "GaugeBoard$Gauge" "operands" "[J"] ++ wsX00 ++ (vx_atS RX0 47 "java/lang/IllegalStateException" ["java/lang/RuntimeException", "java/lang/Exception"]).filter goodWord)
def wsX0_ownStepsTaking : List Cond := .code yX0_ownStepsTaking cX0_ownStepsTaking 4 (some .int) :: ([.fieldLink RX0 26 "GaugeBoard$Gauge" "stepCount" "I", .fieldLink RX0 15 "GaugeBoard$Gauge" "sources" "[I"] ++ wsX00)
def wsX1_signOf : List Cond := .code yX1_signOf cX1_signOf 2 (some .int) :: ([])
def wsX1_isReal : List Cond := .code yX1_isReal cX1_isReal 1 (some .boolean) :: ([])
def wsX1_orderKey : List Cond := .code yX1_orderKey cX1_orderKey 3 (some .long) :: ([.constantLong RX1 167 (9223372036854775807), .methodLink RX1 177 yX1_isReal, .static yX1_isReal, .initialized RX1, .code yX1_isReal cX1_isReal 1 (some .boolean)])
def wsX1_isAbove : List Cond := .code yX1_isAbove cX1_isAbove 5 (some .boolean) :: ([.methodLink RX1 180 yX1_orderKey, .static yX1_orderKey, .initialized RX1, .code yX1_orderKey cX1_orderKey 3 (some .long), .constantLong RX1 167 (9223372036854775807), .methodLink RX1 177 yX1_isReal, .static yX1_isReal, .code yX1_isReal cX1_isReal 1 (some .boolean)])
def wsX1_higher : List Cond := .code yX1_higher cX1_higher 5 (some .long) :: ([.methodLink RX1 137 yX1_isAbove, .static yX1_isAbove, .initialized RX1, .code yX1_isAbove cX1_isAbove 5 (some .boolean), .methodLink RX1 180 yX1_orderKey, .static yX1_orderKey, .code yX1_orderKey cX1_orderKey 3 (some .long), .constantLong RX1 167 (9223372036854775807), .methodLink RX1 177 yX1_isReal, .static yX1_isReal, .code yX1_isReal cX1_isReal 1 (some .boolean)])
def wsX1_lower : List Cond := .code yX1_lower cX1_lower 5 (some .long) :: ([.methodLink RX1 137 yX1_isAbove, .static yX1_isAbove, .initialized RX1, .code yX1_isAbove cX1_isAbove 5 (some .boolean), .methodLink RX1 180 yX1_orderKey, .static yX1_orderKey, .code yX1_orderKey cX1_orderKey 3 (some .long), .constantLong RX1 167 (9223372036854775807), .methodLink RX1 177 yX1_isReal, .static yX1_isReal, .code yX1_isReal cX1_isReal 1 (some .boolean)])
def wsX0_takeValue : List Cond := .code yX0_takeValue cX0_takeValue 3 none :: ([.fieldLink RX0 37 "GaugeBoard$Gauge" "readings" "I", .fieldLink RX0 29 "GaugeBoard$Gauge" "value" "J", .fieldLink RX0 40 "GaugeBoard$Gauge" "swings" "I", .fieldLink RX0 33 "GaugeBoard$Gauge" "marked" "Z", .fieldLink RX0 54 "GaugeBoard$Gauge" "high" "J", .fieldLink RX0 22 "GaugeBoard$Gauge" "kind" "I", .fieldLink RX0 61 "GaugeBoard$Gauge" "low" "J", .static yX1_signOf, .initialized RX1, .code yX1_signOf cX1_signOf 2 (some .int), .static yX1_higher, .code yX1_higher cX1_higher 5 (some .long), .methodLink RX1 137 yX1_isAbove, .static yX1_isAbove, .code yX1_isAbove cX1_isAbove 5 (some .boolean), .methodLink RX1 180 yX1_orderKey, .static yX1_orderKey, .code yX1_orderKey cX1_orderKey 3 (some .long), .constantLong RX1 167 (9223372036854775807), .methodLink RX1 177 yX1_isReal, .static yX1_isReal, .code yX1_isReal cX1_isReal 1 (some .boolean), .static yX1_lower, .code yX1_lower cX1_lower 5 (some .long)] ++ wsX00)
def wsX1_init : List Cond := .code yX1_init cX1_init 1 none :: ([.methodLink RX1 3 objectInit, .instanceMethod objectInit, .code objectInit ⟨#[0xb1]⟩ 1 none, .classLink RX1 9 RX0, .fieldLink RX1 11 "GaugeBoard" "places" "[LGaugeBoard$Gauge;"] ++ wsX10)
def wsX1_isPlace : List Cond := .code yX1_isPlace cX1_isPlace 1 (some .boolean) :: ([])
def wsX1_needKind : List Cond := .code yX1_needKind cX1_needKind 1 none :: ([.classLink RX1 70 "java/lang/IllegalArgumentException", .initialized "java/lang/IllegalArgumentException"] ++ (vx_atS RX1 74 "java/lang/IllegalArgumentException" ["java/lang/RuntimeException", "java/lang/Exception"]).filter goodWord)
def wsX1_gaugeAt : List Cond := .code yX1_gaugeAt cX1_gaugeAt 2 (some (.object "GaugeBoard$Gauge")) :: ([.fieldLink RX1 11 "GaugeBoard" "places" "[LGaugeBoard$Gauge;", .methodLink RX1 15 yX1_isPlace, .static yX1_isPlace, .initialized RX1, .code yX1_isPlace cX1_isPlace 1 (some .boolean)] ++ wsX10)
def wsX1_stepsTaking : List Cond := .code yX1_stepsTaking cX1_stepsTaking 5 (some .int) :: ([.fieldLink RX1 11 "GaugeBoard" "places" "[LGaugeBoard$Gauge;", .instanceMethod yX0_ownStepsTaking, .initialized RX0, .selects RX0 yX0_ownStepsTaking yX0_ownStepsTaking, .code yX0_ownStepsTaking cX0_ownStepsTaking 4 (some .int), .fieldLink RX0 26 "GaugeBoard$Gauge" "stepCount" "I", .fieldLink RX0 15 "GaugeBoard$Gauge" "sources" "[I"] ++ wsX10 ++ wsX00)
def wsX1_fit_r1 : List Cond := [Cond.classLink RX1 19 "java/util/NoSuchElementException", Cond.initialized "java/util/NoSuchElementException", Cond.classLink RX1 47 "java/lang/IllegalStateException", Cond.initialized "java/lang/IllegalStateException", Cond.fieldLink RX1 11 "GaugeBoard" "places" "[LGaugeBoard$Gauge;", Cond.classLink RX1 9 RX0, Cond.instantiable RX0 11, Cond.initialized RX0, Cond.methodLink RX1 15 yX1_isPlace, Cond.static yX1_isPlace, Cond.initialized RX1, Cond.code yX1_isPlace cX1_isPlace 1 (some .boolean), Cond.methodLink RX1 26 yX1_needKind, Cond.static yX1_needKind, Cond.code yX1_needKind cX1_needKind 1 none, Cond.classLink RX1 70 "java/lang/IllegalArgumentException", Cond.initialized "java/lang/IllegalArgumentException", Cond.methodLink RX1 30 yX1_gaugeAt, Cond.instanceMethod yX1_gaugeAt, Cond.selects RX1 yX1_gaugeAt yX1_gaugeAt, Cond.code yX1_gaugeAt cX1_gaugeAt 2 (some (.object "GaugeBoard$Gauge")), Cond.instanceMethod yX0_init, Cond.code yX0_init cX0_init 2 none, Cond.methodLink RX0 3 objectInit]
def wsX1_fit_r2 : List Cond := [Cond.instanceMethod objectInit, Cond.code objectInit ⟨#[0xb1]⟩ 1 none, Cond.arrayClass .int, Cond.fieldLink RX0 9 "GaugeBoard$Gauge" "sorts" "[I", Cond.fieldLink RX0 15 "GaugeBoard$Gauge" "sources" "[I", Cond.arrayClass .long, Cond.fieldLink RX0 18 "GaugeBoard$Gauge" "operands" "[J", Cond.fieldLink RX0 22 "GaugeBoard$Gauge" "kind" "I", Cond.methodLink RX1 40 yX1_stepsTaking, Cond.instanceMethod yX1_stepsTaking, Cond.selects RX1 yX1_stepsTaking yX1_stepsTaking, Cond.code yX1_stepsTaking cX1_stepsTaking 5 (some .int), Cond.instanceMethod yX0_ownStepsTaking, Cond.selects RX0 yX0_ownStepsTaking yX0_ownStepsTaking, Cond.code yX0_ownStepsTaking cX0_ownStepsTaking 4 (some .int), Cond.fieldLink RX0 26 "GaugeBoard$Gauge" "stepCount" "I", Cond.instanceMethod yX0_startAs, Cond.selects RX0 yX0_startAs yX0_startAs, Cond.code yX0_startAs cX0_startAs 2 none, Cond.fieldLink RX0 29 "GaugeBoard$Gauge" "value" "J", Cond.fieldLink RX0 33 "GaugeBoard$Gauge" "marked" "Z", Cond.fieldLink RX0 37 "GaugeBoard$Gauge" "readings" "I", Cond.fieldLink RX0 40 "GaugeBoard$Gauge" "swings" "I"]
def wsX1_fit : List Cond := .code yX1_fit cX1_fit 4 (some .boolean) :: ((wsX1_fit_r1 ++ wsX1_fit_r2) ++ wsX10 ++ wsX00 ++ (vy_atS RX1 23 "java/util/NoSuchElementException" 13 prog_11_method_4_code "java/lang/RuntimeException" ["java/lang/Exception"]).filter goodWord ++ (vx_atS RX1 51 "java/lang/IllegalStateException" ["java/lang/RuntimeException", "java/lang/Exception"]).filter goodWord ++ (vx_atS RX1 74 "java/lang/IllegalArgumentException" ["java/lang/RuntimeException", "java/lang/Exception"]).filter goodWord)
def wsX1_needGauge : List Cond := .code yX1_needGauge cX1_needGauge 3 (some (.object "GaugeBoard$Gauge")) :: ([.classLink RX1 19 "java/util/NoSuchElementException", .initialized "java/util/NoSuchElementException", .methodLink RX1 30 yX1_gaugeAt, .instanceMethod yX1_gaugeAt, .selects RX1 yX1_gaugeAt yX1_gaugeAt, .initialized RX1, .code yX1_gaugeAt cX1_gaugeAt 2 (some (.object "GaugeBoard$Gauge")), .fieldLink RX1 11 "GaugeBoard" "places" "[LGaugeBoard$Gauge;", .methodLink RX1 15 yX1_isPlace, .static yX1_isPlace, .code yX1_isPlace cX1_isPlace 1 (some .boolean)] ++ wsX10 ++ (vy_atS RX1 23 "java/util/NoSuchElementException" 13 prog_11_method_4_code "java/lang/RuntimeException" ["java/lang/Exception"]).filter goodWord)
def wsX1_lastSort : List Cond := .code yX1_lastSort cX1_lastSort 1 (some .int) :: ([])
def wsX1_wantsOperand : List Cond := .code yX1_wantsOperand cX1_wantsOperand 1 (some .boolean) :: ([])
def wsX1_needSort : List Cond := .code yX1_needSort cX1_needSort 3 none :: ([.classLink RX1 70 "java/lang/IllegalArgumentException", .initialized "java/lang/IllegalArgumentException", .methodLink RX1 151 yX1_lastSort, .static yX1_lastSort, .initialized RX1, .code yX1_lastSort cX1_lastSort 1 (some .int), .methodLink RX1 156 yX1_wantsOperand, .static yX1_wantsOperand, .code yX1_wantsOperand cX1_wantsOperand 1 (some .boolean)] ++ (vx_atS RX1 74 "java/lang/IllegalArgumentException" ["java/lang/RuntimeException", "java/lang/Exception"]).filter goodWord)
def wsX1_step_r1 : List Cond := [Cond.methodLink RX1 55 yX1_needGauge, Cond.instanceMethod yX1_needGauge, Cond.selects RX1 yX1_needGauge yX1_needGauge, Cond.initialized RX1, Cond.code yX1_needGauge cX1_needGauge 3 (some (.object "GaugeBoard$Gauge")), Cond.classLink RX1 19 "java/util/NoSuchElementException", Cond.initialized "java/util/NoSuchElementException", Cond.methodLink RX1 30 yX1_gaugeAt, Cond.instanceMethod yX1_gaugeAt, Cond.selects RX1 yX1_gaugeAt yX1_gaugeAt, Cond.code yX1_gaugeAt cX1_gaugeAt 2 (some (.object "GaugeBoard$Gauge")), Cond.fieldLink RX1 11 "GaugeBoard" "places" "[LGaugeBoard$Gauge;", Cond.methodLink RX1 15 yX1_isPlace, Cond.static yX1_isPlace, Cond.code yX1_isPlace cX1_isPlace 1 (some .boolean), Cond.methodLink RX1 58 yX1_needSort, Cond.static yX1_needSort, Cond.code yX1_needSort cX1_needSort 3 none, Cond.classLink RX1 70 "java/lang/IllegalArgumentException", Cond.initialized "java/lang/IllegalArgumentException", Cond.methodLink RX1 151 yX1_lastSort, Cond.static yX1_lastSort, Cond.code yX1_lastSort cX1_lastSort 1 (some .int), Cond.methodLink RX1 156 yX1_wantsOperand]
def wsX1_step_r2 : List Cond := [Cond.static yX1_wantsOperand, Cond.code yX1_wantsOperand cX1_wantsOperand 1 (some .boolean), Cond.instanceMethod yX0_addStep, Cond.initialized RX0, Cond.selects RX0 yX0_addStep yX0_addStep, Cond.code yX0_addStep cX0_addStep 5 (some .int), Cond.classLink RX0 43 "java/lang/IllegalStateException", Cond.initialized "java/lang/IllegalStateException", Cond.fieldLink RX0 26 "GaugeBoard$Gauge" "stepCount" "I", Cond.fieldLink RX0 9 "GaugeBoard$Gauge" "sorts" "[I", Cond.fieldLink RX0 15 "GaugeBoard$Gauge" "sources" "[I", Cond.fieldLink RX0 18 "GaugeBoard$Gauge" "operands" "[J"]
def wsX1_step : List Cond := .code yX1_step cX1_step 4 (some .int) :: ((wsX1_step_r1 ++ wsX1_step_r2) ++ wsX00 ++ wsX10 ++ (vy_atS RX1 23 "java/util/NoSuchElementException" 13 prog_11_method_4_code "java/lang/RuntimeException" ["java/lang/Exception"]).filter goodWord ++ (vx_atS RX1 74 "java/lang/IllegalArgumentException" ["java/lang/RuntimeException", "java/lang/Exception"]).filter goodWord ++ (vx_atS RX0 47 "java/lang/IllegalStateException" ["java/lang/RuntimeException", "java/lang/Exception"]).filter goodWord)
def wsX1_isGood : List Cond := .code yX1_isGood cX1_isGood 3 (some .boolean) :: ([.constantLong RX1 167 (9223372036854775807), .constantLong RX1 169 (9218868437227405312), .constantLong RX1 171 (-2147483648), .constantLong RX1 173 (2147483647), .constantLong RX1 175 (2139095040)])
def wsX1_needGood : List Cond := .code yX1_needGood cX1_needGood 3 none :: ([.classLink RX1 70 "java/lang/IllegalArgumentException", .initialized "java/lang/IllegalArgumentException", .methodLink RX1 161 yX1_isGood, .static yX1_isGood, .initialized RX1, .code yX1_isGood cX1_isGood 3 (some .boolean), .constantLong RX1 167 (9223372036854775807), .constantLong RX1 169 (9218868437227405312), .constantLong RX1 171 (-2147483648), .constantLong RX1 173 (2147483647), .constantLong RX1 175 (2139095040)] ++ (vx_atS RX1 74 "java/lang/IllegalArgumentException" ["java/lang/RuntimeException", "java/lang/Exception"]).filter goodWord)
def wsX1_stepBy_r1 : List Cond := [Cond.methodLink RX1 55 yX1_needGauge, Cond.instanceMethod yX1_needGauge, Cond.selects RX1 yX1_needGauge yX1_needGauge, Cond.initialized RX1, Cond.code yX1_needGauge cX1_needGauge 3 (some (.object "GaugeBoard$Gauge")), Cond.classLink RX1 19 "java/util/NoSuchElementException", Cond.initialized "java/util/NoSuchElementException", Cond.methodLink RX1 30 yX1_gaugeAt, Cond.instanceMethod yX1_gaugeAt, Cond.selects RX1 yX1_gaugeAt yX1_gaugeAt, Cond.code yX1_gaugeAt cX1_gaugeAt 2 (some (.object "GaugeBoard$Gauge")), Cond.fieldLink RX1 11 "GaugeBoard" "places" "[LGaugeBoard$Gauge;", Cond.methodLink RX1 15 yX1_isPlace, Cond.static yX1_isPlace, Cond.code yX1_isPlace cX1_isPlace 1 (some .boolean), Cond.methodLink RX1 58 yX1_needSort, Cond.static yX1_needSort, Cond.code yX1_needSort cX1_needSort 3 none, Cond.classLink RX1 70 "java/lang/IllegalArgumentException", Cond.initialized "java/lang/IllegalArgumentException", Cond.methodLink RX1 151 yX1_lastSort, Cond.static yX1_lastSort, Cond.code yX1_lastSort cX1_lastSort 1 (some .int), Cond.methodLink RX1 156 yX1_wantsOperand]
def wsX1_stepBy_r2 : List Cond := [Cond.static yX1_wantsOperand, Cond.code yX1_wantsOperand cX1_wantsOperand 1 (some .boolean), Cond.methodLink RX1 66 yX1_needGood, Cond.static yX1_needGood, Cond.code yX1_needGood cX1_needGood 3 none, Cond.methodLink RX1 161 yX1_isGood, Cond.static yX1_isGood, Cond.code yX1_isGood cX1_isGood 3 (some .boolean), Cond.constantLong RX1 167 (9223372036854775807), Cond.constantLong RX1 169 (9218868437227405312), Cond.constantLong RX1 171 (-2147483648), Cond.constantLong RX1 173 (2147483647), Cond.constantLong RX1 175 (2139095040), Cond.instanceMethod yX0_addStep, Cond.initialized RX0, Cond.selects RX0 yX0_addStep yX0_addStep, Cond.code yX0_addStep cX0_addStep 5 (some .int), Cond.classLink RX0 43 "java/lang/IllegalStateException", Cond.initialized "java/lang/IllegalStateException", Cond.fieldLink RX0 26 "GaugeBoard$Gauge" "stepCount" "I", Cond.fieldLink RX0 9 "GaugeBoard$Gauge" "sorts" "[I", Cond.fieldLink RX0 15 "GaugeBoard$Gauge" "sources" "[I", Cond.fieldLink RX0 18 "GaugeBoard$Gauge" "operands" "[J"]
def wsX1_stepBy : List Cond := .code yX1_stepBy cX1_stepBy 6 (some .int) :: ((wsX1_stepBy_r1 ++ wsX1_stepBy_r2) ++ wsX00 ++ wsX10 ++ (vy_atS RX1 23 "java/util/NoSuchElementException" 13 prog_11_method_4_code "java/lang/RuntimeException" ["java/lang/Exception"]).filter goodWord ++ (vx_atS RX1 74 "java/lang/IllegalArgumentException" ["java/lang/RuntimeException", "java/lang/Exception"]).filter goodWord ++ (vx_atS RX0 47 "java/lang/IllegalStateException" ["java/lang/RuntimeException", "java/lang/Exception"]).filter goodWord)
def wsX1_stepOf_r1 : List Cond := [Cond.classLink RX1 70 "java/lang/IllegalArgumentException", Cond.initialized "java/lang/IllegalArgumentException", Cond.methodLink RX1 55 yX1_needGauge, Cond.instanceMethod yX1_needGauge, Cond.selects RX1 yX1_needGauge yX1_needGauge, Cond.initialized RX1, Cond.code yX1_needGauge cX1_needGauge 3 (some (.object "GaugeBoard$Gauge")), Cond.classLink RX1 19 "java/util/NoSuchElementException", Cond.initialized "java/util/NoSuchElementException", Cond.methodLink RX1 30 yX1_gaugeAt, Cond.instanceMethod yX1_gaugeAt, Cond.selects RX1 yX1_gaugeAt yX1_gaugeAt, Cond.code yX1_gaugeAt cX1_gaugeAt 2 (some (.object "GaugeBoard$Gauge")), Cond.fieldLink RX1 11 "GaugeBoard" "places" "[LGaugeBoard$Gauge;", Cond.methodLink RX1 15 yX1_isPlace, Cond.static yX1_isPlace, Cond.code yX1_isPlace cX1_isPlace 1 (some .boolean), Cond.methodLink RX1 58 yX1_needSort, Cond.static yX1_needSort, Cond.code yX1_needSort cX1_needSort 3 none, Cond.methodLink RX1 151 yX1_lastSort, Cond.static yX1_lastSort, Cond.code yX1_lastSort cX1_lastSort 1 (some .int), Cond.methodLink RX1 156 yX1_wantsOperand]
def wsX1_stepOf_r2 : List Cond := [Cond.static yX1_wantsOperand, Cond.code yX1_wantsOperand cX1_wantsOperand 1 (some .boolean), Cond.instanceMethod yX0_addStep, Cond.initialized RX0, Cond.selects RX0 yX0_addStep yX0_addStep, Cond.code yX0_addStep cX0_addStep 5 (some .int), Cond.classLink RX0 43 "java/lang/IllegalStateException", Cond.initialized "java/lang/IllegalStateException", Cond.fieldLink RX0 26 "GaugeBoard$Gauge" "stepCount" "I", Cond.fieldLink RX0 9 "GaugeBoard$Gauge" "sorts" "[I", Cond.fieldLink RX0 15 "GaugeBoard$Gauge" "sources" "[I", Cond.fieldLink RX0 18 "GaugeBoard$Gauge" "operands" "[J"]
def wsX1_stepOf : List Cond := .code yX1_stepOf cX1_stepOf 6 (some .int) :: ((wsX1_stepOf_r1 ++ wsX1_stepOf_r2) ++ wsX00 ++ wsX10 ++ (vx_atS RX1 74 "java/lang/IllegalArgumentException" ["java/lang/RuntimeException", "java/lang/Exception"]).filter goodWord ++ (vy_atS RX1 23 "java/util/NoSuchElementException" 13 prog_11_method_4_code "java/lang/RuntimeException" ["java/lang/Exception"]).filter goodWord ++ (vx_atS RX0 47 "java/lang/IllegalStateException" ["java/lang/RuntimeException", "java/lang/Exception"]).filter goodWord)
def wsX1_bare : List Cond := .code yX1_bare cX1_bare 4 (some .int) :: ([.methodLink RX1 55 yX1_needGauge, .instanceMethod yX1_needGauge, .selects RX1 yX1_needGauge yX1_needGauge, .initialized RX1, .code yX1_needGauge cX1_needGauge 3 (some (.object "GaugeBoard$Gauge")), .classLink RX1 19 "java/util/NoSuchElementException", .initialized "java/util/NoSuchElementException", .methodLink RX1 30 yX1_gaugeAt, .instanceMethod yX1_gaugeAt, .selects RX1 yX1_gaugeAt yX1_gaugeAt, .code yX1_gaugeAt cX1_gaugeAt 2 (some (.object "GaugeBoard$Gauge")), .fieldLink RX1 11 "GaugeBoard" "places" "[LGaugeBoard$Gauge;", .methodLink RX1 15 yX1_isPlace, .static yX1_isPlace, .code yX1_isPlace cX1_isPlace 1 (some .boolean)] ++ wsX00 ++ wsX10 ++ (vy_atS RX1 23 "java/util/NoSuchElementException" 13 prog_11_method_4_code "java/lang/RuntimeException" ["java/lang/Exception"]).filter goodWord)
def wsX1_operandOf : List Cond := .code yX1_operandOf cX1_operandOf 4 (some .long) :: ([.methodLink RX1 30 yX1_gaugeAt, .instanceMethod yX1_gaugeAt, .selects RX1 yX1_gaugeAt yX1_gaugeAt, .initialized RX1, .code yX1_gaugeAt cX1_gaugeAt 2 (some (.object "GaugeBoard$Gauge")), .fieldLink RX1 11 "GaugeBoard" "places" "[LGaugeBoard$Gauge;", .methodLink RX1 15 yX1_isPlace, .static yX1_isPlace, .code yX1_isPlace cX1_isPlace 1 (some .boolean)] ++ wsX00 ++ wsX10)
def wsX1_signBits : List Cond := .code yX1_signBits cX1_signBits 1 (some .long) :: ([.constantLong RX1 171 (-2147483648), .constantLong RX1 227 (-9223372036854775808)])
def wsX1_sizeOf : List Cond := .code yX1_sizeOf cX1_sizeOf 5 (some .long) :: ([.constantLong RX1 233 (-1), .constantLong RX1 171 (-2147483648), .constantLong RX1 227 (-9223372036854775808), .methodLink RX1 177 yX1_isReal, .static yX1_isReal, .initialized RX1, .code yX1_isReal cX1_isReal 1 (some .boolean), .methodLink RX1 229 yX1_signBits, .static yX1_signBits, .code yX1_signBits cX1_signBits 1 (some .long)])
def wsX1_withSign : List Cond := .code yX1_withSign cX1_withSign 4 (some .long) :: ([.methodLink RX1 229 yX1_signBits, .static yX1_signBits, .initialized RX1, .code yX1_signBits cX1_signBits 1 (some .long), .constantLong RX1 171 (-2147483648), .constantLong RX1 227 (-9223372036854775808)])
def wsX1_shown : List Cond := .code yX1_shown cX1_shown 3 (some .long) :: ([.constantLong RX1 235 (1065353216), .constantLong RX1 237 (4607182418800017408), .methodLink RX1 200 yX1_sizeOf, .static yX1_sizeOf, .initialized RX1, .code yX1_sizeOf cX1_sizeOf 5 (some .long), .constantLong RX1 233 (-1), .constantLong RX1 171 (-2147483648), .constantLong RX1 227 (-9223372036854775808), .methodLink RX1 177 yX1_isReal, .static yX1_isReal, .code yX1_isReal cX1_isReal 1 (some .boolean), .methodLink RX1 229 yX1_signBits, .static yX1_signBits, .code yX1_signBits cX1_signBits 1 (some .long), .methodLink RX1 213 yX1_withSign, .static yX1_withSign, .code yX1_withSign cX1_withSign 4 (some .long)])
def wsX1_isBelowOne : List Cond := .code yX1_isBelowOne cX1_isBelowOne 2 (some .boolean) :: ([.constantLong RX1 167 (9223372036854775807), .constantLong RX1 237 (4607182418800017408)])
def wsX1_partMask : List Cond := .code yX1_partMask cX1_partMask 3 (some .long) :: ([.constantLong RX1 167 (9223372036854775807)])
def wsX1_isWhole : List Cond := .code yX1_isWhole cX1_isWhole 2 (some .boolean) :: ([.constantLong RX1 167 (9223372036854775807), .methodLink RX1 239 yX1_isBelowOne, .static yX1_isBelowOne, .initialized RX1, .code yX1_isBelowOne cX1_isBelowOne 2 (some .boolean), .constantLong RX1 237 (4607182418800017408), .methodLink RX1 243 yX1_partMask, .static yX1_partMask, .code yX1_partMask cX1_partMask 3 (some .long)])
def wsX1_wholeToward : List Cond := .code yX1_wholeToward cX1_wholeToward 2 (some .long) :: ([.constantLong RX1 227 (-9223372036854775808), .constantLong RX1 233 (-1), .methodLink RX1 239 yX1_isBelowOne, .static yX1_isBelowOne, .initialized RX1, .code yX1_isBelowOne cX1_isBelowOne 2 (some .boolean), .constantLong RX1 167 (9223372036854775807), .constantLong RX1 237 (4607182418800017408), .methodLink RX1 243 yX1_partMask, .static yX1_partMask, .code yX1_partMask cX1_partMask 3 (some .long)])
def wsX1_wholeAway : List Cond := .code yX1_wholeAway cX1_wholeAway 2 (some .long) :: ([.constantLong RX1 227 (-9223372036854775808), .constantLong RX1 237 (4607182418800017408), .methodLink RX1 246 yX1_isWhole, .static yX1_isWhole, .initialized RX1, .code yX1_isWhole cX1_isWhole 2 (some .boolean), .constantLong RX1 167 (9223372036854775807), .methodLink RX1 239 yX1_isBelowOne, .static yX1_isBelowOne, .code yX1_isBelowOne cX1_isBelowOne 2 (some .boolean), .methodLink RX1 243 yX1_partMask, .static yX1_partMask, .code yX1_partMask cX1_partMask 3 (some .long), .methodLink RX1 221 yX1_wholeToward, .static yX1_wholeToward, .code yX1_wholeToward cX1_wholeToward 2 (some .long), .constantLong RX1 233 (-1)])
def wsX1_roundsAway : List Cond := .code yX1_roundsAway cX1_roundsAway 9 (some .boolean) :: ([])
def wsX1_wholeNearest_r1 : List Cond := [Cond.constantLong RX1 167 (9223372036854775807), Cond.constantLong RX1 249 (4602678819172646912), Cond.constantLong RX1 251 (4503599627370496), Cond.methodLink RX1 239 yX1_isBelowOne, Cond.static yX1_isBelowOne, Cond.initialized RX1, Cond.code yX1_isBelowOne cX1_isBelowOne 2 (some .boolean), Cond.constantLong RX1 237 (4607182418800017408), Cond.methodLink RX1 217 yX1_wholeAway, Cond.static yX1_wholeAway, Cond.code yX1_wholeAway cX1_wholeAway 2 (some .long), Cond.constantLong RX1 227 (-9223372036854775808), Cond.methodLink RX1 246 yX1_isWhole, Cond.static yX1_isWhole, Cond.code yX1_isWhole cX1_isWhole 2 (some .boolean), Cond.methodLink RX1 243 yX1_partMask, Cond.static yX1_partMask, Cond.code yX1_partMask cX1_partMask 3 (some .long), Cond.methodLink RX1 221 yX1_wholeToward, Cond.static yX1_wholeToward, Cond.code yX1_wholeToward cX1_wholeToward 2 (some .long), Cond.constantLong RX1 233 (-1), Cond.methodLink RX1 253 yX1_roundsAway, Cond.static yX1_roundsAway]
def wsX1_wholeNearest_r2 : List Cond := [Cond.code yX1_roundsAway cX1_roundsAway 9 (some .boolean)]
def wsX1_wholeNearest : List Cond := .code yX1_wholeNearest cX1_wholeNearest 6 (some .long) :: ((wsX1_wholeNearest_r1 ++ wsX1_wholeNearest_r2))
def wsX1_afterStep_r1 : List Cond := [Cond.methodLink RX1 200 yX1_sizeOf, Cond.static yX1_sizeOf, Cond.initialized RX1, Cond.code yX1_sizeOf cX1_sizeOf 5 (some .long), Cond.constantLong RX1 233 (-1), Cond.constantLong RX1 171 (-2147483648), Cond.constantLong RX1 227 (-9223372036854775808), Cond.methodLink RX1 177 yX1_isReal, Cond.static yX1_isReal, Cond.code yX1_isReal cX1_isReal 1 (some .boolean), Cond.methodLink RX1 229 yX1_signBits, Cond.static yX1_signBits, Cond.code yX1_signBits cX1_signBits 1 (some .long), Cond.methodLink RX1 203 yX1_higher, Cond.static yX1_higher, Cond.code yX1_higher cX1_higher 5 (some .long), Cond.methodLink RX1 137 yX1_isAbove, Cond.static yX1_isAbove, Cond.code yX1_isAbove cX1_isAbove 5 (some .boolean), Cond.methodLink RX1 180 yX1_orderKey, Cond.static yX1_orderKey, Cond.code yX1_orderKey cX1_orderKey 3 (some .long), Cond.constantLong RX1 167 (9223372036854775807), Cond.methodLink RX1 207 yX1_lower]
def wsX1_afterStep_r2 : List Cond := [Cond.static yX1_lower, Cond.code yX1_lower cX1_lower 5 (some .long), Cond.methodLink RX1 210 yX1_shown, Cond.static yX1_shown, Cond.code yX1_shown cX1_shown 3 (some .long), Cond.constantLong RX1 235 (1065353216), Cond.constantLong RX1 237 (4607182418800017408), Cond.methodLink RX1 213 yX1_withSign, Cond.static yX1_withSign, Cond.code yX1_withSign cX1_withSign 4 (some .long), Cond.methodLink RX1 217 yX1_wholeAway, Cond.static yX1_wholeAway, Cond.code yX1_wholeAway cX1_wholeAway 2 (some .long), Cond.methodLink RX1 246 yX1_isWhole, Cond.static yX1_isWhole, Cond.code yX1_isWhole cX1_isWhole 2 (some .boolean), Cond.methodLink RX1 239 yX1_isBelowOne, Cond.static yX1_isBelowOne, Cond.code yX1_isBelowOne cX1_isBelowOne 2 (some .boolean), Cond.methodLink RX1 243 yX1_partMask, Cond.static yX1_partMask, Cond.code yX1_partMask cX1_partMask 3 (some .long), Cond.methodLink RX1 221 yX1_wholeToward, Cond.static yX1_wholeToward]
def wsX1_afterStep_r3 : List Cond := [Cond.code yX1_wholeToward cX1_wholeToward 2 (some .long), Cond.methodLink RX1 224 yX1_wholeNearest, Cond.static yX1_wholeNearest, Cond.code yX1_wholeNearest cX1_wholeNearest 6 (some .long), Cond.constantLong RX1 249 (4602678819172646912), Cond.constantLong RX1 251 (4503599627370496), Cond.methodLink RX1 253 yX1_roundsAway, Cond.static yX1_roundsAway, Cond.code yX1_roundsAway cX1_roundsAway 9 (some .boolean)]
def wsX1_afterStep : List Cond := .code yX1_afterStep cX1_afterStep 6 (some .long) :: ((wsX1_afterStep_r1 ++ (wsX1_afterStep_r2 ++ wsX1_afterStep_r3)))
def wsX1_takeReading_r1 : List Cond := [Cond.methodLink RX1 184 yX1_operandOf, Cond.instanceMethod yX1_operandOf, Cond.selects RX1 yX1_operandOf yX1_operandOf, Cond.initialized RX1, Cond.code yX1_operandOf cX1_operandOf 4 (some .long), Cond.methodLink RX1 30 yX1_gaugeAt, Cond.instanceMethod yX1_gaugeAt, Cond.selects RX1 yX1_gaugeAt yX1_gaugeAt, Cond.code yX1_gaugeAt cX1_gaugeAt 2 (some (.object "GaugeBoard$Gauge")), Cond.fieldLink RX1 11 "GaugeBoard" "places" "[LGaugeBoard$Gauge;", Cond.methodLink RX1 15 yX1_isPlace, Cond.static yX1_isPlace, Cond.code yX1_isPlace cX1_isPlace 1 (some .boolean), Cond.methodLink RX1 188 yX1_afterStep, Cond.static yX1_afterStep, Cond.code yX1_afterStep cX1_afterStep 6 (some .long), Cond.methodLink RX1 200 yX1_sizeOf, Cond.static yX1_sizeOf, Cond.code yX1_sizeOf cX1_sizeOf 5 (some .long), Cond.constantLong RX1 233 (-1), Cond.constantLong RX1 171 (-2147483648), Cond.constantLong RX1 227 (-9223372036854775808), Cond.methodLink RX1 177 yX1_isReal, Cond.static yX1_isReal]
def wsX1_takeReading_r2 : List Cond := [Cond.code yX1_isReal cX1_isReal 1 (some .boolean), Cond.methodLink RX1 229 yX1_signBits, Cond.static yX1_signBits, Cond.code yX1_signBits cX1_signBits 1 (some .long), Cond.methodLink RX1 203 yX1_higher, Cond.static yX1_higher, Cond.code yX1_higher cX1_higher 5 (some .long), Cond.methodLink RX1 137 yX1_isAbove, Cond.static yX1_isAbove, Cond.code yX1_isAbove cX1_isAbove 5 (some .boolean), Cond.methodLink RX1 180 yX1_orderKey, Cond.static yX1_orderKey, Cond.code yX1_orderKey cX1_orderKey 3 (some .long), Cond.constantLong RX1 167 (9223372036854775807), Cond.methodLink RX1 207 yX1_lower, Cond.static yX1_lower, Cond.code yX1_lower cX1_lower 5 (some .long), Cond.methodLink RX1 210 yX1_shown, Cond.static yX1_shown, Cond.code yX1_shown cX1_shown 3 (some .long), Cond.constantLong RX1 235 (1065353216), Cond.constantLong RX1 237 (4607182418800017408), Cond.methodLink RX1 213 yX1_withSign, Cond.static yX1_withSign]
def wsX1_takeReading_r3 : List Cond := [Cond.code yX1_withSign cX1_withSign 4 (some .long), Cond.methodLink RX1 217 yX1_wholeAway, Cond.static yX1_wholeAway, Cond.code yX1_wholeAway cX1_wholeAway 2 (some .long), Cond.methodLink RX1 246 yX1_isWhole, Cond.static yX1_isWhole, Cond.code yX1_isWhole cX1_isWhole 2 (some .boolean), Cond.methodLink RX1 239 yX1_isBelowOne, Cond.static yX1_isBelowOne, Cond.code yX1_isBelowOne cX1_isBelowOne 2 (some .boolean), Cond.methodLink RX1 243 yX1_partMask, Cond.static yX1_partMask, Cond.code yX1_partMask cX1_partMask 3 (some .long), Cond.methodLink RX1 221 yX1_wholeToward, Cond.static yX1_wholeToward, Cond.code yX1_wholeToward cX1_wholeToward 2 (some .long), Cond.methodLink RX1 224 yX1_wholeNearest, Cond.static yX1_wholeNearest, Cond.code yX1_wholeNearest cX1_wholeNearest 6 (some .long), Cond.constantLong RX1 249 (4602678819172646912), Cond.constantLong RX1 251 (4503599627370496), Cond.methodLink RX1 253 yX1_roundsAway, Cond.static yX1_roundsAway, Cond.code yX1_roundsAway cX1_roundsAway 9 (some .boolean)]
def wsX1_takeReading_r4 : List Cond := [Cond.instanceMethod yX0_takeValue, Cond.initialized RX0, Cond.selects RX0 yX0_takeValue yX0_takeValue, Cond.code yX0_takeValue cX0_takeValue 3 none, Cond.fieldLink RX0 37 "GaugeBoard$Gauge" "readings" "I", Cond.fieldLink RX0 29 "GaugeBoard$Gauge" "value" "J", Cond.fieldLink RX0 40 "GaugeBoard$Gauge" "swings" "I", Cond.fieldLink RX0 33 "GaugeBoard$Gauge" "marked" "Z", Cond.fieldLink RX0 54 "GaugeBoard$Gauge" "high" "J", Cond.fieldLink RX0 22 "GaugeBoard$Gauge" "kind" "I", Cond.fieldLink RX0 61 "GaugeBoard$Gauge" "low" "J", Cond.static yX1_signOf, Cond.code yX1_signOf cX1_signOf 2 (some .int)]
def wsX1_takeReading : List Cond := .code yX1_takeReading cX1_takeReading 7 (some .long) :: ((wsX1_takeReading_r1 ++ (wsX1_takeReading_r2 ++ (wsX1_takeReading_r3 ++ wsX1_takeReading_r4))) ++ wsX00 ++ wsX10)
def wsX1_read_r1 : List Cond := [Cond.methodLink RX1 55 yX1_needGauge, Cond.instanceMethod yX1_needGauge, Cond.selects RX1 yX1_needGauge yX1_needGauge, Cond.initialized RX1, Cond.code yX1_needGauge cX1_needGauge 3 (some (.object "GaugeBoard$Gauge")), Cond.classLink RX1 19 "java/util/NoSuchElementException", Cond.initialized "java/util/NoSuchElementException", Cond.methodLink RX1 30 yX1_gaugeAt, Cond.instanceMethod yX1_gaugeAt, Cond.selects RX1 yX1_gaugeAt yX1_gaugeAt, Cond.code yX1_gaugeAt cX1_gaugeAt 2 (some (.object "GaugeBoard$Gauge")), Cond.fieldLink RX1 11 "GaugeBoard" "places" "[LGaugeBoard$Gauge;", Cond.methodLink RX1 15 yX1_isPlace, Cond.static yX1_isPlace, Cond.code yX1_isPlace cX1_isPlace 1 (some .boolean), Cond.methodLink RX1 66 yX1_needGood, Cond.static yX1_needGood, Cond.code yX1_needGood cX1_needGood 3 none, Cond.classLink RX1 70 "java/lang/IllegalArgumentException", Cond.initialized "java/lang/IllegalArgumentException", Cond.methodLink RX1 161 yX1_isGood, Cond.static yX1_isGood, Cond.code yX1_isGood cX1_isGood 3 (some .boolean), Cond.constantLong RX1 167 (9223372036854775807)]
def wsX1_read_r2 : List Cond := [Cond.constantLong RX1 169 (9218868437227405312), Cond.constantLong RX1 171 (-2147483648), Cond.constantLong RX1 173 (2147483647), Cond.constantLong RX1 175 (2139095040), Cond.methodLink RX1 78 yX1_takeReading, Cond.instanceMethod yX1_takeReading, Cond.selects RX1 yX1_takeReading yX1_takeReading, Cond.code yX1_takeReading cX1_takeReading 7 (some .long), Cond.methodLink RX1 184 yX1_operandOf, Cond.instanceMethod yX1_operandOf, Cond.selects RX1 yX1_operandOf yX1_operandOf, Cond.code yX1_operandOf cX1_operandOf 4 (some .long), Cond.methodLink RX1 188 yX1_afterStep, Cond.static yX1_afterStep, Cond.code yX1_afterStep cX1_afterStep 6 (some .long), Cond.methodLink RX1 200 yX1_sizeOf, Cond.static yX1_sizeOf, Cond.code yX1_sizeOf cX1_sizeOf 5 (some .long), Cond.constantLong RX1 233 (-1), Cond.constantLong RX1 227 (-9223372036854775808), Cond.methodLink RX1 177 yX1_isReal, Cond.static yX1_isReal, Cond.code yX1_isReal cX1_isReal 1 (some .boolean), Cond.methodLink RX1 229 yX1_signBits]
def wsX1_read_r3 : List Cond := [Cond.static yX1_signBits, Cond.code yX1_signBits cX1_signBits 1 (some .long), Cond.methodLink RX1 203 yX1_higher, Cond.static yX1_higher, Cond.code yX1_higher cX1_higher 5 (some .long), Cond.methodLink RX1 137 yX1_isAbove, Cond.static yX1_isAbove, Cond.code yX1_isAbove cX1_isAbove 5 (some .boolean), Cond.methodLink RX1 180 yX1_orderKey, Cond.static yX1_orderKey, Cond.code yX1_orderKey cX1_orderKey 3 (some .long), Cond.methodLink RX1 207 yX1_lower, Cond.static yX1_lower, Cond.code yX1_lower cX1_lower 5 (some .long), Cond.methodLink RX1 210 yX1_shown, Cond.static yX1_shown, Cond.code yX1_shown cX1_shown 3 (some .long), Cond.constantLong RX1 235 (1065353216), Cond.constantLong RX1 237 (4607182418800017408), Cond.methodLink RX1 213 yX1_withSign, Cond.static yX1_withSign, Cond.code yX1_withSign cX1_withSign 4 (some .long), Cond.methodLink RX1 217 yX1_wholeAway, Cond.static yX1_wholeAway]
def wsX1_read_r4 : List Cond := [Cond.code yX1_wholeAway cX1_wholeAway 2 (some .long), Cond.methodLink RX1 246 yX1_isWhole, Cond.static yX1_isWhole, Cond.code yX1_isWhole cX1_isWhole 2 (some .boolean), Cond.methodLink RX1 239 yX1_isBelowOne, Cond.static yX1_isBelowOne, Cond.code yX1_isBelowOne cX1_isBelowOne 2 (some .boolean), Cond.methodLink RX1 243 yX1_partMask, Cond.static yX1_partMask, Cond.code yX1_partMask cX1_partMask 3 (some .long), Cond.methodLink RX1 221 yX1_wholeToward, Cond.static yX1_wholeToward, Cond.code yX1_wholeToward cX1_wholeToward 2 (some .long), Cond.methodLink RX1 224 yX1_wholeNearest, Cond.static yX1_wholeNearest, Cond.code yX1_wholeNearest cX1_wholeNearest 6 (some .long), Cond.constantLong RX1 249 (4602678819172646912), Cond.constantLong RX1 251 (4503599627370496), Cond.methodLink RX1 253 yX1_roundsAway, Cond.static yX1_roundsAway, Cond.code yX1_roundsAway cX1_roundsAway 9 (some .boolean), Cond.instanceMethod yX0_takeValue, Cond.initialized RX0, Cond.selects RX0 yX0_takeValue yX0_takeValue]
def wsX1_read_r5 : List Cond := [Cond.code yX0_takeValue cX0_takeValue 3 none, Cond.fieldLink RX0 37 "GaugeBoard$Gauge" "readings" "I", Cond.fieldLink RX0 29 "GaugeBoard$Gauge" "value" "J", Cond.fieldLink RX0 40 "GaugeBoard$Gauge" "swings" "I", Cond.fieldLink RX0 33 "GaugeBoard$Gauge" "marked" "Z", Cond.fieldLink RX0 54 "GaugeBoard$Gauge" "high" "J", Cond.fieldLink RX0 22 "GaugeBoard$Gauge" "kind" "I", Cond.fieldLink RX0 61 "GaugeBoard$Gauge" "low" "J", Cond.static yX1_signOf, Cond.code yX1_signOf cX1_signOf 2 (some .int)]
def wsX1_read : List Cond := .code yX1_read cX1_read 5 (some .long) :: ((wsX1_read_r1 ++ (wsX1_read_r2 ++ (wsX1_read_r3 ++ (wsX1_read_r4 ++ wsX1_read_r5)))) ++ wsX00 ++ wsX10 ++ (vy_atS RX1 23 "java/util/NoSuchElementException" 13 prog_11_method_4_code "java/lang/RuntimeException" ["java/lang/Exception"]).filter goodWord ++ (vx_atS RX1 74 "java/lang/IllegalArgumentException" ["java/lang/RuntimeException", "java/lang/Exception"]).filter goodWord)
def wsX1_canHandOn : List Cond := .code yX1_canHandOn cX1_canHandOn 2 (some .boolean) :: ([])
def wsX1_highestBit : List Cond := .code yX1_highestBit cX1_highestBit 3 (some .int) :: ([])
def wsX1_cutTo : List Cond := .code yX1_cutTo cX1_cutTo 5 (some .long) :: ([.methodLink RX1 253 yX1_roundsAway, .static yX1_roundsAway, .initialized RX1, .code yX1_roundsAway cX1_roundsAway 9 (some .boolean)])
def wsX1_wholeAsReal : List Cond := .code yX1_wholeAsReal cX1_wholeAsReal 14 (some .long) :: ([.methodLink RX1 264 yX1_highestBit, .static yX1_highestBit, .initialized RX1, .code yX1_highestBit cX1_highestBit 3 (some .int), .methodLink RX1 267 yX1_cutTo, .static yX1_cutTo, .code yX1_cutTo cX1_cutTo 5 (some .long), .methodLink RX1 253 yX1_roundsAway, .static yX1_roundsAway, .code yX1_roundsAway cX1_roundsAway 9 (some .boolean), .methodLink RX1 213 yX1_withSign, .static yX1_withSign, .code yX1_withSign cX1_withSign 4 (some .long), .methodLink RX1 229 yX1_signBits, .static yX1_signBits, .code yX1_signBits cX1_signBits 1 (some .long), .constantLong RX1 171 (-2147483648), .constantLong RX1 227 (-9223372036854775808)])
def wsX1_sizeAsDouble_r1 : List Cond := [Cond.constantLong RX1 175 (2139095040), Cond.constantLong RX1 169 (9218868437227405312), Cond.constantLong RX1 273 (671036344478203904), Cond.constantLong RX1 275 (4035225266123964416), Cond.methodLink RX1 260 yX1_wholeAsReal, Cond.static yX1_wholeAsReal, Cond.initialized RX1, Cond.code yX1_wholeAsReal cX1_wholeAsReal 14 (some .long), Cond.methodLink RX1 264 yX1_highestBit, Cond.static yX1_highestBit, Cond.code yX1_highestBit cX1_highestBit 3 (some .int), Cond.methodLink RX1 267 yX1_cutTo, Cond.static yX1_cutTo, Cond.code yX1_cutTo cX1_cutTo 5 (some .long), Cond.methodLink RX1 253 yX1_roundsAway, Cond.static yX1_roundsAway, Cond.code yX1_roundsAway cX1_roundsAway 9 (some .boolean), Cond.methodLink RX1 213 yX1_withSign, Cond.static yX1_withSign, Cond.code yX1_withSign cX1_withSign 4 (some .long), Cond.methodLink RX1 229 yX1_signBits, Cond.static yX1_signBits, Cond.code yX1_signBits cX1_signBits 1 (some .long), Cond.constantLong RX1 171 (-2147483648)]
def wsX1_sizeAsDouble_r2 : List Cond := [Cond.constantLong RX1 227 (-9223372036854775808)]
def wsX1_sizeAsDouble : List Cond := .code yX1_sizeAsDouble cX1_sizeAsDouble 4 (some .long) :: ((wsX1_sizeAsDouble_r1 ++ wsX1_sizeAsDouble_r2))
def wsX1_singleAsDouble_r1 : List Cond := [Cond.constantLong RX1 173 (2147483647), Cond.methodLink RX1 270 yX1_sizeAsDouble, Cond.static yX1_sizeAsDouble, Cond.initialized RX1, Cond.code yX1_sizeAsDouble cX1_sizeAsDouble 4 (some .long), Cond.constantLong RX1 175 (2139095040), Cond.constantLong RX1 169 (9218868437227405312), Cond.constantLong RX1 273 (671036344478203904), Cond.constantLong RX1 275 (4035225266123964416), Cond.methodLink RX1 260 yX1_wholeAsReal, Cond.static yX1_wholeAsReal, Cond.code yX1_wholeAsReal cX1_wholeAsReal 14 (some .long), Cond.methodLink RX1 264 yX1_highestBit, Cond.static yX1_highestBit, Cond.code yX1_highestBit cX1_highestBit 3 (some .int), Cond.methodLink RX1 267 yX1_cutTo, Cond.static yX1_cutTo, Cond.code yX1_cutTo cX1_cutTo 5 (some .long), Cond.methodLink RX1 253 yX1_roundsAway, Cond.static yX1_roundsAway, Cond.code yX1_roundsAway cX1_roundsAway 9 (some .boolean), Cond.methodLink RX1 213 yX1_withSign, Cond.static yX1_withSign, Cond.code yX1_withSign cX1_withSign 4 (some .long)]
def wsX1_singleAsDouble_r2 : List Cond := [Cond.methodLink RX1 229 yX1_signBits, Cond.static yX1_signBits, Cond.code yX1_signBits cX1_signBits 1 (some .long), Cond.constantLong RX1 171 (-2147483648), Cond.constantLong RX1 227 (-9223372036854775808)]
def wsX1_singleAsDouble : List Cond := .code yX1_singleAsDouble cX1_singleAsDouble 2 (some .long) :: ((wsX1_singleAsDouble_r1 ++ wsX1_singleAsDouble_r2))
def wsX1_handedOn_r1 : List Cond := [Cond.methodLink RX1 257 yX1_singleAsDouble, Cond.static yX1_singleAsDouble, Cond.initialized RX1, Cond.code yX1_singleAsDouble cX1_singleAsDouble 2 (some .long), Cond.constantLong RX1 173 (2147483647), Cond.methodLink RX1 270 yX1_sizeAsDouble, Cond.static yX1_sizeAsDouble, Cond.code yX1_sizeAsDouble cX1_sizeAsDouble 4 (some .long), Cond.constantLong RX1 175 (2139095040), Cond.constantLong RX1 169 (9218868437227405312), Cond.constantLong RX1 273 (671036344478203904), Cond.constantLong RX1 275 (4035225266123964416), Cond.methodLink RX1 260 yX1_wholeAsReal, Cond.static yX1_wholeAsReal, Cond.code yX1_wholeAsReal cX1_wholeAsReal 14 (some .long), Cond.methodLink RX1 264 yX1_highestBit, Cond.static yX1_highestBit, Cond.code yX1_highestBit cX1_highestBit 3 (some .int), Cond.methodLink RX1 267 yX1_cutTo, Cond.static yX1_cutTo, Cond.code yX1_cutTo cX1_cutTo 5 (some .long), Cond.methodLink RX1 253 yX1_roundsAway, Cond.static yX1_roundsAway, Cond.code yX1_roundsAway cX1_roundsAway 9 (some .boolean)]
def wsX1_handedOn_r2 : List Cond := [Cond.methodLink RX1 213 yX1_withSign, Cond.static yX1_withSign, Cond.code yX1_withSign cX1_withSign 4 (some .long), Cond.methodLink RX1 229 yX1_signBits, Cond.static yX1_signBits, Cond.code yX1_signBits cX1_signBits 1 (some .long), Cond.constantLong RX1 171 (-2147483648), Cond.constantLong RX1 227 (-9223372036854775808)]
def wsX1_handedOn : List Cond := .code yX1_handedOn cX1_handedOn 4 (some .long) :: ((wsX1_handedOn_r1 ++ wsX1_handedOn_r2))
def wsX1_hand_r1 : List Cond := [Cond.classLink RX1 70 "java/lang/IllegalArgumentException", Cond.initialized "java/lang/IllegalArgumentException", Cond.methodLink RX1 55 yX1_needGauge, Cond.instanceMethod yX1_needGauge, Cond.selects RX1 yX1_needGauge yX1_needGauge, Cond.initialized RX1, Cond.code yX1_needGauge cX1_needGauge 3 (some (.object "GaugeBoard$Gauge")), Cond.classLink RX1 19 "java/util/NoSuchElementException", Cond.initialized "java/util/NoSuchElementException", Cond.methodLink RX1 30 yX1_gaugeAt, Cond.instanceMethod yX1_gaugeAt, Cond.selects RX1 yX1_gaugeAt yX1_gaugeAt, Cond.code yX1_gaugeAt cX1_gaugeAt 2 (some (.object "GaugeBoard$Gauge")), Cond.fieldLink RX1 11 "GaugeBoard" "places" "[LGaugeBoard$Gauge;", Cond.methodLink RX1 15 yX1_isPlace, Cond.static yX1_isPlace, Cond.code yX1_isPlace cX1_isPlace 1 (some .boolean), Cond.methodLink RX1 84 yX1_canHandOn, Cond.static yX1_canHandOn, Cond.code yX1_canHandOn cX1_canHandOn 2 (some .boolean), Cond.methodLink RX1 94 yX1_handedOn, Cond.static yX1_handedOn, Cond.code yX1_handedOn cX1_handedOn 4 (some .long), Cond.methodLink RX1 257 yX1_singleAsDouble]
def wsX1_hand_r2 : List Cond := [Cond.static yX1_singleAsDouble, Cond.code yX1_singleAsDouble cX1_singleAsDouble 2 (some .long), Cond.constantLong RX1 173 (2147483647), Cond.methodLink RX1 270 yX1_sizeAsDouble, Cond.static yX1_sizeAsDouble, Cond.code yX1_sizeAsDouble cX1_sizeAsDouble 4 (some .long), Cond.constantLong RX1 175 (2139095040), Cond.constantLong RX1 169 (9218868437227405312), Cond.constantLong RX1 273 (671036344478203904), Cond.constantLong RX1 275 (4035225266123964416), Cond.methodLink RX1 260 yX1_wholeAsReal, Cond.static yX1_wholeAsReal, Cond.code yX1_wholeAsReal cX1_wholeAsReal 14 (some .long), Cond.methodLink RX1 264 yX1_highestBit, Cond.static yX1_highestBit, Cond.code yX1_highestBit cX1_highestBit 3 (some .int), Cond.methodLink RX1 267 yX1_cutTo, Cond.static yX1_cutTo, Cond.code yX1_cutTo cX1_cutTo 5 (some .long), Cond.methodLink RX1 253 yX1_roundsAway, Cond.static yX1_roundsAway, Cond.code yX1_roundsAway cX1_roundsAway 9 (some .boolean), Cond.methodLink RX1 213 yX1_withSign, Cond.static yX1_withSign]
def wsX1_hand_r3 : List Cond := [Cond.code yX1_withSign cX1_withSign 4 (some .long), Cond.methodLink RX1 229 yX1_signBits, Cond.static yX1_signBits, Cond.code yX1_signBits cX1_signBits 1 (some .long), Cond.constantLong RX1 171 (-2147483648), Cond.constantLong RX1 227 (-9223372036854775808), Cond.methodLink RX1 78 yX1_takeReading, Cond.instanceMethod yX1_takeReading, Cond.selects RX1 yX1_takeReading yX1_takeReading, Cond.code yX1_takeReading cX1_takeReading 7 (some .long), Cond.methodLink RX1 184 yX1_operandOf, Cond.instanceMethod yX1_operandOf, Cond.selects RX1 yX1_operandOf yX1_operandOf, Cond.code yX1_operandOf cX1_operandOf 4 (some .long), Cond.methodLink RX1 188 yX1_afterStep, Cond.static yX1_afterStep, Cond.code yX1_afterStep cX1_afterStep 6 (some .long), Cond.methodLink RX1 200 yX1_sizeOf, Cond.static yX1_sizeOf, Cond.code yX1_sizeOf cX1_sizeOf 5 (some .long), Cond.constantLong RX1 233 (-1), Cond.methodLink RX1 177 yX1_isReal, Cond.static yX1_isReal, Cond.code yX1_isReal cX1_isReal 1 (some .boolean)]
def wsX1_hand_r4 : List Cond := [Cond.methodLink RX1 203 yX1_higher, Cond.static yX1_higher, Cond.code yX1_higher cX1_higher 5 (some .long), Cond.methodLink RX1 137 yX1_isAbove, Cond.static yX1_isAbove, Cond.code yX1_isAbove cX1_isAbove 5 (some .boolean), Cond.methodLink RX1 180 yX1_orderKey, Cond.static yX1_orderKey, Cond.code yX1_orderKey cX1_orderKey 3 (some .long), Cond.constantLong RX1 167 (9223372036854775807), Cond.methodLink RX1 207 yX1_lower, Cond.static yX1_lower, Cond.code yX1_lower cX1_lower 5 (some .long), Cond.methodLink RX1 210 yX1_shown, Cond.static yX1_shown, Cond.code yX1_shown cX1_shown 3 (some .long), Cond.constantLong RX1 235 (1065353216), Cond.constantLong RX1 237 (4607182418800017408), Cond.methodLink RX1 217 yX1_wholeAway, Cond.static yX1_wholeAway, Cond.code yX1_wholeAway cX1_wholeAway 2 (some .long), Cond.methodLink RX1 246 yX1_isWhole, Cond.static yX1_isWhole, Cond.code yX1_isWhole cX1_isWhole 2 (some .boolean)]
def wsX1_hand_r5 : List Cond := [Cond.methodLink RX1 239 yX1_isBelowOne, Cond.static yX1_isBelowOne, Cond.code yX1_isBelowOne cX1_isBelowOne 2 (some .boolean), Cond.methodLink RX1 243 yX1_partMask, Cond.static yX1_partMask, Cond.code yX1_partMask cX1_partMask 3 (some .long), Cond.methodLink RX1 221 yX1_wholeToward, Cond.static yX1_wholeToward, Cond.code yX1_wholeToward cX1_wholeToward 2 (some .long), Cond.methodLink RX1 224 yX1_wholeNearest, Cond.static yX1_wholeNearest, Cond.code yX1_wholeNearest cX1_wholeNearest 6 (some .long), Cond.constantLong RX1 249 (4602678819172646912), Cond.constantLong RX1 251 (4503599627370496), Cond.instanceMethod yX0_takeValue, Cond.initialized RX0, Cond.selects RX0 yX0_takeValue yX0_takeValue, Cond.code yX0_takeValue cX0_takeValue 3 none, Cond.fieldLink RX0 37 "GaugeBoard$Gauge" "readings" "I", Cond.fieldLink RX0 29 "GaugeBoard$Gauge" "value" "J", Cond.fieldLink RX0 40 "GaugeBoard$Gauge" "swings" "I", Cond.fieldLink RX0 33 "GaugeBoard$Gauge" "marked" "Z", Cond.fieldLink RX0 54 "GaugeBoard$Gauge" "high" "J", Cond.fieldLink RX0 22 "GaugeBoard$Gauge" "kind" "I"]
def wsX1_hand_r6 : List Cond := [Cond.fieldLink RX0 61 "GaugeBoard$Gauge" "low" "J", Cond.static yX1_signOf, Cond.code yX1_signOf cX1_signOf 2 (some .int)]
def wsX1_hand : List Cond := .code yX1_hand cX1_hand 5 (some .long) :: ((wsX1_hand_r1 ++ (wsX1_hand_r2 ++ (wsX1_hand_r3 ++ (wsX1_hand_r4 ++ (wsX1_hand_r5 ++ wsX1_hand_r6))))) ++ wsX00 ++ wsX10 ++ (vx_atS RX1 74 "java/lang/IllegalArgumentException" ["java/lang/RuntimeException", "java/lang/Exception"]).filter goodWord ++ (vy_atS RX1 23 "java/util/NoSuchElementException" 13 prog_11_method_4_code "java/lang/RuntimeException" ["java/lang/Exception"]).filter goodWord)
def wsX1_clear : List Cond := .code yX1_clear cX1_clear 4 (some .boolean) :: ([.methodLink RX1 55 yX1_needGauge, .instanceMethod yX1_needGauge, .selects RX1 yX1_needGauge yX1_needGauge, .initialized RX1, .code yX1_needGauge cX1_needGauge 3 (some (.object "GaugeBoard$Gauge")), .classLink RX1 19 "java/util/NoSuchElementException", .initialized "java/util/NoSuchElementException", .methodLink RX1 30 yX1_gaugeAt, .instanceMethod yX1_gaugeAt, .selects RX1 yX1_gaugeAt yX1_gaugeAt, .code yX1_gaugeAt cX1_gaugeAt 2 (some (.object "GaugeBoard$Gauge")), .fieldLink RX1 11 "GaugeBoard" "places" "[LGaugeBoard$Gauge;", .methodLink RX1 15 yX1_isPlace, .static yX1_isPlace, .code yX1_isPlace cX1_isPlace 1 (some .boolean)] ++ wsX00 ++ wsX10 ++ (vy_atS RX1 23 "java/util/NoSuchElementException" 13 prog_11_method_4_code "java/lang/RuntimeException" ["java/lang/Exception"]).filter goodWord)
def wsX1_value : List Cond := .code yX1_value cX1_value 2 (some .long) :: ([.methodLink RX1 55 yX1_needGauge, .instanceMethod yX1_needGauge, .selects RX1 yX1_needGauge yX1_needGauge, .initialized RX1, .code yX1_needGauge cX1_needGauge 3 (some (.object "GaugeBoard$Gauge")), .classLink RX1 19 "java/util/NoSuchElementException", .initialized "java/util/NoSuchElementException", .methodLink RX1 30 yX1_gaugeAt, .instanceMethod yX1_gaugeAt, .selects RX1 yX1_gaugeAt yX1_gaugeAt, .code yX1_gaugeAt cX1_gaugeAt 2 (some (.object "GaugeBoard$Gauge")), .fieldLink RX1 11 "GaugeBoard" "places" "[LGaugeBoard$Gauge;", .methodLink RX1 15 yX1_isPlace, .static yX1_isPlace, .code yX1_isPlace cX1_isPlace 1 (some .boolean)] ++ wsX00 ++ wsX10 ++ (vy_atS RX1 23 "java/util/NoSuchElementException" 13 prog_11_method_4_code "java/lang/RuntimeException" ["java/lang/Exception"]).filter goodWord)
def wsX1_mark : List Cond := .code yX1_mark cX1_mark 4 (some .long) :: ([.classLink RX1 47 "java/lang/IllegalStateException", .initialized "java/lang/IllegalStateException", .methodLink RX1 55 yX1_needGauge, .instanceMethod yX1_needGauge, .selects RX1 yX1_needGauge yX1_needGauge, .initialized RX1, .code yX1_needGauge cX1_needGauge 3 (some (.object "GaugeBoard$Gauge")), .classLink RX1 19 "java/util/NoSuchElementException", .initialized "java/util/NoSuchElementException", .methodLink RX1 30 yX1_gaugeAt, .instanceMethod yX1_gaugeAt, .selects RX1 yX1_gaugeAt yX1_gaugeAt, .code yX1_gaugeAt cX1_gaugeAt 2 (some (.object "GaugeBoard$Gauge")), .fieldLink RX1 11 "GaugeBoard" "places" "[LGaugeBoard$Gauge;", .methodLink RX1 15 yX1_isPlace, .static yX1_isPlace, .code yX1_isPlace cX1_isPlace 1 (some .boolean)] ++ wsX00 ++ wsX10 ++ (vx_atS RX1 51 "java/lang/IllegalStateException" ["java/lang/RuntimeException", "java/lang/Exception"]).filter goodWord ++ (vy_atS RX1 23 "java/util/NoSuchElementException" 13 prog_11_method_4_code "java/lang/RuntimeException" ["java/lang/Exception"]).filter goodWord)
def wsX1_about_r1 : List Cond := [Cond.classLink RX1 70 "java/lang/IllegalArgumentException", Cond.initialized "java/lang/IllegalArgumentException", Cond.methodLink RX1 55 yX1_needGauge, Cond.instanceMethod yX1_needGauge, Cond.selects RX1 yX1_needGauge yX1_needGauge, Cond.initialized RX1, Cond.code yX1_needGauge cX1_needGauge 3 (some (.object "GaugeBoard$Gauge")), Cond.classLink RX1 19 "java/util/NoSuchElementException", Cond.initialized "java/util/NoSuchElementException", Cond.methodLink RX1 30 yX1_gaugeAt, Cond.instanceMethod yX1_gaugeAt, Cond.selects RX1 yX1_gaugeAt yX1_gaugeAt, Cond.code yX1_gaugeAt cX1_gaugeAt 2 (some (.object "GaugeBoard$Gauge")), Cond.fieldLink RX1 11 "GaugeBoard" "places" "[LGaugeBoard$Gauge;", Cond.methodLink RX1 15 yX1_isPlace, Cond.static yX1_isPlace, Cond.code yX1_isPlace cX1_isPlace 1 (some .boolean), Cond.methodLink RX1 116 yX1_signOf, Cond.static yX1_signOf, Cond.code yX1_signOf cX1_signOf 2 (some .int), Cond.methodLink RX1 40 yX1_stepsTaking, Cond.instanceMethod yX1_stepsTaking, Cond.selects RX1 yX1_stepsTaking yX1_stepsTaking, Cond.code yX1_stepsTaking cX1_stepsTaking 5 (some .int)]
def wsX1_about_r2 : List Cond := [Cond.instanceMethod yX0_ownStepsTaking, Cond.initialized RX0, Cond.selects RX0 yX0_ownStepsTaking yX0_ownStepsTaking, Cond.code yX0_ownStepsTaking cX0_ownStepsTaking 4 (some .int), Cond.fieldLink RX0 26 "GaugeBoard$Gauge" "stepCount" "I", Cond.fieldLink RX0 15 "GaugeBoard$Gauge" "sources" "[I"]
def wsX1_about : List Cond := .code yX1_about cX1_about 4 (some .int) :: ((wsX1_about_r1 ++ wsX1_about_r2) ++ wsX00 ++ wsX10 ++ (vx_atS RX1 74 "java/lang/IllegalArgumentException" ["java/lang/RuntimeException", "java/lang/Exception"]).filter goodWord ++ (vy_atS RX1 23 "java/util/NoSuchElementException" 13 prog_11_method_4_code "java/lang/RuntimeException" ["java/lang/Exception"]).filter goodWord)
def wsX1_operandForm : List Cond := .code yX1_operandForm cX1_operandForm 2 (some .int) :: ([.methodLink RX1 156 yX1_wantsOperand, .static yX1_wantsOperand, .initialized RX1, .code yX1_wantsOperand cX1_wantsOperand 1 (some .boolean)])
def wsX1_stepAt : List Cond := .code yX1_stepAt cX1_stepAt 5 (some .int) :: ([.classLink RX1 19 "java/util/NoSuchElementException", .initialized "java/util/NoSuchElementException", .classLink RX1 70 "java/lang/IllegalArgumentException", .initialized "java/lang/IllegalArgumentException", .methodLink RX1 55 yX1_needGauge, .instanceMethod yX1_needGauge, .selects RX1 yX1_needGauge yX1_needGauge, .initialized RX1, .code yX1_needGauge cX1_needGauge 3 (some (.object "GaugeBoard$Gauge")), .methodLink RX1 30 yX1_gaugeAt, .instanceMethod yX1_gaugeAt, .selects RX1 yX1_gaugeAt yX1_gaugeAt, .code yX1_gaugeAt cX1_gaugeAt 2 (some (.object "GaugeBoard$Gauge")), .fieldLink RX1 11 "GaugeBoard" "places" "[LGaugeBoard$Gauge;", .methodLink RX1 15 yX1_isPlace, .static yX1_isPlace, .code yX1_isPlace cX1_isPlace 1 (some .boolean), .methodLink RX1 131 yX1_operandForm, .static yX1_operandForm, .code yX1_operandForm cX1_operandForm 2 (some .int), .methodLink RX1 156 yX1_wantsOperand, .static yX1_wantsOperand, .code yX1_wantsOperand cX1_wantsOperand 1 (some .boolean)] ++ wsX00 ++ wsX10 ++ (vy_atS RX1 23 "java/util/NoSuchElementException" 13 prog_11_method_4_code "java/lang/RuntimeException" ["java/lang/Exception"]).filter goodWord ++ (vx_atS RX1 74 "java/lang/IllegalArgumentException" ["java/lang/RuntimeException", "java/lang/Exception"]).filter goodWord)
def wsX1_rank_r1 : List Cond := [Cond.fieldLink RX1 11 "GaugeBoard" "places" "[LGaugeBoard$Gauge;", Cond.methodLink RX1 55 yX1_needGauge, Cond.instanceMethod yX1_needGauge, Cond.selects RX1 yX1_needGauge yX1_needGauge, Cond.initialized RX1, Cond.code yX1_needGauge cX1_needGauge 3 (some (.object "GaugeBoard$Gauge")), Cond.classLink RX1 19 "java/util/NoSuchElementException", Cond.initialized "java/util/NoSuchElementException", Cond.methodLink RX1 30 yX1_gaugeAt, Cond.instanceMethod yX1_gaugeAt, Cond.selects RX1 yX1_gaugeAt yX1_gaugeAt, Cond.code yX1_gaugeAt cX1_gaugeAt 2 (some (.object "GaugeBoard$Gauge")), Cond.methodLink RX1 15 yX1_isPlace, Cond.static yX1_isPlace, Cond.code yX1_isPlace cX1_isPlace 1 (some .boolean), Cond.methodLink RX1 137 yX1_isAbove, Cond.static yX1_isAbove, Cond.code yX1_isAbove cX1_isAbove 5 (some .boolean), Cond.methodLink RX1 180 yX1_orderKey, Cond.static yX1_orderKey, Cond.code yX1_orderKey cX1_orderKey 3 (some .long), Cond.constantLong RX1 167 (9223372036854775807), Cond.methodLink RX1 177 yX1_isReal, Cond.static yX1_isReal]
def wsX1_rank_r2 : List Cond := [Cond.code yX1_isReal cX1_isReal 1 (some .boolean)]
def wsX1_rank : List Cond := .code yX1_rank cX1_rank 6 (some .int) :: ((wsX1_rank_r1 ++ wsX1_rank_r2) ++ wsX10 ++ wsX00 ++ (vy_atS RX1 23 "java/util/NoSuchElementException" 13 prog_11_method_4_code "java/lang/RuntimeException" ["java/lang/Exception"]).filter goodWord)
def wsX1_further : List Cond := .code yX1_further cX1_further 3 (some (.object "GaugeBoard$Gauge")) :: ([.methodLink RX1 137 yX1_isAbove, .static yX1_isAbove, .initialized RX1, .code yX1_isAbove cX1_isAbove 5 (some .boolean), .methodLink RX1 180 yX1_orderKey, .static yX1_orderKey, .code yX1_orderKey cX1_orderKey 3 (some .long), .constantLong RX1 167 (9223372036854775807), .methodLink RX1 177 yX1_isReal, .static yX1_isReal, .code yX1_isReal cX1_isReal 1 (some .boolean)] ++ wsX00)
def wsX1_most : List Cond := .code yX1_most cX1_most 6 (some .long) :: ([.classLink RX1 47 "java/lang/IllegalStateException", .initialized "java/lang/IllegalStateException", .fieldLink RX1 11 "GaugeBoard" "places" "[LGaugeBoard$Gauge;", .methodLink RX1 26 yX1_needKind, .static yX1_needKind, .initialized RX1, .code yX1_needKind cX1_needKind 1 none, .classLink RX1 70 "java/lang/IllegalArgumentException", .initialized "java/lang/IllegalArgumentException", .methodLink RX1 141 yX1_further, .static yX1_further, .code yX1_further cX1_further 3 (some (.object "GaugeBoard$Gauge")), .methodLink RX1 137 yX1_isAbove, .static yX1_isAbove, .code yX1_isAbove cX1_isAbove 5 (some .boolean), .methodLink RX1 180 yX1_orderKey, .static yX1_orderKey, .code yX1_orderKey cX1_orderKey 3 (some .long), .constantLong RX1 167 (9223372036854775807), .methodLink RX1 177 yX1_isReal, .static yX1_isReal, .code yX1_isReal cX1_isReal 1 (some .boolean)] ++ wsX10 ++ wsX00 ++ (vx_atS RX1 51 "java/lang/IllegalStateException" ["java/lang/RuntimeException", "java/lang/Exception"]).filter goodWord ++ (vx_atS RX1 74 "java/lang/IllegalArgumentException" ["java/lang/RuntimeException", "java/lang/Exception"]).filter goodWord)
def wsX1_gauges : List Cond := .code yX1_gauges cX1_gauges 3 (some .int) :: ([.fieldLink RX1 11 "GaugeBoard" "places" "[LGaugeBoard$Gauge;"] ++ wsX10)
def wsX2_init : List Cond := .code yX2_init cX2_init 1 none :: ([.methodLink RX2 1 objectInit, .instanceMethod objectInit, .code objectInit ⟨#[0xb1]⟩ 1 none, .arrayClass .boolean, .fieldLink RX2 7 "GaugeBoardModel" "there" "[Z", .arrayClass .int, .fieldLink RX2 13 "GaugeBoardModel" "kind" "[I", .arrayClass .long, .fieldLink RX2 17 "GaugeBoardModel" "value" "[J", .fieldLink RX2 21 "GaugeBoardModel" "steps" "[I", .fieldLink RX2 24 "GaugeBoardModel" "readings" "[I", .fieldLink RX2 27 "GaugeBoardModel" "swings" "[I", .fieldLink RX2 30 "GaugeBoardModel" "marked" "[Z", .fieldLink RX2 33 "GaugeBoardModel" "high" "[J", .fieldLink RX2 36 "GaugeBoardModel" "low" "[J", .fieldLink RX2 39 "GaugeBoardModel" "sortOf" "[I", .fieldLink RX2 42 "GaugeBoardModel" "operandOf" "[I", .fieldLink RX2 45 "GaugeBoardModel" "bitsOf" "[J", .fieldLink RX2 48 "GaugeBoardModel" "gaugeOf" "[I"] ++ wsX20)
def wsX2_thrown : List Cond := .code yX2_thrown cX2_thrown 1 (some .int) :: ([.fieldLink RX2 51 "GaugeBoardModel" "thrown" "I"] ++ wsX20)
def wsX2_isThere : List Cond := .code yX2_isThere cX2_isThere 2 (some .boolean) :: ([.fieldLink RX2 7 "GaugeBoardModel" "there" "[Z"] ++ wsX20)
def wsX2_isNone : List Cond := .code yX2_isNone cX2_isNone 3 (some .boolean) :: ([.constantLong RX2 55 (2147483647), .constantLong RX2 57 (2139095040), .constantLong RX2 59 (9223372036854775807), .constantLong RX2 61 (9218868437227405312)])
def wsX2_isGood : List Cond := .code yX2_isGood cX2_isGood 3 (some .boolean) :: ([.constantLong RX2 63 (-2147483648), .constantLong RX2 55 (2147483647), .methodLink RX2 65 yX2_isNone, .static yX2_isNone, .initialized RX2, .code yX2_isNone cX2_isNone 3 (some .boolean), .constantLong RX2 57 (2139095040), .constantLong RX2 59 (9223372036854775807), .constantLong RX2 61 (9218868437227405312)])
def wsX2_keyOf : List Cond := .code yX2_keyOf cX2_keyOf 3 (some .long) :: ([.constantLong RX2 55 (2147483647), .constantLong RX2 59 (9223372036854775807)])
def wsX2_isAbove : List Cond := .code yX2_isAbove cX2_isAbove 5 (some .boolean) :: ([.methodLink RX2 69 yX2_keyOf, .static yX2_keyOf, .initialized RX2, .code yX2_keyOf cX2_keyOf 3 (some .long), .constantLong RX2 55 (2147483647), .constantLong RX2 59 (9223372036854775807)])
def wsX2_isZero : List Cond := .code yX2_isZero cX2_isZero 3 (some .boolean) :: ([.constantLong RX2 55 (2147483647), .constantLong RX2 59 (9223372036854775807)])
def wsX2_has : List Cond := .code yX2_has cX2_has 2 (some .boolean) :: ([])
def wsX2_wants : List Cond := .code yX2_wants cX2_wants 1 (some .boolean) :: ([])
def wsX2_sizeOf : List Cond := .code yX2_sizeOf cX2_sizeOf 3 (some .long) :: ([.constantLong RX2 63 (-2147483648), .constantLong RX2 55 (2147483647), .constantLong RX2 59 (9223372036854775807)])
def wsX2_shown : List Cond := .code yX2_shown cX2_shown 3 (some .long) :: ([.constantLong RX2 76 (-1082130432), .constantLong RX2 78 (1065353216), .constantLong RX2 80 (-4616189618054758400), .constantLong RX2 82 (4607182418800017408), .methodLink RX2 73 yX2_isZero, .static yX2_isZero, .initialized RX2, .code yX2_isZero cX2_isZero 3 (some .boolean), .constantLong RX2 55 (2147483647), .constantLong RX2 59 (9223372036854775807)])
def wsX2_like : List Cond := .code yX2_like cX2_like 7 (some .long) :: ([.constantLong RX2 87 (2147483648), .constantLong RX2 89 (-9223372036854775808), .methodLink RX2 84 yX2_sizeOf, .static yX2_sizeOf, .initialized RX2, .code yX2_sizeOf cX2_sizeOf 3 (some .long), .constantLong RX2 63 (-2147483648), .constantLong RX2 55 (2147483647), .constantLong RX2 59 (9223372036854775807)])
def wsX2_wholeOf : List Cond := .code yX2_wholeOf cX2_wholeOf 17 (some .long) :: ([.constantLong RX2 59 (9223372036854775807), .constantLong RX2 89 (-9223372036854775808), .constantLong RX2 91 (4602678819172646912), .constantLong RX2 82 (4607182418800017408), .constantLong RX2 93 (2)])
def wsX2_done_r1 : List Cond := [Cond.fieldLink RX2 42 "GaugeBoardModel" "operandOf" "[I", Cond.fieldLink RX2 45 "GaugeBoardModel" "bitsOf" "[J", Cond.fieldLink RX2 17 "GaugeBoardModel" "value" "[J", Cond.fieldLink RX2 48 "GaugeBoardModel" "gaugeOf" "[I", Cond.fieldLink RX2 39 "GaugeBoardModel" "sortOf" "[I", Cond.fieldLink RX2 13 "GaugeBoardModel" "kind" "[I", Cond.methodLink RX2 84 yX2_sizeOf, Cond.static yX2_sizeOf, Cond.initialized RX2, Cond.code yX2_sizeOf cX2_sizeOf 3 (some .long), Cond.constantLong RX2 63 (-2147483648), Cond.constantLong RX2 55 (2147483647), Cond.constantLong RX2 59 (9223372036854775807), Cond.methodLink RX2 95 yX2_isAbove, Cond.static yX2_isAbove, Cond.code yX2_isAbove cX2_isAbove 5 (some .boolean), Cond.methodLink RX2 69 yX2_keyOf, Cond.static yX2_keyOf, Cond.code yX2_keyOf cX2_keyOf 3 (some .long), Cond.methodLink RX2 99 yX2_shown, Cond.static yX2_shown, Cond.code yX2_shown cX2_shown 3 (some .long), Cond.constantLong RX2 76 (-1082130432), Cond.constantLong RX2 78 (1065353216)]
def wsX2_done_r2 : List Cond := [Cond.constantLong RX2 80 (-4616189618054758400), Cond.constantLong RX2 82 (4607182418800017408), Cond.methodLink RX2 73 yX2_isZero, Cond.static yX2_isZero, Cond.code yX2_isZero cX2_isZero 3 (some .boolean), Cond.methodLink RX2 102 yX2_like, Cond.static yX2_like, Cond.code yX2_like cX2_like 7 (some .long), Cond.constantLong RX2 87 (2147483648), Cond.constantLong RX2 89 (-9223372036854775808), Cond.methodLink RX2 106 yX2_wholeOf, Cond.static yX2_wholeOf, Cond.code yX2_wholeOf cX2_wholeOf 17 (some .long), Cond.constantLong RX2 91 (4602678819172646912), Cond.constantLong RX2 93 (2)]
def wsX2_done : List Cond := .code yX2_done cX2_done 8 (some .long) :: ((wsX2_done_r1 ++ wsX2_done_r2) ++ wsX20)
def wsX2_comes_r1 : List Cond := [Cond.fieldLink RX2 21 "GaugeBoardModel" "steps" "[I", Cond.fieldLink RX2 24 "GaugeBoardModel" "readings" "[I", Cond.fieldLink RX2 17 "GaugeBoardModel" "value" "[J", Cond.fieldLink RX2 27 "GaugeBoardModel" "swings" "[I", Cond.fieldLink RX2 30 "GaugeBoardModel" "marked" "[Z", Cond.fieldLink RX2 33 "GaugeBoardModel" "high" "[J", Cond.fieldLink RX2 13 "GaugeBoardModel" "kind" "[I", Cond.fieldLink RX2 36 "GaugeBoardModel" "low" "[J", Cond.methodLink RX2 109 yX2_done, Cond.instanceMethod yX2_done, Cond.selects RX2 yX2_done yX2_done, Cond.initialized RX2, Cond.code yX2_done cX2_done 8 (some .long), Cond.fieldLink RX2 42 "GaugeBoardModel" "operandOf" "[I", Cond.fieldLink RX2 45 "GaugeBoardModel" "bitsOf" "[J", Cond.fieldLink RX2 48 "GaugeBoardModel" "gaugeOf" "[I", Cond.fieldLink RX2 39 "GaugeBoardModel" "sortOf" "[I", Cond.methodLink RX2 84 yX2_sizeOf, Cond.static yX2_sizeOf, Cond.code yX2_sizeOf cX2_sizeOf 3 (some .long), Cond.constantLong RX2 63 (-2147483648), Cond.constantLong RX2 55 (2147483647), Cond.constantLong RX2 59 (9223372036854775807), Cond.methodLink RX2 95 yX2_isAbove]
def wsX2_comes_r2 : List Cond := [Cond.static yX2_isAbove, Cond.code yX2_isAbove cX2_isAbove 5 (some .boolean), Cond.methodLink RX2 69 yX2_keyOf, Cond.static yX2_keyOf, Cond.code yX2_keyOf cX2_keyOf 3 (some .long), Cond.methodLink RX2 99 yX2_shown, Cond.static yX2_shown, Cond.code yX2_shown cX2_shown 3 (some .long), Cond.constantLong RX2 76 (-1082130432), Cond.constantLong RX2 78 (1065353216), Cond.constantLong RX2 80 (-4616189618054758400), Cond.constantLong RX2 82 (4607182418800017408), Cond.methodLink RX2 73 yX2_isZero, Cond.static yX2_isZero, Cond.code yX2_isZero cX2_isZero 3 (some .boolean), Cond.methodLink RX2 102 yX2_like, Cond.static yX2_like, Cond.code yX2_like cX2_like 7 (some .long), Cond.constantLong RX2 87 (2147483648), Cond.constantLong RX2 89 (-9223372036854775808), Cond.methodLink RX2 106 yX2_wholeOf, Cond.static yX2_wholeOf, Cond.code yX2_wholeOf cX2_wholeOf 17 (some .long), Cond.constantLong RX2 91 (4602678819172646912)]
def wsX2_comes_r3 : List Cond := [Cond.constantLong RX2 93 (2)]
def wsX2_comes : List Cond := .code yX2_comes cX2_comes 7 (some .long) :: ((wsX2_comes_r1 ++ (wsX2_comes_r2 ++ wsX2_comes_r3)) ++ wsX20)
def wsX2_top : List Cond := .code yX2_top cX2_top 3 (some .int) :: ([])
def wsX2_nearest : List Cond := .code yX2_nearest cX2_nearest 12 (some .long) :: ([.methodLink RX2 113 yX2_top, .static yX2_top, .initialized RX2, .code yX2_top cX2_top 3 (some .int)])
def wsX2_asSingle : List Cond := .code yX2_asSingle cX2_asSingle 4 (some .long) :: ([.constantLong RX2 87 (2147483648), .methodLink RX2 117 yX2_nearest, .static yX2_nearest, .initialized RX2, .code yX2_nearest cX2_nearest 12 (some .long), .methodLink RX2 113 yX2_top, .static yX2_top, .code yX2_top cX2_top 3 (some .int)])
def wsX2_asDouble : List Cond := .code yX2_asDouble cX2_asDouble 4 (some .long) :: ([.constantLong RX2 89 (-9223372036854775808), .methodLink RX2 117 yX2_nearest, .static yX2_nearest, .initialized RX2, .code yX2_nearest cX2_nearest 12 (some .long), .methodLink RX2 113 yX2_top, .static yX2_top, .code yX2_top cX2_top 3 (some .int)])
def wsX2_widened : List Cond := .code yX2_widened cX2_widened 11 (some .long) :: ([.constantLong RX2 55 (2147483647), .constantLong RX2 89 (-9223372036854775808), .constantLong RX2 121 (8388607), .constantLong RX2 123 (255), .constantLong RX2 61 (9218868437227405312), .constantLong RX2 125 (896), .constantLong RX2 127 (4503599627370496), .methodLink RX2 113 yX2_top, .static yX2_top, .initialized RX2, .code yX2_top cX2_top 3 (some .int)])
def wsX2_handed : List Cond := .code yX2_handed cX2_handed 4 (some .long) :: ([.methodLink RX2 129 yX2_widened, .static yX2_widened, .initialized RX2, .code yX2_widened cX2_widened 11 (some .long), .constantLong RX2 55 (2147483647), .constantLong RX2 89 (-9223372036854775808), .constantLong RX2 121 (8388607), .constantLong RX2 123 (255), .constantLong RX2 61 (9218868437227405312), .constantLong RX2 125 (896), .constantLong RX2 127 (4503599627370496), .methodLink RX2 113 yX2_top, .static yX2_top, .code yX2_top cX2_top 3 (some .int), .methodLink RX2 133 yX2_asSingle, .static yX2_asSingle, .code yX2_asSingle cX2_asSingle 4 (some .long), .constantLong RX2 87 (2147483648), .methodLink RX2 117 yX2_nearest, .static yX2_nearest, .code yX2_nearest cX2_nearest 12 (some .long), .methodLink RX2 136 yX2_asDouble, .static yX2_asDouble, .code yX2_asDouble cX2_asDouble 4 (some .long)])
def wsX2_takersIn : List Cond := .code yX2_takersIn cX2_takersIn 5 (some .int) :: ([.fieldLink RX2 21 "GaugeBoardModel" "steps" "[I", .fieldLink RX2 42 "GaugeBoardModel" "operandOf" "[I", .fieldLink RX2 48 "GaugeBoardModel" "gaugeOf" "[I"] ++ wsX20)
def wsX2_takers : List Cond := .code yX2_takers cX2_takers 4 (some .int) :: ([.fieldLink RX2 7 "GaugeBoardModel" "there" "[Z", .methodLink RX2 146 yX2_takersIn, .instanceMethod yX2_takersIn, .selects RX2 yX2_takersIn yX2_takersIn, .initialized RX2, .code yX2_takersIn cX2_takersIn 5 (some .int), .fieldLink RX2 21 "GaugeBoardModel" "steps" "[I", .fieldLink RX2 42 "GaugeBoardModel" "operandOf" "[I", .fieldLink RX2 48 "GaugeBoardModel" "gaugeOf" "[I"] ++ wsX20)
def wsX2_ownTakers : List Cond := .code yX2_ownTakers cX2_ownTakers 2 (some .int) :: ([.methodLink RX2 146 yX2_takersIn, .instanceMethod yX2_takersIn, .selects RX2 yX2_takersIn yX2_takersIn, .initialized RX2, .code yX2_takersIn cX2_takersIn 5 (some .int), .fieldLink RX2 21 "GaugeBoardModel" "steps" "[I", .fieldLink RX2 42 "GaugeBoardModel" "operandOf" "[I", .fieldLink RX2 48 "GaugeBoardModel" "gaugeOf" "[I"] ++ wsX20)
def wsX2_fit : List Cond := .code yX2_fit cX2_fit 4 (some .boolean) :: ([.fieldLink RX2 51 "GaugeBoardModel" "thrown" "I", .fieldLink RX2 7 "GaugeBoardModel" "there" "[Z", .fieldLink RX2 13 "GaugeBoardModel" "kind" "[I", .fieldLink RX2 17 "GaugeBoardModel" "value" "[J", .fieldLink RX2 21 "GaugeBoardModel" "steps" "[I", .fieldLink RX2 24 "GaugeBoardModel" "readings" "[I", .fieldLink RX2 27 "GaugeBoardModel" "swings" "[I", .fieldLink RX2 30 "GaugeBoardModel" "marked" "[Z", .methodLink RX2 139 yX2_takers, .instanceMethod yX2_takers, .selects RX2 yX2_takers yX2_takers, .initialized RX2, .code yX2_takers cX2_takers 4 (some .int), .methodLink RX2 146 yX2_takersIn, .instanceMethod yX2_takersIn, .selects RX2 yX2_takersIn yX2_takersIn, .code yX2_takersIn cX2_takersIn 5 (some .int), .fieldLink RX2 42 "GaugeBoardModel" "operandOf" "[I", .fieldLink RX2 48 "GaugeBoardModel" "gaugeOf" "[I", .methodLink RX2 143 yX2_ownTakers, .instanceMethod yX2_ownTakers, .selects RX2 yX2_ownTakers yX2_ownTakers, .code yX2_ownTakers cX2_ownTakers 2 (some .int)] ++ wsX20)
def wsX2_adds : List Cond := .code yX2_adds cX2_adds 8 (some .int) :: ([.fieldLink RX2 21 "GaugeBoardModel" "steps" "[I", .fieldLink RX2 51 "GaugeBoardModel" "thrown" "I", .fieldLink RX2 39 "GaugeBoardModel" "sortOf" "[I", .fieldLink RX2 42 "GaugeBoardModel" "operandOf" "[I", .fieldLink RX2 45 "GaugeBoardModel" "bitsOf" "[J", .fieldLink RX2 48 "GaugeBoardModel" "gaugeOf" "[I"] ++ wsX20)
def wsX2_step : List Cond := .code yX2_step cX2_step 3 (some .int) :: ([.fieldLink RX2 13 "GaugeBoardModel" "kind" "[I", .fieldLink RX2 51 "GaugeBoardModel" "thrown" "I", .methodLink RX2 150 yX2_isThere, .instanceMethod yX2_isThere, .selects RX2 yX2_isThere yX2_isThere, .initialized RX2, .code yX2_isThere cX2_isThere 2 (some .boolean), .fieldLink RX2 7 "GaugeBoardModel" "there" "[Z", .methodLink RX2 154 yX2_has, .static yX2_has, .code yX2_has cX2_has 2 (some .boolean), .methodLink RX2 158 yX2_wants, .static yX2_wants, .code yX2_wants cX2_wants 1 (some .boolean), .methodLink RX2 161 yX2_adds, .instanceMethod yX2_adds, .selects RX2 yX2_adds yX2_adds, .code yX2_adds cX2_adds 8 (some .int), .fieldLink RX2 21 "GaugeBoardModel" "steps" "[I", .fieldLink RX2 39 "GaugeBoardModel" "sortOf" "[I", .fieldLink RX2 42 "GaugeBoardModel" "operandOf" "[I", .fieldLink RX2 45 "GaugeBoardModel" "bitsOf" "[J", .fieldLink RX2 48 "GaugeBoardModel" "gaugeOf" "[I"] ++ wsX20)
def wsX2_stepBy_r1 : List Cond := [Cond.fieldLink RX2 13 "GaugeBoardModel" "kind" "[I", Cond.fieldLink RX2 51 "GaugeBoardModel" "thrown" "I", Cond.methodLink RX2 150 yX2_isThere, Cond.instanceMethod yX2_isThere, Cond.selects RX2 yX2_isThere yX2_isThere, Cond.initialized RX2, Cond.code yX2_isThere cX2_isThere 2 (some .boolean), Cond.fieldLink RX2 7 "GaugeBoardModel" "there" "[Z", Cond.methodLink RX2 154 yX2_has, Cond.static yX2_has, Cond.code yX2_has cX2_has 2 (some .boolean), Cond.methodLink RX2 158 yX2_wants, Cond.static yX2_wants, Cond.code yX2_wants cX2_wants 1 (some .boolean), Cond.methodLink RX2 165 yX2_isGood, Cond.static yX2_isGood, Cond.code yX2_isGood cX2_isGood 3 (some .boolean), Cond.constantLong RX2 63 (-2147483648), Cond.constantLong RX2 55 (2147483647), Cond.methodLink RX2 65 yX2_isNone, Cond.static yX2_isNone, Cond.code yX2_isNone cX2_isNone 3 (some .boolean), Cond.constantLong RX2 57 (2139095040), Cond.constantLong RX2 59 (9223372036854775807)]
def wsX2_stepBy_r2 : List Cond := [Cond.constantLong RX2 61 (9218868437227405312), Cond.methodLink RX2 161 yX2_adds, Cond.instanceMethod yX2_adds, Cond.selects RX2 yX2_adds yX2_adds, Cond.code yX2_adds cX2_adds 8 (some .int), Cond.fieldLink RX2 21 "GaugeBoardModel" "steps" "[I", Cond.fieldLink RX2 39 "GaugeBoardModel" "sortOf" "[I", Cond.fieldLink RX2 42 "GaugeBoardModel" "operandOf" "[I", Cond.fieldLink RX2 45 "GaugeBoardModel" "bitsOf" "[J", Cond.fieldLink RX2 48 "GaugeBoardModel" "gaugeOf" "[I"]
def wsX2_stepBy : List Cond := .code yX2_stepBy cX2_stepBy 5 (some .int) :: ((wsX2_stepBy_r1 ++ wsX2_stepBy_r2) ++ wsX20)
def wsX2_stepOf : List Cond := .code yX2_stepOf cX2_stepOf 4 (some .int) :: ([.fieldLink RX2 13 "GaugeBoardModel" "kind" "[I", .fieldLink RX2 51 "GaugeBoardModel" "thrown" "I", .methodLink RX2 150 yX2_isThere, .instanceMethod yX2_isThere, .selects RX2 yX2_isThere yX2_isThere, .initialized RX2, .code yX2_isThere cX2_isThere 2 (some .boolean), .fieldLink RX2 7 "GaugeBoardModel" "there" "[Z", .methodLink RX2 154 yX2_has, .static yX2_has, .code yX2_has cX2_has 2 (some .boolean), .methodLink RX2 158 yX2_wants, .static yX2_wants, .code yX2_wants cX2_wants 1 (some .boolean), .methodLink RX2 161 yX2_adds, .instanceMethod yX2_adds, .selects RX2 yX2_adds yX2_adds, .code yX2_adds cX2_adds 8 (some .int), .fieldLink RX2 21 "GaugeBoardModel" "steps" "[I", .fieldLink RX2 39 "GaugeBoardModel" "sortOf" "[I", .fieldLink RX2 42 "GaugeBoardModel" "operandOf" "[I", .fieldLink RX2 45 "GaugeBoardModel" "bitsOf" "[J", .fieldLink RX2 48 "GaugeBoardModel" "gaugeOf" "[I"] ++ wsX20)
def wsX2_bare : List Cond := .code yX2_bare cX2_bare 3 (some .int) :: ([.fieldLink RX2 51 "GaugeBoardModel" "thrown" "I", .fieldLink RX2 21 "GaugeBoardModel" "steps" "[I", .methodLink RX2 150 yX2_isThere, .instanceMethod yX2_isThere, .selects RX2 yX2_isThere yX2_isThere, .initialized RX2, .code yX2_isThere cX2_isThere 2 (some .boolean), .fieldLink RX2 7 "GaugeBoardModel" "there" "[Z"] ++ wsX20)
def wsX2_read_r1 : List Cond := [Cond.fieldLink RX2 13 "GaugeBoardModel" "kind" "[I", Cond.fieldLink RX2 51 "GaugeBoardModel" "thrown" "I", Cond.methodLink RX2 150 yX2_isThere, Cond.instanceMethod yX2_isThere, Cond.selects RX2 yX2_isThere yX2_isThere, Cond.initialized RX2, Cond.code yX2_isThere cX2_isThere 2 (some .boolean), Cond.fieldLink RX2 7 "GaugeBoardModel" "there" "[Z", Cond.methodLink RX2 165 yX2_isGood, Cond.static yX2_isGood, Cond.code yX2_isGood cX2_isGood 3 (some .boolean), Cond.constantLong RX2 63 (-2147483648), Cond.constantLong RX2 55 (2147483647), Cond.methodLink RX2 65 yX2_isNone, Cond.static yX2_isNone, Cond.code yX2_isNone cX2_isNone 3 (some .boolean), Cond.constantLong RX2 57 (2139095040), Cond.constantLong RX2 59 (9223372036854775807), Cond.constantLong RX2 61 (9218868437227405312), Cond.methodLink RX2 168 yX2_comes, Cond.instanceMethod yX2_comes, Cond.selects RX2 yX2_comes yX2_comes, Cond.code yX2_comes cX2_comes 7 (some .long), Cond.fieldLink RX2 21 "GaugeBoardModel" "steps" "[I"]
def wsX2_read_r2 : List Cond := [Cond.fieldLink RX2 24 "GaugeBoardModel" "readings" "[I", Cond.fieldLink RX2 17 "GaugeBoardModel" "value" "[J", Cond.fieldLink RX2 27 "GaugeBoardModel" "swings" "[I", Cond.fieldLink RX2 30 "GaugeBoardModel" "marked" "[Z", Cond.fieldLink RX2 33 "GaugeBoardModel" "high" "[J", Cond.fieldLink RX2 36 "GaugeBoardModel" "low" "[J", Cond.methodLink RX2 109 yX2_done, Cond.instanceMethod yX2_done, Cond.selects RX2 yX2_done yX2_done, Cond.code yX2_done cX2_done 8 (some .long), Cond.fieldLink RX2 42 "GaugeBoardModel" "operandOf" "[I", Cond.fieldLink RX2 45 "GaugeBoardModel" "bitsOf" "[J", Cond.fieldLink RX2 48 "GaugeBoardModel" "gaugeOf" "[I", Cond.fieldLink RX2 39 "GaugeBoardModel" "sortOf" "[I", Cond.methodLink RX2 84 yX2_sizeOf, Cond.static yX2_sizeOf, Cond.code yX2_sizeOf cX2_sizeOf 3 (some .long), Cond.methodLink RX2 95 yX2_isAbove, Cond.static yX2_isAbove, Cond.code yX2_isAbove cX2_isAbove 5 (some .boolean), Cond.methodLink RX2 69 yX2_keyOf, Cond.static yX2_keyOf, Cond.code yX2_keyOf cX2_keyOf 3 (some .long), Cond.methodLink RX2 99 yX2_shown]
def wsX2_read_r3 : List Cond := [Cond.static yX2_shown, Cond.code yX2_shown cX2_shown 3 (some .long), Cond.constantLong RX2 76 (-1082130432), Cond.constantLong RX2 78 (1065353216), Cond.constantLong RX2 80 (-4616189618054758400), Cond.constantLong RX2 82 (4607182418800017408), Cond.methodLink RX2 73 yX2_isZero, Cond.static yX2_isZero, Cond.code yX2_isZero cX2_isZero 3 (some .boolean), Cond.methodLink RX2 102 yX2_like, Cond.static yX2_like, Cond.code yX2_like cX2_like 7 (some .long), Cond.constantLong RX2 87 (2147483648), Cond.constantLong RX2 89 (-9223372036854775808), Cond.methodLink RX2 106 yX2_wholeOf, Cond.static yX2_wholeOf, Cond.code yX2_wholeOf cX2_wholeOf 17 (some .long), Cond.constantLong RX2 91 (4602678819172646912), Cond.constantLong RX2 93 (2)]
def wsX2_read : List Cond := .code yX2_read cX2_read 4 (some .long) :: ((wsX2_read_r1 ++ (wsX2_read_r2 ++ wsX2_read_r3)) ++ wsX20)
def wsX2_hand_r1 : List Cond := [Cond.fieldLink RX2 51 "GaugeBoardModel" "thrown" "I", Cond.fieldLink RX2 13 "GaugeBoardModel" "kind" "[I", Cond.fieldLink RX2 17 "GaugeBoardModel" "value" "[J", Cond.methodLink RX2 150 yX2_isThere, Cond.instanceMethod yX2_isThere, Cond.selects RX2 yX2_isThere yX2_isThere, Cond.initialized RX2, Cond.code yX2_isThere cX2_isThere 2 (some .boolean), Cond.fieldLink RX2 7 "GaugeBoardModel" "there" "[Z", Cond.methodLink RX2 172 yX2_handed, Cond.static yX2_handed, Cond.code yX2_handed cX2_handed 4 (some .long), Cond.methodLink RX2 129 yX2_widened, Cond.static yX2_widened, Cond.code yX2_widened cX2_widened 11 (some .long), Cond.constantLong RX2 55 (2147483647), Cond.constantLong RX2 89 (-9223372036854775808), Cond.constantLong RX2 121 (8388607), Cond.constantLong RX2 123 (255), Cond.constantLong RX2 61 (9218868437227405312), Cond.constantLong RX2 125 (896), Cond.constantLong RX2 127 (4503599627370496), Cond.methodLink RX2 113 yX2_top, Cond.static yX2_top]
def wsX2_hand_r2 : List Cond := [Cond.code yX2_top cX2_top 3 (some .int), Cond.methodLink RX2 133 yX2_asSingle, Cond.static yX2_asSingle, Cond.code yX2_asSingle cX2_asSingle 4 (some .long), Cond.constantLong RX2 87 (2147483648), Cond.methodLink RX2 117 yX2_nearest, Cond.static yX2_nearest, Cond.code yX2_nearest cX2_nearest 12 (some .long), Cond.methodLink RX2 136 yX2_asDouble, Cond.static yX2_asDouble, Cond.code yX2_asDouble cX2_asDouble 4 (some .long), Cond.methodLink RX2 168 yX2_comes, Cond.instanceMethod yX2_comes, Cond.selects RX2 yX2_comes yX2_comes, Cond.code yX2_comes cX2_comes 7 (some .long), Cond.fieldLink RX2 21 "GaugeBoardModel" "steps" "[I", Cond.fieldLink RX2 24 "GaugeBoardModel" "readings" "[I", Cond.fieldLink RX2 27 "GaugeBoardModel" "swings" "[I", Cond.fieldLink RX2 30 "GaugeBoardModel" "marked" "[Z", Cond.fieldLink RX2 33 "GaugeBoardModel" "high" "[J", Cond.fieldLink RX2 36 "GaugeBoardModel" "low" "[J", Cond.methodLink RX2 109 yX2_done, Cond.instanceMethod yX2_done, Cond.selects RX2 yX2_done yX2_done]
def wsX2_hand_r3 : List Cond := [Cond.code yX2_done cX2_done 8 (some .long), Cond.fieldLink RX2 42 "GaugeBoardModel" "operandOf" "[I", Cond.fieldLink RX2 45 "GaugeBoardModel" "bitsOf" "[J", Cond.fieldLink RX2 48 "GaugeBoardModel" "gaugeOf" "[I", Cond.fieldLink RX2 39 "GaugeBoardModel" "sortOf" "[I", Cond.methodLink RX2 84 yX2_sizeOf, Cond.static yX2_sizeOf, Cond.code yX2_sizeOf cX2_sizeOf 3 (some .long), Cond.constantLong RX2 63 (-2147483648), Cond.constantLong RX2 59 (9223372036854775807), Cond.methodLink RX2 95 yX2_isAbove, Cond.static yX2_isAbove, Cond.code yX2_isAbove cX2_isAbove 5 (some .boolean), Cond.methodLink RX2 69 yX2_keyOf, Cond.static yX2_keyOf, Cond.code yX2_keyOf cX2_keyOf 3 (some .long), Cond.methodLink RX2 99 yX2_shown, Cond.static yX2_shown, Cond.code yX2_shown cX2_shown 3 (some .long), Cond.constantLong RX2 76 (-1082130432), Cond.constantLong RX2 78 (1065353216), Cond.constantLong RX2 80 (-4616189618054758400), Cond.constantLong RX2 82 (4607182418800017408), Cond.methodLink RX2 73 yX2_isZero]
def wsX2_hand_r4 : List Cond := [Cond.static yX2_isZero, Cond.code yX2_isZero cX2_isZero 3 (some .boolean), Cond.methodLink RX2 102 yX2_like, Cond.static yX2_like, Cond.code yX2_like cX2_like 7 (some .long), Cond.methodLink RX2 106 yX2_wholeOf, Cond.static yX2_wholeOf, Cond.code yX2_wholeOf cX2_wholeOf 17 (some .long), Cond.constantLong RX2 91 (4602678819172646912), Cond.constantLong RX2 93 (2)]
def wsX2_hand : List Cond := .code yX2_hand cX2_hand 3 (some .long) :: ((wsX2_hand_r1 ++ (wsX2_hand_r2 ++ (wsX2_hand_r3 ++ wsX2_hand_r4))) ++ wsX20)
def wsX2_clear : List Cond := .code yX2_clear cX2_clear 3 (some .boolean) :: ([.fieldLink RX2 51 "GaugeBoardModel" "thrown" "I", .fieldLink RX2 30 "GaugeBoardModel" "marked" "[Z", .methodLink RX2 150 yX2_isThere, .instanceMethod yX2_isThere, .selects RX2 yX2_isThere yX2_isThere, .initialized RX2, .code yX2_isThere cX2_isThere 2 (some .boolean), .fieldLink RX2 7 "GaugeBoardModel" "there" "[Z"] ++ wsX20)
def wsX2_value : List Cond := .code yX2_value cX2_value 2 (some .long) :: ([.fieldLink RX2 51 "GaugeBoardModel" "thrown" "I", .fieldLink RX2 17 "GaugeBoardModel" "value" "[J", .methodLink RX2 150 yX2_isThere, .instanceMethod yX2_isThere, .selects RX2 yX2_isThere yX2_isThere, .initialized RX2, .code yX2_isThere cX2_isThere 2 (some .boolean), .fieldLink RX2 7 "GaugeBoardModel" "there" "[Z"] ++ wsX20)
def wsX2_mark : List Cond := .code yX2_mark cX2_mark 3 (some .long) :: ([.fieldLink RX2 30 "GaugeBoardModel" "marked" "[Z", .fieldLink RX2 51 "GaugeBoardModel" "thrown" "I", .fieldLink RX2 33 "GaugeBoardModel" "high" "[J", .fieldLink RX2 36 "GaugeBoardModel" "low" "[J", .methodLink RX2 150 yX2_isThere, .instanceMethod yX2_isThere, .selects RX2 yX2_isThere yX2_isThere, .initialized RX2, .code yX2_isThere cX2_isThere 2 (some .boolean), .fieldLink RX2 7 "GaugeBoardModel" "there" "[Z"] ++ wsX20)
def wsX2_about : List Cond := .code yX2_about cX2_about 3 (some .int) :: ([.fieldLink RX2 51 "GaugeBoardModel" "thrown" "I", .fieldLink RX2 13 "GaugeBoardModel" "kind" "[I", .fieldLink RX2 21 "GaugeBoardModel" "steps" "[I", .fieldLink RX2 24 "GaugeBoardModel" "readings" "[I", .fieldLink RX2 27 "GaugeBoardModel" "swings" "[I", .fieldLink RX2 17 "GaugeBoardModel" "value" "[J", .methodLink RX2 150 yX2_isThere, .instanceMethod yX2_isThere, .selects RX2 yX2_isThere yX2_isThere, .initialized RX2, .code yX2_isThere cX2_isThere 2 (some .boolean), .fieldLink RX2 7 "GaugeBoardModel" "there" "[Z", .methodLink RX2 139 yX2_takers, .instanceMethod yX2_takers, .selects RX2 yX2_takers yX2_takers, .code yX2_takers cX2_takers 4 (some .int), .methodLink RX2 146 yX2_takersIn, .instanceMethod yX2_takersIn, .selects RX2 yX2_takersIn yX2_takersIn, .code yX2_takersIn cX2_takersIn 5 (some .int), .fieldLink RX2 42 "GaugeBoardModel" "operandOf" "[I", .fieldLink RX2 48 "GaugeBoardModel" "gaugeOf" "[I"] ++ wsX20)
def wsX2_stepAt : List Cond := .code yX2_stepAt cX2_stepAt 5 (some .int) :: ([.fieldLink RX2 21 "GaugeBoardModel" "steps" "[I", .fieldLink RX2 51 "GaugeBoardModel" "thrown" "I", .fieldLink RX2 39 "GaugeBoardModel" "sortOf" "[I", .fieldLink RX2 42 "GaugeBoardModel" "operandOf" "[I", .fieldLink RX2 48 "GaugeBoardModel" "gaugeOf" "[I", .methodLink RX2 150 yX2_isThere, .instanceMethod yX2_isThere, .selects RX2 yX2_isThere yX2_isThere, .initialized RX2, .code yX2_isThere cX2_isThere 2 (some .boolean), .fieldLink RX2 7 "GaugeBoardModel" "there" "[Z"] ++ wsX20)
def wsX2_rank : List Cond := .code yX2_rank cX2_rank 4 (some .int) :: ([.fieldLink RX2 51 "GaugeBoardModel" "thrown" "I", .fieldLink RX2 7 "GaugeBoardModel" "there" "[Z", .fieldLink RX2 13 "GaugeBoardModel" "kind" "[I", .fieldLink RX2 17 "GaugeBoardModel" "value" "[J", .methodLink RX2 150 yX2_isThere, .instanceMethod yX2_isThere, .selects RX2 yX2_isThere yX2_isThere, .initialized RX2, .code yX2_isThere cX2_isThere 2 (some .boolean), .methodLink RX2 95 yX2_isAbove, .static yX2_isAbove, .code yX2_isAbove cX2_isAbove 5 (some .boolean), .methodLink RX2 69 yX2_keyOf, .static yX2_keyOf, .code yX2_keyOf cX2_keyOf 3 (some .long), .constantLong RX2 55 (2147483647), .constantLong RX2 59 (9223372036854775807)] ++ wsX20)
def wsX2_most : List Cond := .code yX2_most cX2_most 6 (some .long) :: ([.fieldLink RX2 51 "GaugeBoardModel" "thrown" "I", .fieldLink RX2 7 "GaugeBoardModel" "there" "[Z", .fieldLink RX2 13 "GaugeBoardModel" "kind" "[I", .fieldLink RX2 17 "GaugeBoardModel" "value" "[J", .methodLink RX2 95 yX2_isAbove, .static yX2_isAbove, .initialized RX2, .code yX2_isAbove cX2_isAbove 5 (some .boolean), .methodLink RX2 69 yX2_keyOf, .static yX2_keyOf, .code yX2_keyOf cX2_keyOf 3 (some .long), .constantLong RX2 55 (2147483647), .constantLong RX2 59 (9223372036854775807)] ++ wsX20)
def wsX2_gauges : List Cond := .code yX2_gauges cX2_gauges 3 (some .int) :: ([.fieldLink RX2 51 "GaugeBoardModel" "thrown" "I", .fieldLink RX2 7 "GaugeBoardModel" "there" "[Z"] ++ wsX20)
def wsL_fit_r1 : List Cond := [Cond.classLink RL 13 "java/util/NoSuchElementException", Cond.classLink RL 15 "java/lang/IllegalArgumentException", Cond.classLink RL 17 "java/lang/IllegalStateException", Cond.methodLink RL 7 yX1_fit, Cond.instanceMethod yX1_fit, Cond.selects RX1 yX1_fit yX1_fit, Cond.initialized RX1, Cond.code yX1_fit cX1_fit 4 (some .boolean), Cond.classLink RX1 19 "java/util/NoSuchElementException", Cond.initialized "java/util/NoSuchElementException", Cond.classLink RX1 47 "java/lang/IllegalStateException", Cond.initialized "java/lang/IllegalStateException", Cond.fieldLink RX1 11 "GaugeBoard" "places" "[LGaugeBoard$Gauge;", Cond.classLink RX1 9 RX0, Cond.instantiable RX0 11, Cond.initialized RX0, Cond.methodLink RX1 15 yX1_isPlace, Cond.static yX1_isPlace, Cond.code yX1_isPlace cX1_isPlace 1 (some .boolean), Cond.methodLink RX1 26 yX1_needKind, Cond.static yX1_needKind, Cond.code yX1_needKind cX1_needKind 1 none, Cond.classLink RX1 70 "java/lang/IllegalArgumentException", Cond.initialized "java/lang/IllegalArgumentException"]
def wsL_fit_r2 : List Cond := [Cond.methodLink RX1 30 yX1_gaugeAt, Cond.instanceMethod yX1_gaugeAt, Cond.selects RX1 yX1_gaugeAt yX1_gaugeAt, Cond.code yX1_gaugeAt cX1_gaugeAt 2 (some (.object "GaugeBoard$Gauge")), Cond.instanceMethod yX0_init, Cond.code yX0_init cX0_init 2 none, Cond.methodLink RX0 3 objectInit, Cond.instanceMethod objectInit, Cond.code objectInit ⟨#[0xb1]⟩ 1 none, Cond.arrayClass .int, Cond.fieldLink RX0 9 "GaugeBoard$Gauge" "sorts" "[I", Cond.fieldLink RX0 15 "GaugeBoard$Gauge" "sources" "[I", Cond.arrayClass .long, Cond.fieldLink RX0 18 "GaugeBoard$Gauge" "operands" "[J", Cond.fieldLink RX0 22 "GaugeBoard$Gauge" "kind" "I", Cond.methodLink RX1 40 yX1_stepsTaking, Cond.instanceMethod yX1_stepsTaking, Cond.selects RX1 yX1_stepsTaking yX1_stepsTaking, Cond.code yX1_stepsTaking cX1_stepsTaking 5 (some .int), Cond.instanceMethod yX0_ownStepsTaking, Cond.selects RX0 yX0_ownStepsTaking yX0_ownStepsTaking, Cond.code yX0_ownStepsTaking cX0_ownStepsTaking 4 (some .int), Cond.fieldLink RX0 26 "GaugeBoard$Gauge" "stepCount" "I", Cond.instanceMethod yX0_startAs]
def wsL_fit_r3 : List Cond := [Cond.selects RX0 yX0_startAs yX0_startAs, Cond.code yX0_startAs cX0_startAs 2 none, Cond.fieldLink RX0 29 "GaugeBoard$Gauge" "value" "J", Cond.fieldLink RX0 33 "GaugeBoard$Gauge" "marked" "Z", Cond.fieldLink RX0 37 "GaugeBoard$Gauge" "readings" "I", Cond.fieldLink RX0 40 "GaugeBoard$Gauge" "swings" "I"]
def wsL_fit : List Cond := .codeWith yL_fit cL_fit 5 (some .int) [(0, 17, 20, 13), (0, 17, 24, 15), (0, 17, 28, 17)] :: ((wsL_fit_r1 ++ (wsL_fit_r2 ++ wsL_fit_r3)) ++ wsX10 ++ wsX00 ++ (vy_atS RX1 23 "java/util/NoSuchElementException" 13 prog_11_method_4_code "java/lang/RuntimeException" ["java/lang/Exception"]).filter goodWord ++ (vx_atS RX1 51 "java/lang/IllegalStateException" ["java/lang/RuntimeException", "java/lang/Exception"]).filter goodWord ++ (vx_atS RX1 74 "java/lang/IllegalArgumentException" ["java/lang/RuntimeException", "java/lang/Exception"]).filter goodWord)
def wsL_step_r1 : List Cond := [Cond.classLink RL 13 "java/util/NoSuchElementException", Cond.classLink RL 15 "java/lang/IllegalArgumentException", Cond.classLink RL 17 "java/lang/IllegalStateException", Cond.methodLink RL 19 yX1_step, Cond.instanceMethod yX1_step, Cond.selects RX1 yX1_step yX1_step, Cond.initialized RX1, Cond.code yX1_step cX1_step 4 (some .int), Cond.methodLink RX1 55 yX1_needGauge, Cond.instanceMethod yX1_needGauge, Cond.selects RX1 yX1_needGauge yX1_needGauge, Cond.code yX1_needGauge cX1_needGauge 3 (some (.object "GaugeBoard$Gauge")), Cond.classLink RX1 19 "java/util/NoSuchElementException", Cond.initialized "java/util/NoSuchElementException", Cond.methodLink RX1 30 yX1_gaugeAt, Cond.instanceMethod yX1_gaugeAt, Cond.selects RX1 yX1_gaugeAt yX1_gaugeAt, Cond.code yX1_gaugeAt cX1_gaugeAt 2 (some (.object "GaugeBoard$Gauge")), Cond.fieldLink RX1 11 "GaugeBoard" "places" "[LGaugeBoard$Gauge;", Cond.methodLink RX1 15 yX1_isPlace, Cond.static yX1_isPlace, Cond.code yX1_isPlace cX1_isPlace 1 (some .boolean), Cond.methodLink RX1 58 yX1_needSort, Cond.static yX1_needSort]
def wsL_step_r2 : List Cond := [Cond.code yX1_needSort cX1_needSort 3 none, Cond.classLink RX1 70 "java/lang/IllegalArgumentException", Cond.initialized "java/lang/IllegalArgumentException", Cond.methodLink RX1 151 yX1_lastSort, Cond.static yX1_lastSort, Cond.code yX1_lastSort cX1_lastSort 1 (some .int), Cond.methodLink RX1 156 yX1_wantsOperand, Cond.static yX1_wantsOperand, Cond.code yX1_wantsOperand cX1_wantsOperand 1 (some .boolean), Cond.instanceMethod yX0_addStep, Cond.initialized RX0, Cond.selects RX0 yX0_addStep yX0_addStep, Cond.code yX0_addStep cX0_addStep 5 (some .int), Cond.classLink RX0 43 "java/lang/IllegalStateException", Cond.initialized "java/lang/IllegalStateException", Cond.fieldLink RX0 26 "GaugeBoard$Gauge" "stepCount" "I", Cond.fieldLink RX0 9 "GaugeBoard$Gauge" "sorts" "[I", Cond.fieldLink RX0 15 "GaugeBoard$Gauge" "sources" "[I", Cond.fieldLink RX0 18 "GaugeBoard$Gauge" "operands" "[J"]
def wsL_step : List Cond := .codeWith yL_step cL_step 5 (some .int) [(0, 10, 13, 13), (0, 10, 17, 15), (0, 10, 21, 17)] :: ((wsL_step_r1 ++ wsL_step_r2) ++ wsX00 ++ wsX10 ++ (vy_atS RX1 23 "java/util/NoSuchElementException" 13 prog_11_method_4_code "java/lang/RuntimeException" ["java/lang/Exception"]).filter goodWord ++ (vx_atS RX1 74 "java/lang/IllegalArgumentException" ["java/lang/RuntimeException", "java/lang/Exception"]).filter goodWord ++ (vx_atS RX0 47 "java/lang/IllegalStateException" ["java/lang/RuntimeException", "java/lang/Exception"]).filter goodWord)
def wsL_stepBy_r1 : List Cond := [Cond.classLink RL 13 "java/util/NoSuchElementException", Cond.classLink RL 15 "java/lang/IllegalArgumentException", Cond.classLink RL 17 "java/lang/IllegalStateException", Cond.methodLink RL 23 yX1_stepBy, Cond.instanceMethod yX1_stepBy, Cond.selects RX1 yX1_stepBy yX1_stepBy, Cond.initialized RX1, Cond.code yX1_stepBy cX1_stepBy 6 (some .int), Cond.methodLink RX1 55 yX1_needGauge, Cond.instanceMethod yX1_needGauge, Cond.selects RX1 yX1_needGauge yX1_needGauge, Cond.code yX1_needGauge cX1_needGauge 3 (some (.object "GaugeBoard$Gauge")), Cond.classLink RX1 19 "java/util/NoSuchElementException", Cond.initialized "java/util/NoSuchElementException", Cond.methodLink RX1 30 yX1_gaugeAt, Cond.instanceMethod yX1_gaugeAt, Cond.selects RX1 yX1_gaugeAt yX1_gaugeAt, Cond.code yX1_gaugeAt cX1_gaugeAt 2 (some (.object "GaugeBoard$Gauge")), Cond.fieldLink RX1 11 "GaugeBoard" "places" "[LGaugeBoard$Gauge;", Cond.methodLink RX1 15 yX1_isPlace, Cond.static yX1_isPlace, Cond.code yX1_isPlace cX1_isPlace 1 (some .boolean), Cond.methodLink RX1 58 yX1_needSort, Cond.static yX1_needSort]
def wsL_stepBy_r2 : List Cond := [Cond.code yX1_needSort cX1_needSort 3 none, Cond.classLink RX1 70 "java/lang/IllegalArgumentException", Cond.initialized "java/lang/IllegalArgumentException", Cond.methodLink RX1 151 yX1_lastSort, Cond.static yX1_lastSort, Cond.code yX1_lastSort cX1_lastSort 1 (some .int), Cond.methodLink RX1 156 yX1_wantsOperand, Cond.static yX1_wantsOperand, Cond.code yX1_wantsOperand cX1_wantsOperand 1 (some .boolean), Cond.methodLink RX1 66 yX1_needGood, Cond.static yX1_needGood, Cond.code yX1_needGood cX1_needGood 3 none, Cond.methodLink RX1 161 yX1_isGood, Cond.static yX1_isGood, Cond.code yX1_isGood cX1_isGood 3 (some .boolean), Cond.constantLong RX1 167 (9223372036854775807), Cond.constantLong RX1 169 (9218868437227405312), Cond.constantLong RX1 171 (-2147483648), Cond.constantLong RX1 173 (2147483647), Cond.constantLong RX1 175 (2139095040), Cond.instanceMethod yX0_addStep, Cond.initialized RX0, Cond.selects RX0 yX0_addStep yX0_addStep, Cond.code yX0_addStep cX0_addStep 5 (some .int)]
def wsL_stepBy_r3 : List Cond := [Cond.classLink RX0 43 "java/lang/IllegalStateException", Cond.initialized "java/lang/IllegalStateException", Cond.fieldLink RX0 26 "GaugeBoard$Gauge" "stepCount" "I", Cond.fieldLink RX0 9 "GaugeBoard$Gauge" "sorts" "[I", Cond.fieldLink RX0 15 "GaugeBoard$Gauge" "sources" "[I", Cond.fieldLink RX0 18 "GaugeBoard$Gauge" "operands" "[J"]
def wsL_stepBy : List Cond := .codeWith yL_stepBy cL_stepBy 7 (some .int) [(0, 12, 15, 13), (0, 12, 19, 15), (0, 12, 23, 17)] :: ((wsL_stepBy_r1 ++ (wsL_stepBy_r2 ++ wsL_stepBy_r3)) ++ wsX00 ++ wsX10 ++ (vy_atS RX1 23 "java/util/NoSuchElementException" 13 prog_11_method_4_code "java/lang/RuntimeException" ["java/lang/Exception"]).filter goodWord ++ (vx_atS RX1 74 "java/lang/IllegalArgumentException" ["java/lang/RuntimeException", "java/lang/Exception"]).filter goodWord ++ (vx_atS RX0 47 "java/lang/IllegalStateException" ["java/lang/RuntimeException", "java/lang/Exception"]).filter goodWord)
def wsL_stepOf_r1 : List Cond := [Cond.classLink RL 13 "java/util/NoSuchElementException", Cond.classLink RL 15 "java/lang/IllegalArgumentException", Cond.classLink RL 17 "java/lang/IllegalStateException", Cond.methodLink RL 27 yX1_stepOf, Cond.instanceMethod yX1_stepOf, Cond.selects RX1 yX1_stepOf yX1_stepOf, Cond.initialized RX1, Cond.code yX1_stepOf cX1_stepOf 6 (some .int), Cond.classLink RX1 70 "java/lang/IllegalArgumentException", Cond.initialized "java/lang/IllegalArgumentException", Cond.methodLink RX1 55 yX1_needGauge, Cond.instanceMethod yX1_needGauge, Cond.selects RX1 yX1_needGauge yX1_needGauge, Cond.code yX1_needGauge cX1_needGauge 3 (some (.object "GaugeBoard$Gauge")), Cond.classLink RX1 19 "java/util/NoSuchElementException", Cond.initialized "java/util/NoSuchElementException", Cond.methodLink RX1 30 yX1_gaugeAt, Cond.instanceMethod yX1_gaugeAt, Cond.selects RX1 yX1_gaugeAt yX1_gaugeAt, Cond.code yX1_gaugeAt cX1_gaugeAt 2 (some (.object "GaugeBoard$Gauge")), Cond.fieldLink RX1 11 "GaugeBoard" "places" "[LGaugeBoard$Gauge;", Cond.methodLink RX1 15 yX1_isPlace, Cond.static yX1_isPlace, Cond.code yX1_isPlace cX1_isPlace 1 (some .boolean)]
def wsL_stepOf_r2 : List Cond := [Cond.methodLink RX1 58 yX1_needSort, Cond.static yX1_needSort, Cond.code yX1_needSort cX1_needSort 3 none, Cond.methodLink RX1 151 yX1_lastSort, Cond.static yX1_lastSort, Cond.code yX1_lastSort cX1_lastSort 1 (some .int), Cond.methodLink RX1 156 yX1_wantsOperand, Cond.static yX1_wantsOperand, Cond.code yX1_wantsOperand cX1_wantsOperand 1 (some .boolean), Cond.instanceMethod yX0_addStep, Cond.initialized RX0, Cond.selects RX0 yX0_addStep yX0_addStep, Cond.code yX0_addStep cX0_addStep 5 (some .int), Cond.classLink RX0 43 "java/lang/IllegalStateException", Cond.initialized "java/lang/IllegalStateException", Cond.fieldLink RX0 26 "GaugeBoard$Gauge" "stepCount" "I", Cond.fieldLink RX0 9 "GaugeBoard$Gauge" "sorts" "[I", Cond.fieldLink RX0 15 "GaugeBoard$Gauge" "sources" "[I", Cond.fieldLink RX0 18 "GaugeBoard$Gauge" "operands" "[J"]
def wsL_stepOf : List Cond := .codeWith yL_stepOf cL_stepOf 6 (some .int) [(0, 12, 15, 13), (0, 12, 19, 15), (0, 12, 23, 17)] :: ((wsL_stepOf_r1 ++ wsL_stepOf_r2) ++ wsX00 ++ wsX10 ++ (vx_atS RX1 74 "java/lang/IllegalArgumentException" ["java/lang/RuntimeException", "java/lang/Exception"]).filter goodWord ++ (vy_atS RX1 23 "java/util/NoSuchElementException" 13 prog_11_method_4_code "java/lang/RuntimeException" ["java/lang/Exception"]).filter goodWord ++ (vx_atS RX0 47 "java/lang/IllegalStateException" ["java/lang/RuntimeException", "java/lang/Exception"]).filter goodWord)
def wsL_bare : List Cond := .codeWith yL_bare cL_bare 4 (some .int) [(0, 9, 12, 13)] :: ([.classLink RL 13 "java/util/NoSuchElementException", .methodLink RL 31 yX1_bare, .instanceMethod yX1_bare, .selects RX1 yX1_bare yX1_bare, .initialized RX1, .code yX1_bare cX1_bare 4 (some .int), .methodLink RX1 55 yX1_needGauge, .instanceMethod yX1_needGauge, .selects RX1 yX1_needGauge yX1_needGauge, .code yX1_needGauge cX1_needGauge 3 (some (.object "GaugeBoard$Gauge")), .classLink RX1 19 "java/util/NoSuchElementException", .initialized "java/util/NoSuchElementException", .methodLink RX1 30 yX1_gaugeAt, .instanceMethod yX1_gaugeAt, .selects RX1 yX1_gaugeAt yX1_gaugeAt, .code yX1_gaugeAt cX1_gaugeAt 2 (some (.object "GaugeBoard$Gauge")), .fieldLink RX1 11 "GaugeBoard" "places" "[LGaugeBoard$Gauge;", .methodLink RX1 15 yX1_isPlace, .static yX1_isPlace, .code yX1_isPlace cX1_isPlace 1 (some .boolean)] ++ wsX00 ++ wsX10 ++ (vy_atS RX1 23 "java/util/NoSuchElementException" 13 prog_11_method_4_code "java/lang/RuntimeException" ["java/lang/Exception"]).filter goodWord)
def wsL_read_r1 : List Cond := [Cond.classLink RL 13 "java/util/NoSuchElementException", Cond.classLink RL 15 "java/lang/IllegalArgumentException", Cond.methodLink RL 35 yX1_read, Cond.instanceMethod yX1_read, Cond.selects RX1 yX1_read yX1_read, Cond.initialized RX1, Cond.code yX1_read cX1_read 5 (some .long), Cond.methodLink RX1 55 yX1_needGauge, Cond.instanceMethod yX1_needGauge, Cond.selects RX1 yX1_needGauge yX1_needGauge, Cond.code yX1_needGauge cX1_needGauge 3 (some (.object "GaugeBoard$Gauge")), Cond.classLink RX1 19 "java/util/NoSuchElementException", Cond.initialized "java/util/NoSuchElementException", Cond.methodLink RX1 30 yX1_gaugeAt, Cond.instanceMethod yX1_gaugeAt, Cond.selects RX1 yX1_gaugeAt yX1_gaugeAt, Cond.code yX1_gaugeAt cX1_gaugeAt 2 (some (.object "GaugeBoard$Gauge")), Cond.fieldLink RX1 11 "GaugeBoard" "places" "[LGaugeBoard$Gauge;", Cond.methodLink RX1 15 yX1_isPlace, Cond.static yX1_isPlace, Cond.code yX1_isPlace cX1_isPlace 1 (some .boolean), Cond.methodLink RX1 66 yX1_needGood, Cond.static yX1_needGood, Cond.code yX1_needGood cX1_needGood 3 none]
def wsL_read_r2 : List Cond := [Cond.classLink RX1 70 "java/lang/IllegalArgumentException", Cond.initialized "java/lang/IllegalArgumentException", Cond.methodLink RX1 161 yX1_isGood, Cond.static yX1_isGood, Cond.code yX1_isGood cX1_isGood 3 (some .boolean), Cond.constantLong RX1 167 (9223372036854775807), Cond.constantLong RX1 169 (9218868437227405312), Cond.constantLong RX1 171 (-2147483648), Cond.constantLong RX1 173 (2147483647), Cond.constantLong RX1 175 (2139095040), Cond.methodLink RX1 78 yX1_takeReading, Cond.instanceMethod yX1_takeReading, Cond.selects RX1 yX1_takeReading yX1_takeReading, Cond.code yX1_takeReading cX1_takeReading 7 (some .long), Cond.methodLink RX1 184 yX1_operandOf, Cond.instanceMethod yX1_operandOf, Cond.selects RX1 yX1_operandOf yX1_operandOf, Cond.code yX1_operandOf cX1_operandOf 4 (some .long), Cond.methodLink RX1 188 yX1_afterStep, Cond.static yX1_afterStep, Cond.code yX1_afterStep cX1_afterStep 6 (some .long), Cond.methodLink RX1 200 yX1_sizeOf, Cond.static yX1_sizeOf, Cond.code yX1_sizeOf cX1_sizeOf 5 (some .long)]
def wsL_read_r3 : List Cond := [Cond.constantLong RX1 233 (-1), Cond.constantLong RX1 227 (-9223372036854775808), Cond.methodLink RX1 177 yX1_isReal, Cond.static yX1_isReal, Cond.code yX1_isReal cX1_isReal 1 (some .boolean), Cond.methodLink RX1 229 yX1_signBits, Cond.static yX1_signBits, Cond.code yX1_signBits cX1_signBits 1 (some .long), Cond.methodLink RX1 203 yX1_higher, Cond.static yX1_higher, Cond.code yX1_higher cX1_higher 5 (some .long), Cond.methodLink RX1 137 yX1_isAbove, Cond.static yX1_isAbove, Cond.code yX1_isAbove cX1_isAbove 5 (some .boolean), Cond.methodLink RX1 180 yX1_orderKey, Cond.static yX1_orderKey, Cond.code yX1_orderKey cX1_orderKey 3 (some .long), Cond.methodLink RX1 207 yX1_lower, Cond.static yX1_lower, Cond.code yX1_lower cX1_lower 5 (some .long), Cond.methodLink RX1 210 yX1_shown, Cond.static yX1_shown, Cond.code yX1_shown cX1_shown 3 (some .long), Cond.constantLong RX1 235 (1065353216)]
def wsL_read_r4 : List Cond := [Cond.constantLong RX1 237 (4607182418800017408), Cond.methodLink RX1 213 yX1_withSign, Cond.static yX1_withSign, Cond.code yX1_withSign cX1_withSign 4 (some .long), Cond.methodLink RX1 217 yX1_wholeAway, Cond.static yX1_wholeAway, Cond.code yX1_wholeAway cX1_wholeAway 2 (some .long), Cond.methodLink RX1 246 yX1_isWhole, Cond.static yX1_isWhole, Cond.code yX1_isWhole cX1_isWhole 2 (some .boolean), Cond.methodLink RX1 239 yX1_isBelowOne, Cond.static yX1_isBelowOne, Cond.code yX1_isBelowOne cX1_isBelowOne 2 (some .boolean), Cond.methodLink RX1 243 yX1_partMask, Cond.static yX1_partMask, Cond.code yX1_partMask cX1_partMask 3 (some .long), Cond.methodLink RX1 221 yX1_wholeToward, Cond.static yX1_wholeToward, Cond.code yX1_wholeToward cX1_wholeToward 2 (some .long), Cond.methodLink RX1 224 yX1_wholeNearest, Cond.static yX1_wholeNearest, Cond.code yX1_wholeNearest cX1_wholeNearest 6 (some .long), Cond.constantLong RX1 249 (4602678819172646912), Cond.constantLong RX1 251 (4503599627370496)]
def wsL_read_r5 : List Cond := [Cond.methodLink RX1 253 yX1_roundsAway, Cond.static yX1_roundsAway, Cond.code yX1_roundsAway cX1_roundsAway 9 (some .boolean), Cond.instanceMethod yX0_takeValue, Cond.initialized RX0, Cond.selects RX0 yX0_takeValue yX0_takeValue, Cond.code yX0_takeValue cX0_takeValue 3 none, Cond.fieldLink RX0 37 "GaugeBoard$Gauge" "readings" "I", Cond.fieldLink RX0 29 "GaugeBoard$Gauge" "value" "J", Cond.fieldLink RX0 40 "GaugeBoard$Gauge" "swings" "I", Cond.fieldLink RX0 33 "GaugeBoard$Gauge" "marked" "Z", Cond.fieldLink RX0 54 "GaugeBoard$Gauge" "high" "J", Cond.fieldLink RX0 22 "GaugeBoard$Gauge" "kind" "I", Cond.fieldLink RX0 61 "GaugeBoard$Gauge" "low" "J", Cond.static yX1_signOf, Cond.code yX1_signOf cX1_signOf 2 (some .int)]
def wsL_read : List Cond := .codeWith yL_read cL_read 6 (some .int) [(0, 10, 13, 13), (0, 10, 17, 15)] :: ((wsL_read_r1 ++ (wsL_read_r2 ++ (wsL_read_r3 ++ (wsL_read_r4 ++ wsL_read_r5)))) ++ wsX00 ++ wsX10 ++ (vy_atS RX1 23 "java/util/NoSuchElementException" 13 prog_11_method_4_code "java/lang/RuntimeException" ["java/lang/Exception"]).filter goodWord ++ (vx_atS RX1 74 "java/lang/IllegalArgumentException" ["java/lang/RuntimeException", "java/lang/Exception"]).filter goodWord)
def wsL_hand_r1 : List Cond := [Cond.classLink RL 13 "java/util/NoSuchElementException", Cond.classLink RL 15 "java/lang/IllegalArgumentException", Cond.methodLink RL 39 yX1_hand, Cond.instanceMethod yX1_hand, Cond.selects RX1 yX1_hand yX1_hand, Cond.initialized RX1, Cond.code yX1_hand cX1_hand 5 (some .long), Cond.classLink RX1 70 "java/lang/IllegalArgumentException", Cond.initialized "java/lang/IllegalArgumentException", Cond.methodLink RX1 55 yX1_needGauge, Cond.instanceMethod yX1_needGauge, Cond.selects RX1 yX1_needGauge yX1_needGauge, Cond.code yX1_needGauge cX1_needGauge 3 (some (.object "GaugeBoard$Gauge")), Cond.classLink RX1 19 "java/util/NoSuchElementException", Cond.initialized "java/util/NoSuchElementException", Cond.methodLink RX1 30 yX1_gaugeAt, Cond.instanceMethod yX1_gaugeAt, Cond.selects RX1 yX1_gaugeAt yX1_gaugeAt, Cond.code yX1_gaugeAt cX1_gaugeAt 2 (some (.object "GaugeBoard$Gauge")), Cond.fieldLink RX1 11 "GaugeBoard" "places" "[LGaugeBoard$Gauge;", Cond.methodLink RX1 15 yX1_isPlace, Cond.static yX1_isPlace, Cond.code yX1_isPlace cX1_isPlace 1 (some .boolean), Cond.methodLink RX1 84 yX1_canHandOn]
def wsL_hand_r2 : List Cond := [Cond.static yX1_canHandOn, Cond.code yX1_canHandOn cX1_canHandOn 2 (some .boolean), Cond.methodLink RX1 94 yX1_handedOn, Cond.static yX1_handedOn, Cond.code yX1_handedOn cX1_handedOn 4 (some .long), Cond.methodLink RX1 257 yX1_singleAsDouble, Cond.static yX1_singleAsDouble, Cond.code yX1_singleAsDouble cX1_singleAsDouble 2 (some .long), Cond.constantLong RX1 173 (2147483647), Cond.methodLink RX1 270 yX1_sizeAsDouble, Cond.static yX1_sizeAsDouble, Cond.code yX1_sizeAsDouble cX1_sizeAsDouble 4 (some .long), Cond.constantLong RX1 175 (2139095040), Cond.constantLong RX1 169 (9218868437227405312), Cond.constantLong RX1 273 (671036344478203904), Cond.constantLong RX1 275 (4035225266123964416), Cond.methodLink RX1 260 yX1_wholeAsReal, Cond.static yX1_wholeAsReal, Cond.code yX1_wholeAsReal cX1_wholeAsReal 14 (some .long), Cond.methodLink RX1 264 yX1_highestBit, Cond.static yX1_highestBit, Cond.code yX1_highestBit cX1_highestBit 3 (some .int), Cond.methodLink RX1 267 yX1_cutTo, Cond.static yX1_cutTo]
def wsL_hand_r3 : List Cond := [Cond.code yX1_cutTo cX1_cutTo 5 (some .long), Cond.methodLink RX1 253 yX1_roundsAway, Cond.static yX1_roundsAway, Cond.code yX1_roundsAway cX1_roundsAway 9 (some .boolean), Cond.methodLink RX1 213 yX1_withSign, Cond.static yX1_withSign, Cond.code yX1_withSign cX1_withSign 4 (some .long), Cond.methodLink RX1 229 yX1_signBits, Cond.static yX1_signBits, Cond.code yX1_signBits cX1_signBits 1 (some .long), Cond.constantLong RX1 171 (-2147483648), Cond.constantLong RX1 227 (-9223372036854775808), Cond.methodLink RX1 78 yX1_takeReading, Cond.instanceMethod yX1_takeReading, Cond.selects RX1 yX1_takeReading yX1_takeReading, Cond.code yX1_takeReading cX1_takeReading 7 (some .long), Cond.methodLink RX1 184 yX1_operandOf, Cond.instanceMethod yX1_operandOf, Cond.selects RX1 yX1_operandOf yX1_operandOf, Cond.code yX1_operandOf cX1_operandOf 4 (some .long), Cond.methodLink RX1 188 yX1_afterStep, Cond.static yX1_afterStep, Cond.code yX1_afterStep cX1_afterStep 6 (some .long), Cond.methodLink RX1 200 yX1_sizeOf]
def wsL_hand_r4 : List Cond := [Cond.static yX1_sizeOf, Cond.code yX1_sizeOf cX1_sizeOf 5 (some .long), Cond.constantLong RX1 233 (-1), Cond.methodLink RX1 177 yX1_isReal, Cond.static yX1_isReal, Cond.code yX1_isReal cX1_isReal 1 (some .boolean), Cond.methodLink RX1 203 yX1_higher, Cond.static yX1_higher, Cond.code yX1_higher cX1_higher 5 (some .long), Cond.methodLink RX1 137 yX1_isAbove, Cond.static yX1_isAbove, Cond.code yX1_isAbove cX1_isAbove 5 (some .boolean), Cond.methodLink RX1 180 yX1_orderKey, Cond.static yX1_orderKey, Cond.code yX1_orderKey cX1_orderKey 3 (some .long), Cond.constantLong RX1 167 (9223372036854775807), Cond.methodLink RX1 207 yX1_lower, Cond.static yX1_lower, Cond.code yX1_lower cX1_lower 5 (some .long), Cond.methodLink RX1 210 yX1_shown, Cond.static yX1_shown, Cond.code yX1_shown cX1_shown 3 (some .long), Cond.constantLong RX1 235 (1065353216), Cond.constantLong RX1 237 (4607182418800017408)]
def wsL_hand_r5 : List Cond := [Cond.methodLink RX1 217 yX1_wholeAway, Cond.static yX1_wholeAway, Cond.code yX1_wholeAway cX1_wholeAway 2 (some .long), Cond.methodLink RX1 246 yX1_isWhole, Cond.static yX1_isWhole, Cond.code yX1_isWhole cX1_isWhole 2 (some .boolean), Cond.methodLink RX1 239 yX1_isBelowOne, Cond.static yX1_isBelowOne, Cond.code yX1_isBelowOne cX1_isBelowOne 2 (some .boolean), Cond.methodLink RX1 243 yX1_partMask, Cond.static yX1_partMask, Cond.code yX1_partMask cX1_partMask 3 (some .long), Cond.methodLink RX1 221 yX1_wholeToward, Cond.static yX1_wholeToward, Cond.code yX1_wholeToward cX1_wholeToward 2 (some .long), Cond.methodLink RX1 224 yX1_wholeNearest, Cond.static yX1_wholeNearest, Cond.code yX1_wholeNearest cX1_wholeNearest 6 (some .long), Cond.constantLong RX1 249 (4602678819172646912), Cond.constantLong RX1 251 (4503599627370496), Cond.instanceMethod yX0_takeValue, Cond.initialized RX0, Cond.selects RX0 yX0_takeValue yX0_takeValue, Cond.code yX0_takeValue cX0_takeValue 3 none]
def wsL_hand_r6 : List Cond := [Cond.fieldLink RX0 37 "GaugeBoard$Gauge" "readings" "I", Cond.fieldLink RX0 29 "GaugeBoard$Gauge" "value" "J", Cond.fieldLink RX0 40 "GaugeBoard$Gauge" "swings" "I", Cond.fieldLink RX0 33 "GaugeBoard$Gauge" "marked" "Z", Cond.fieldLink RX0 54 "GaugeBoard$Gauge" "high" "J", Cond.fieldLink RX0 22 "GaugeBoard$Gauge" "kind" "I", Cond.fieldLink RX0 61 "GaugeBoard$Gauge" "low" "J", Cond.static yX1_signOf, Cond.code yX1_signOf cX1_signOf 2 (some .int)]
def wsL_hand : List Cond := .codeWith yL_hand cL_hand 5 (some .int) [(0, 9, 12, 13), (0, 9, 16, 15)] :: ((wsL_hand_r1 ++ (wsL_hand_r2 ++ (wsL_hand_r3 ++ (wsL_hand_r4 ++ (wsL_hand_r5 ++ wsL_hand_r6))))) ++ wsX00 ++ wsX10 ++ (vx_atS RX1 74 "java/lang/IllegalArgumentException" ["java/lang/RuntimeException", "java/lang/Exception"]).filter goodWord ++ (vy_atS RX1 23 "java/util/NoSuchElementException" 13 prog_11_method_4_code "java/lang/RuntimeException" ["java/lang/Exception"]).filter goodWord)
def wsL_clear : List Cond := .codeWith yL_clear cL_clear 4 (some .int) [(0, 16, 19, 13)] :: ([.classLink RL 13 "java/util/NoSuchElementException", .methodLink RL 43 yX1_clear, .instanceMethod yX1_clear, .selects RX1 yX1_clear yX1_clear, .initialized RX1, .code yX1_clear cX1_clear 4 (some .boolean), .methodLink RX1 55 yX1_needGauge, .instanceMethod yX1_needGauge, .selects RX1 yX1_needGauge yX1_needGauge, .code yX1_needGauge cX1_needGauge 3 (some (.object "GaugeBoard$Gauge")), .classLink RX1 19 "java/util/NoSuchElementException", .initialized "java/util/NoSuchElementException", .methodLink RX1 30 yX1_gaugeAt, .instanceMethod yX1_gaugeAt, .selects RX1 yX1_gaugeAt yX1_gaugeAt, .code yX1_gaugeAt cX1_gaugeAt 2 (some (.object "GaugeBoard$Gauge")), .fieldLink RX1 11 "GaugeBoard" "places" "[LGaugeBoard$Gauge;", .methodLink RX1 15 yX1_isPlace, .static yX1_isPlace, .code yX1_isPlace cX1_isPlace 1 (some .boolean)] ++ wsX00 ++ wsX10 ++ (vy_atS RX1 23 "java/util/NoSuchElementException" 13 prog_11_method_4_code "java/lang/RuntimeException" ["java/lang/Exception"]).filter goodWord)
def wsL_value : List Cond := .codeWith yL_value cL_value 4 (some .int) [(0, 8, 11, 13)] :: ([.classLink RL 13 "java/util/NoSuchElementException", .methodLink RL 47 yX1_value, .instanceMethod yX1_value, .selects RX1 yX1_value yX1_value, .initialized RX1, .code yX1_value cX1_value 2 (some .long), .methodLink RX1 55 yX1_needGauge, .instanceMethod yX1_needGauge, .selects RX1 yX1_needGauge yX1_needGauge, .code yX1_needGauge cX1_needGauge 3 (some (.object "GaugeBoard$Gauge")), .classLink RX1 19 "java/util/NoSuchElementException", .initialized "java/util/NoSuchElementException", .methodLink RX1 30 yX1_gaugeAt, .instanceMethod yX1_gaugeAt, .selects RX1 yX1_gaugeAt yX1_gaugeAt, .code yX1_gaugeAt cX1_gaugeAt 2 (some (.object "GaugeBoard$Gauge")), .fieldLink RX1 11 "GaugeBoard" "places" "[LGaugeBoard$Gauge;", .methodLink RX1 15 yX1_isPlace, .static yX1_isPlace, .code yX1_isPlace cX1_isPlace 1 (some .boolean)] ++ wsX00 ++ wsX10 ++ (vy_atS RX1 23 "java/util/NoSuchElementException" 13 prog_11_method_4_code "java/lang/RuntimeException" ["java/lang/Exception"]).filter goodWord)
def wsL_mark : List Cond := .codeWith yL_mark cL_mark 5 (some .int) [(0, 9, 12, 13), (0, 9, 16, 17)] :: ([.classLink RL 13 "java/util/NoSuchElementException", .classLink RL 17 "java/lang/IllegalStateException", .methodLink RL 51 yX1_mark, .instanceMethod yX1_mark, .selects RX1 yX1_mark yX1_mark, .initialized RX1, .code yX1_mark cX1_mark 4 (some .long), .classLink RX1 47 "java/lang/IllegalStateException", .initialized "java/lang/IllegalStateException", .methodLink RX1 55 yX1_needGauge, .instanceMethod yX1_needGauge, .selects RX1 yX1_needGauge yX1_needGauge, .code yX1_needGauge cX1_needGauge 3 (some (.object "GaugeBoard$Gauge")), .classLink RX1 19 "java/util/NoSuchElementException", .initialized "java/util/NoSuchElementException", .methodLink RX1 30 yX1_gaugeAt, .instanceMethod yX1_gaugeAt, .selects RX1 yX1_gaugeAt yX1_gaugeAt, .code yX1_gaugeAt cX1_gaugeAt 2 (some (.object "GaugeBoard$Gauge")), .fieldLink RX1 11 "GaugeBoard" "places" "[LGaugeBoard$Gauge;", .methodLink RX1 15 yX1_isPlace, .static yX1_isPlace, .code yX1_isPlace cX1_isPlace 1 (some .boolean)] ++ wsX00 ++ wsX10 ++ (vx_atS RX1 51 "java/lang/IllegalStateException" ["java/lang/RuntimeException", "java/lang/Exception"]).filter goodWord ++ (vy_atS RX1 23 "java/util/NoSuchElementException" 13 prog_11_method_4_code "java/lang/RuntimeException" ["java/lang/Exception"]).filter goodWord)
def wsL_about_r1 : List Cond := [Cond.classLink RL 13 "java/util/NoSuchElementException", Cond.classLink RL 15 "java/lang/IllegalArgumentException", Cond.methodLink RL 55 yX1_about, Cond.instanceMethod yX1_about, Cond.selects RX1 yX1_about yX1_about, Cond.initialized RX1, Cond.code yX1_about cX1_about 4 (some .int), Cond.classLink RX1 70 "java/lang/IllegalArgumentException", Cond.initialized "java/lang/IllegalArgumentException", Cond.methodLink RX1 55 yX1_needGauge, Cond.instanceMethod yX1_needGauge, Cond.selects RX1 yX1_needGauge yX1_needGauge, Cond.code yX1_needGauge cX1_needGauge 3 (some (.object "GaugeBoard$Gauge")), Cond.classLink RX1 19 "java/util/NoSuchElementException", Cond.initialized "java/util/NoSuchElementException", Cond.methodLink RX1 30 yX1_gaugeAt, Cond.instanceMethod yX1_gaugeAt, Cond.selects RX1 yX1_gaugeAt yX1_gaugeAt, Cond.code yX1_gaugeAt cX1_gaugeAt 2 (some (.object "GaugeBoard$Gauge")), Cond.fieldLink RX1 11 "GaugeBoard" "places" "[LGaugeBoard$Gauge;", Cond.methodLink RX1 15 yX1_isPlace, Cond.static yX1_isPlace, Cond.code yX1_isPlace cX1_isPlace 1 (some .boolean), Cond.methodLink RX1 116 yX1_signOf]
def wsL_about_r2 : List Cond := [Cond.static yX1_signOf, Cond.code yX1_signOf cX1_signOf 2 (some .int), Cond.methodLink RX1 40 yX1_stepsTaking, Cond.instanceMethod yX1_stepsTaking, Cond.selects RX1 yX1_stepsTaking yX1_stepsTaking, Cond.code yX1_stepsTaking cX1_stepsTaking 5 (some .int), Cond.instanceMethod yX0_ownStepsTaking, Cond.initialized RX0, Cond.selects RX0 yX0_ownStepsTaking yX0_ownStepsTaking, Cond.code yX0_ownStepsTaking cX0_ownStepsTaking 4 (some .int), Cond.fieldLink RX0 26 "GaugeBoard$Gauge" "stepCount" "I", Cond.fieldLink RX0 15 "GaugeBoard$Gauge" "sources" "[I"]
def wsL_about : List Cond := .codeWith yL_about cL_about 5 (some .int) [(0, 10, 13, 13), (0, 10, 17, 15)] :: ((wsL_about_r1 ++ wsL_about_r2) ++ wsX00 ++ wsX10 ++ (vx_atS RX1 74 "java/lang/IllegalArgumentException" ["java/lang/RuntimeException", "java/lang/Exception"]).filter goodWord ++ (vy_atS RX1 23 "java/util/NoSuchElementException" 13 prog_11_method_4_code "java/lang/RuntimeException" ["java/lang/Exception"]).filter goodWord)
def wsL_stepAt_r1 : List Cond := [Cond.classLink RL 13 "java/util/NoSuchElementException", Cond.classLink RL 15 "java/lang/IllegalArgumentException", Cond.methodLink RL 58 yX1_stepAt, Cond.instanceMethod yX1_stepAt, Cond.selects RX1 yX1_stepAt yX1_stepAt, Cond.initialized RX1, Cond.code yX1_stepAt cX1_stepAt 5 (some .int), Cond.classLink RX1 19 "java/util/NoSuchElementException", Cond.initialized "java/util/NoSuchElementException", Cond.classLink RX1 70 "java/lang/IllegalArgumentException", Cond.initialized "java/lang/IllegalArgumentException", Cond.methodLink RX1 55 yX1_needGauge, Cond.instanceMethod yX1_needGauge, Cond.selects RX1 yX1_needGauge yX1_needGauge, Cond.code yX1_needGauge cX1_needGauge 3 (some (.object "GaugeBoard$Gauge")), Cond.methodLink RX1 30 yX1_gaugeAt, Cond.instanceMethod yX1_gaugeAt, Cond.selects RX1 yX1_gaugeAt yX1_gaugeAt, Cond.code yX1_gaugeAt cX1_gaugeAt 2 (some (.object "GaugeBoard$Gauge")), Cond.fieldLink RX1 11 "GaugeBoard" "places" "[LGaugeBoard$Gauge;", Cond.methodLink RX1 15 yX1_isPlace, Cond.static yX1_isPlace, Cond.code yX1_isPlace cX1_isPlace 1 (some .boolean), Cond.methodLink RX1 131 yX1_operandForm]
def wsL_stepAt_r2 : List Cond := [Cond.static yX1_operandForm, Cond.code yX1_operandForm cX1_operandForm 2 (some .int), Cond.methodLink RX1 156 yX1_wantsOperand, Cond.static yX1_wantsOperand, Cond.code yX1_wantsOperand cX1_wantsOperand 1 (some .boolean)]
def wsL_stepAt : List Cond := .codeWith yL_stepAt cL_stepAt 6 (some .int) [(0, 12, 15, 13), (0, 12, 19, 15)] :: ((wsL_stepAt_r1 ++ wsL_stepAt_r2) ++ wsX00 ++ wsX10 ++ (vy_atS RX1 23 "java/util/NoSuchElementException" 13 prog_11_method_4_code "java/lang/RuntimeException" ["java/lang/Exception"]).filter goodWord ++ (vx_atS RX1 74 "java/lang/IllegalArgumentException" ["java/lang/RuntimeException", "java/lang/Exception"]).filter goodWord)
def wsL_rank_r1 : List Cond := [Cond.classLink RL 13 "java/util/NoSuchElementException", Cond.methodLink RL 61 yX1_rank, Cond.instanceMethod yX1_rank, Cond.selects RX1 yX1_rank yX1_rank, Cond.initialized RX1, Cond.code yX1_rank cX1_rank 6 (some .int), Cond.fieldLink RX1 11 "GaugeBoard" "places" "[LGaugeBoard$Gauge;", Cond.methodLink RX1 55 yX1_needGauge, Cond.instanceMethod yX1_needGauge, Cond.selects RX1 yX1_needGauge yX1_needGauge, Cond.code yX1_needGauge cX1_needGauge 3 (some (.object "GaugeBoard$Gauge")), Cond.classLink RX1 19 "java/util/NoSuchElementException", Cond.initialized "java/util/NoSuchElementException", Cond.methodLink RX1 30 yX1_gaugeAt, Cond.instanceMethod yX1_gaugeAt, Cond.selects RX1 yX1_gaugeAt yX1_gaugeAt, Cond.code yX1_gaugeAt cX1_gaugeAt 2 (some (.object "GaugeBoard$Gauge")), Cond.methodLink RX1 15 yX1_isPlace, Cond.static yX1_isPlace, Cond.code yX1_isPlace cX1_isPlace 1 (some .boolean), Cond.methodLink RX1 137 yX1_isAbove, Cond.static yX1_isAbove, Cond.code yX1_isAbove cX1_isAbove 5 (some .boolean), Cond.methodLink RX1 180 yX1_orderKey]
def wsL_rank_r2 : List Cond := [Cond.static yX1_orderKey, Cond.code yX1_orderKey cX1_orderKey 3 (some .long), Cond.constantLong RX1 167 (9223372036854775807), Cond.methodLink RX1 177 yX1_isReal, Cond.static yX1_isReal, Cond.code yX1_isReal cX1_isReal 1 (some .boolean)]
def wsL_rank : List Cond := .codeWith yL_rank cL_rank 4 (some .int) [(0, 9, 12, 13)] :: ((wsL_rank_r1 ++ wsL_rank_r2) ++ wsX10 ++ wsX00 ++ (vy_atS RX1 23 "java/util/NoSuchElementException" 13 prog_11_method_4_code "java/lang/RuntimeException" ["java/lang/Exception"]).filter goodWord)
def wsL_most_r1 : List Cond := [Cond.classLink RL 15 "java/lang/IllegalArgumentException", Cond.classLink RL 17 "java/lang/IllegalStateException", Cond.methodLink RL 64 yX1_most, Cond.instanceMethod yX1_most, Cond.selects RX1 yX1_most yX1_most, Cond.initialized RX1, Cond.code yX1_most cX1_most 6 (some .long), Cond.classLink RX1 47 "java/lang/IllegalStateException", Cond.initialized "java/lang/IllegalStateException", Cond.fieldLink RX1 11 "GaugeBoard" "places" "[LGaugeBoard$Gauge;", Cond.methodLink RX1 26 yX1_needKind, Cond.static yX1_needKind, Cond.code yX1_needKind cX1_needKind 1 none, Cond.classLink RX1 70 "java/lang/IllegalArgumentException", Cond.initialized "java/lang/IllegalArgumentException", Cond.methodLink RX1 141 yX1_further, Cond.static yX1_further, Cond.code yX1_further cX1_further 3 (some (.object "GaugeBoard$Gauge")), Cond.methodLink RX1 137 yX1_isAbove, Cond.static yX1_isAbove, Cond.code yX1_isAbove cX1_isAbove 5 (some .boolean), Cond.methodLink RX1 180 yX1_orderKey, Cond.static yX1_orderKey, Cond.code yX1_orderKey cX1_orderKey 3 (some .long)]
def wsL_most_r2 : List Cond := [Cond.constantLong RX1 167 (9223372036854775807), Cond.methodLink RX1 177 yX1_isReal, Cond.static yX1_isReal, Cond.code yX1_isReal cX1_isReal 1 (some .boolean)]
def wsL_most : List Cond := .codeWith yL_most cL_most 5 (some .int) [(0, 9, 12, 15), (0, 9, 16, 17)] :: ((wsL_most_r1 ++ wsL_most_r2) ++ wsX10 ++ wsX00 ++ (vx_atS RX1 51 "java/lang/IllegalStateException" ["java/lang/RuntimeException", "java/lang/Exception"]).filter goodWord ++ (vx_atS RX1 74 "java/lang/IllegalArgumentException" ["java/lang/RuntimeException", "java/lang/Exception"]).filter goodWord)
def wsL_law0_r1 : List Cond := [Cond.classLink RL 8 RX1, Cond.instantiable RX1 1, Cond.initialized RX1, Cond.classLink RL 68 RX2, Cond.instantiable RX2 14, Cond.initialized RX2, Cond.arrayClass .long, Cond.constantLong RL 84 (4294967295), Cond.methodLink RL 67 yX1_init, Cond.instanceMethod yX1_init, Cond.code yX1_init cX1_init 1 none, Cond.methodLink RX1 3 objectInit, Cond.instanceMethod objectInit, Cond.code objectInit ⟨#[0xb1]⟩ 1 none, Cond.classLink RX1 9 RX0, Cond.fieldLink RX1 11 "GaugeBoard" "places" "[LGaugeBoard$Gauge;", Cond.methodLink RL 70 yX2_init, Cond.instanceMethod yX2_init, Cond.code yX2_init cX2_init 1 none, Cond.methodLink RX2 1 objectInit, Cond.arrayClass .boolean, Cond.fieldLink RX2 7 "GaugeBoardModel" "there" "[Z", Cond.arrayClass .int, Cond.fieldLink RX2 13 "GaugeBoardModel" "kind" "[I"]
def wsL_law0_r2 : List Cond := [Cond.fieldLink RX2 17 "GaugeBoardModel" "value" "[J", Cond.fieldLink RX2 21 "GaugeBoardModel" "steps" "[I", Cond.fieldLink RX2 24 "GaugeBoardModel" "readings" "[I", Cond.fieldLink RX2 27 "GaugeBoardModel" "swings" "[I", Cond.fieldLink RX2 30 "GaugeBoardModel" "marked" "[Z", Cond.fieldLink RX2 33 "GaugeBoardModel" "high" "[J", Cond.fieldLink RX2 36 "GaugeBoardModel" "low" "[J", Cond.fieldLink RX2 39 "GaugeBoardModel" "sortOf" "[I", Cond.fieldLink RX2 42 "GaugeBoardModel" "operandOf" "[I", Cond.fieldLink RX2 45 "GaugeBoardModel" "bitsOf" "[J", Cond.fieldLink RX2 48 "GaugeBoardModel" "gaugeOf" "[I", Cond.methodLink RL 71 yL_fit, Cond.static yL_fit, Cond.initialized RL, Cond.codeWith yL_fit cL_fit 5 (some .int) [(0, 17, 20, 13), (0, 17, 24, 15), (0, 17, 28, 17)], Cond.classLink RL 13 "java/util/NoSuchElementException", Cond.classLink RL 15 "java/lang/IllegalArgumentException", Cond.classLink RL 17 "java/lang/IllegalStateException", Cond.methodLink RL 7 yX1_fit, Cond.instanceMethod yX1_fit, Cond.selects RX1 yX1_fit yX1_fit, Cond.code yX1_fit cX1_fit 4 (some .boolean), Cond.classLink RX1 19 "java/util/NoSuchElementException", Cond.initialized "java/util/NoSuchElementException"]
def wsL_law0_r3 : List Cond := [Cond.classLink RX1 47 "java/lang/IllegalStateException", Cond.initialized "java/lang/IllegalStateException", Cond.instantiable RX0 11, Cond.initialized RX0, Cond.methodLink RX1 15 yX1_isPlace, Cond.static yX1_isPlace, Cond.code yX1_isPlace cX1_isPlace 1 (some .boolean), Cond.methodLink RX1 26 yX1_needKind, Cond.static yX1_needKind, Cond.code yX1_needKind cX1_needKind 1 none, Cond.classLink RX1 70 "java/lang/IllegalArgumentException", Cond.initialized "java/lang/IllegalArgumentException", Cond.methodLink RX1 30 yX1_gaugeAt, Cond.instanceMethod yX1_gaugeAt, Cond.selects RX1 yX1_gaugeAt yX1_gaugeAt, Cond.code yX1_gaugeAt cX1_gaugeAt 2 (some (.object "GaugeBoard$Gauge")), Cond.instanceMethod yX0_init, Cond.code yX0_init cX0_init 2 none, Cond.methodLink RX0 3 objectInit, Cond.fieldLink RX0 9 "GaugeBoard$Gauge" "sorts" "[I", Cond.fieldLink RX0 15 "GaugeBoard$Gauge" "sources" "[I", Cond.fieldLink RX0 18 "GaugeBoard$Gauge" "operands" "[J", Cond.fieldLink RX0 22 "GaugeBoard$Gauge" "kind" "I", Cond.methodLink RX1 40 yX1_stepsTaking]
def wsL_law0_r4 : List Cond := [Cond.instanceMethod yX1_stepsTaking, Cond.selects RX1 yX1_stepsTaking yX1_stepsTaking, Cond.code yX1_stepsTaking cX1_stepsTaking 5 (some .int), Cond.instanceMethod yX0_ownStepsTaking, Cond.selects RX0 yX0_ownStepsTaking yX0_ownStepsTaking, Cond.code yX0_ownStepsTaking cX0_ownStepsTaking 4 (some .int), Cond.fieldLink RX0 26 "GaugeBoard$Gauge" "stepCount" "I", Cond.instanceMethod yX0_startAs, Cond.selects RX0 yX0_startAs yX0_startAs, Cond.code yX0_startAs cX0_startAs 2 none, Cond.fieldLink RX0 29 "GaugeBoard$Gauge" "value" "J", Cond.fieldLink RX0 33 "GaugeBoard$Gauge" "marked" "Z", Cond.fieldLink RX0 37 "GaugeBoard$Gauge" "readings" "I", Cond.fieldLink RX0 40 "GaugeBoard$Gauge" "swings" "I", Cond.methodLink RL 76 yX2_fit, Cond.instanceMethod yX2_fit, Cond.selects RX2 yX2_fit yX2_fit, Cond.code yX2_fit cX2_fit 4 (some .boolean), Cond.fieldLink RX2 51 "GaugeBoardModel" "thrown" "I", Cond.methodLink RX2 139 yX2_takers, Cond.instanceMethod yX2_takers, Cond.selects RX2 yX2_takers yX2_takers, Cond.code yX2_takers cX2_takers 4 (some .int), Cond.methodLink RX2 146 yX2_takersIn]
def wsL_law0_r5 : List Cond := [Cond.instanceMethod yX2_takersIn, Cond.selects RX2 yX2_takersIn yX2_takersIn, Cond.code yX2_takersIn cX2_takersIn 5 (some .int), Cond.methodLink RX2 143 yX2_ownTakers, Cond.instanceMethod yX2_ownTakers, Cond.selects RX2 yX2_ownTakers yX2_ownTakers, Cond.code yX2_ownTakers cX2_ownTakers 2 (some .int), Cond.methodLink RL 77 yX2_thrown, Cond.instanceMethod yX2_thrown, Cond.selects RX2 yX2_thrown yX2_thrown, Cond.code yX2_thrown cX2_thrown 1 (some .int), Cond.methodLink RL 81 yL_step, Cond.static yL_step, Cond.codeWith yL_step cL_step 5 (some .int) [(0, 10, 13, 13), (0, 10, 17, 15), (0, 10, 21, 17)], Cond.methodLink RL 19 yX1_step, Cond.instanceMethod yX1_step, Cond.selects RX1 yX1_step yX1_step, Cond.code yX1_step cX1_step 4 (some .int), Cond.methodLink RX1 55 yX1_needGauge, Cond.instanceMethod yX1_needGauge, Cond.selects RX1 yX1_needGauge yX1_needGauge, Cond.code yX1_needGauge cX1_needGauge 3 (some (.object "GaugeBoard$Gauge")), Cond.methodLink RX1 58 yX1_needSort, Cond.static yX1_needSort]
def wsL_law0_r6 : List Cond := [Cond.code yX1_needSort cX1_needSort 3 none, Cond.methodLink RX1 151 yX1_lastSort, Cond.static yX1_lastSort, Cond.code yX1_lastSort cX1_lastSort 1 (some .int), Cond.methodLink RX1 156 yX1_wantsOperand, Cond.static yX1_wantsOperand, Cond.code yX1_wantsOperand cX1_wantsOperand 1 (some .boolean), Cond.instanceMethod yX0_addStep, Cond.selects RX0 yX0_addStep yX0_addStep, Cond.code yX0_addStep cX0_addStep 5 (some .int), Cond.classLink RX0 43 "java/lang/IllegalStateException", Cond.methodLink RL 83 yX2_step, Cond.instanceMethod yX2_step, Cond.selects RX2 yX2_step yX2_step, Cond.code yX2_step cX2_step 3 (some .int), Cond.methodLink RX2 150 yX2_isThere, Cond.instanceMethod yX2_isThere, Cond.selects RX2 yX2_isThere yX2_isThere, Cond.code yX2_isThere cX2_isThere 2 (some .boolean), Cond.methodLink RX2 154 yX2_has, Cond.static yX2_has, Cond.code yX2_has cX2_has 2 (some .boolean), Cond.methodLink RX2 158 yX2_wants, Cond.static yX2_wants]
def wsL_law0_r7 : List Cond := [Cond.code yX2_wants cX2_wants 1 (some .boolean), Cond.methodLink RX2 161 yX2_adds, Cond.instanceMethod yX2_adds, Cond.selects RX2 yX2_adds yX2_adds, Cond.code yX2_adds cX2_adds 8 (some .int), Cond.methodLink RL 86 yL_stepBy, Cond.static yL_stepBy, Cond.codeWith yL_stepBy cL_stepBy 7 (some .int) [(0, 12, 15, 13), (0, 12, 19, 15), (0, 12, 23, 17)], Cond.methodLink RL 23 yX1_stepBy, Cond.instanceMethod yX1_stepBy, Cond.selects RX1 yX1_stepBy yX1_stepBy, Cond.code yX1_stepBy cX1_stepBy 6 (some .int), Cond.methodLink RX1 66 yX1_needGood, Cond.static yX1_needGood, Cond.code yX1_needGood cX1_needGood 3 none, Cond.methodLink RX1 161 yX1_isGood, Cond.static yX1_isGood, Cond.code yX1_isGood cX1_isGood 3 (some .boolean), Cond.constantLong RX1 167 (9223372036854775807), Cond.constantLong RX1 169 (9218868437227405312), Cond.constantLong RX1 171 (-2147483648), Cond.constantLong RX1 173 (2147483647), Cond.constantLong RX1 175 (2139095040), Cond.methodLink RL 89 yX2_stepBy]
def wsL_law0_r8 : List Cond := [Cond.instanceMethod yX2_stepBy, Cond.selects RX2 yX2_stepBy yX2_stepBy, Cond.code yX2_stepBy cX2_stepBy 5 (some .int), Cond.methodLink RX2 165 yX2_isGood, Cond.static yX2_isGood, Cond.code yX2_isGood cX2_isGood 3 (some .boolean), Cond.constantLong RX2 63 (-2147483648), Cond.constantLong RX2 55 (2147483647), Cond.methodLink RX2 65 yX2_isNone, Cond.static yX2_isNone, Cond.code yX2_isNone cX2_isNone 3 (some .boolean), Cond.constantLong RX2 57 (2139095040), Cond.constantLong RX2 59 (9223372036854775807), Cond.constantLong RX2 61 (9218868437227405312), Cond.methodLink RL 90 yL_stepOf, Cond.static yL_stepOf, Cond.codeWith yL_stepOf cL_stepOf 6 (some .int) [(0, 12, 15, 13), (0, 12, 19, 15), (0, 12, 23, 17)], Cond.methodLink RL 27 yX1_stepOf, Cond.instanceMethod yX1_stepOf, Cond.selects RX1 yX1_stepOf yX1_stepOf, Cond.code yX1_stepOf cX1_stepOf 6 (some .int), Cond.methodLink RL 93 yX2_stepOf, Cond.instanceMethod yX2_stepOf, Cond.selects RX2 yX2_stepOf yX2_stepOf]
def wsL_law0_r9 : List Cond := [Cond.code yX2_stepOf cX2_stepOf 4 (some .int), Cond.methodLink RL 94 yL_bare, Cond.static yL_bare, Cond.codeWith yL_bare cL_bare 4 (some .int) [(0, 9, 12, 13)], Cond.methodLink RL 31 yX1_bare, Cond.instanceMethod yX1_bare, Cond.selects RX1 yX1_bare yX1_bare, Cond.code yX1_bare cX1_bare 4 (some .int), Cond.methodLink RL 97 yX2_bare, Cond.instanceMethod yX2_bare, Cond.selects RX2 yX2_bare yX2_bare, Cond.code yX2_bare cX2_bare 3 (some .int), Cond.methodLink RL 98 yL_read, Cond.static yL_read, Cond.codeWith yL_read cL_read 6 (some .int) [(0, 10, 13, 13), (0, 10, 17, 15)], Cond.methodLink RL 35 yX1_read, Cond.instanceMethod yX1_read, Cond.selects RX1 yX1_read yX1_read, Cond.code yX1_read cX1_read 5 (some .long), Cond.methodLink RX1 78 yX1_takeReading, Cond.instanceMethod yX1_takeReading, Cond.selects RX1 yX1_takeReading yX1_takeReading, Cond.code yX1_takeReading cX1_takeReading 7 (some .long), Cond.methodLink RX1 184 yX1_operandOf]
def wsL_law0_r10 : List Cond := [Cond.instanceMethod yX1_operandOf, Cond.selects RX1 yX1_operandOf yX1_operandOf, Cond.code yX1_operandOf cX1_operandOf 4 (some .long), Cond.methodLink RX1 188 yX1_afterStep, Cond.static yX1_afterStep, Cond.code yX1_afterStep cX1_afterStep 6 (some .long), Cond.methodLink RX1 200 yX1_sizeOf, Cond.static yX1_sizeOf, Cond.code yX1_sizeOf cX1_sizeOf 5 (some .long), Cond.constantLong RX1 233 (-1), Cond.constantLong RX1 227 (-9223372036854775808), Cond.methodLink RX1 177 yX1_isReal, Cond.static yX1_isReal, Cond.code yX1_isReal cX1_isReal 1 (some .boolean), Cond.methodLink RX1 229 yX1_signBits, Cond.static yX1_signBits, Cond.code yX1_signBits cX1_signBits 1 (some .long), Cond.methodLink RX1 203 yX1_higher, Cond.static yX1_higher, Cond.code yX1_higher cX1_higher 5 (some .long), Cond.methodLink RX1 137 yX1_isAbove, Cond.static yX1_isAbove, Cond.code yX1_isAbove cX1_isAbove 5 (some .boolean), Cond.methodLink RX1 180 yX1_orderKey]
def wsL_law0_r11 : List Cond := [Cond.static yX1_orderKey, Cond.code yX1_orderKey cX1_orderKey 3 (some .long), Cond.methodLink RX1 207 yX1_lower, Cond.static yX1_lower, Cond.code yX1_lower cX1_lower 5 (some .long), Cond.methodLink RX1 210 yX1_shown, Cond.static yX1_shown, Cond.code yX1_shown cX1_shown 3 (some .long), Cond.constantLong RX1 235 (1065353216), Cond.constantLong RX1 237 (4607182418800017408), Cond.methodLink RX1 213 yX1_withSign, Cond.static yX1_withSign, Cond.code yX1_withSign cX1_withSign 4 (some .long), Cond.methodLink RX1 217 yX1_wholeAway, Cond.static yX1_wholeAway, Cond.code yX1_wholeAway cX1_wholeAway 2 (some .long), Cond.methodLink RX1 246 yX1_isWhole, Cond.static yX1_isWhole, Cond.code yX1_isWhole cX1_isWhole 2 (some .boolean), Cond.methodLink RX1 239 yX1_isBelowOne, Cond.static yX1_isBelowOne, Cond.code yX1_isBelowOne cX1_isBelowOne 2 (some .boolean), Cond.methodLink RX1 243 yX1_partMask, Cond.static yX1_partMask]
def wsL_law0_r12 : List Cond := [Cond.code yX1_partMask cX1_partMask 3 (some .long), Cond.methodLink RX1 221 yX1_wholeToward, Cond.static yX1_wholeToward, Cond.code yX1_wholeToward cX1_wholeToward 2 (some .long), Cond.methodLink RX1 224 yX1_wholeNearest, Cond.static yX1_wholeNearest, Cond.code yX1_wholeNearest cX1_wholeNearest 6 (some .long), Cond.constantLong RX1 249 (4602678819172646912), Cond.constantLong RX1 251 (4503599627370496), Cond.methodLink RX1 253 yX1_roundsAway, Cond.static yX1_roundsAway, Cond.code yX1_roundsAway cX1_roundsAway 9 (some .boolean), Cond.instanceMethod yX0_takeValue, Cond.selects RX0 yX0_takeValue yX0_takeValue, Cond.code yX0_takeValue cX0_takeValue 3 none, Cond.fieldLink RX0 54 "GaugeBoard$Gauge" "high" "J", Cond.fieldLink RX0 61 "GaugeBoard$Gauge" "low" "J", Cond.static yX1_signOf, Cond.code yX1_signOf cX1_signOf 2 (some .int), Cond.methodLink RL 101 yX2_read, Cond.instanceMethod yX2_read, Cond.selects RX2 yX2_read yX2_read, Cond.code yX2_read cX2_read 4 (some .long), Cond.methodLink RX2 168 yX2_comes]
def wsL_law0_r13 : List Cond := [Cond.instanceMethod yX2_comes, Cond.selects RX2 yX2_comes yX2_comes, Cond.code yX2_comes cX2_comes 7 (some .long), Cond.methodLink RX2 109 yX2_done, Cond.instanceMethod yX2_done, Cond.selects RX2 yX2_done yX2_done, Cond.code yX2_done cX2_done 8 (some .long), Cond.methodLink RX2 84 yX2_sizeOf, Cond.static yX2_sizeOf, Cond.code yX2_sizeOf cX2_sizeOf 3 (some .long), Cond.methodLink RX2 95 yX2_isAbove, Cond.static yX2_isAbove, Cond.code yX2_isAbove cX2_isAbove 5 (some .boolean), Cond.methodLink RX2 69 yX2_keyOf, Cond.static yX2_keyOf, Cond.code yX2_keyOf cX2_keyOf 3 (some .long), Cond.methodLink RX2 99 yX2_shown, Cond.static yX2_shown, Cond.code yX2_shown cX2_shown 3 (some .long), Cond.constantLong RX2 76 (-1082130432), Cond.constantLong RX2 78 (1065353216), Cond.constantLong RX2 80 (-4616189618054758400), Cond.constantLong RX2 82 (4607182418800017408), Cond.methodLink RX2 73 yX2_isZero]
def wsL_law0_r14 : List Cond := [Cond.static yX2_isZero, Cond.code yX2_isZero cX2_isZero 3 (some .boolean), Cond.methodLink RX2 102 yX2_like, Cond.static yX2_like, Cond.code yX2_like cX2_like 7 (some .long), Cond.constantLong RX2 87 (2147483648), Cond.constantLong RX2 89 (-9223372036854775808), Cond.methodLink RX2 106 yX2_wholeOf, Cond.static yX2_wholeOf, Cond.code yX2_wholeOf cX2_wholeOf 17 (some .long), Cond.constantLong RX2 91 (4602678819172646912), Cond.constantLong RX2 93 (2), Cond.methodLink RL 102 yL_hand, Cond.static yL_hand, Cond.codeWith yL_hand cL_hand 5 (some .int) [(0, 9, 12, 13), (0, 9, 16, 15)], Cond.methodLink RL 39 yX1_hand, Cond.instanceMethod yX1_hand, Cond.selects RX1 yX1_hand yX1_hand, Cond.code yX1_hand cX1_hand 5 (some .long), Cond.methodLink RX1 84 yX1_canHandOn, Cond.static yX1_canHandOn, Cond.code yX1_canHandOn cX1_canHandOn 2 (some .boolean), Cond.methodLink RX1 94 yX1_handedOn, Cond.static yX1_handedOn]
def wsL_law0_r15 : List Cond := [Cond.code yX1_handedOn cX1_handedOn 4 (some .long), Cond.methodLink RX1 257 yX1_singleAsDouble, Cond.static yX1_singleAsDouble, Cond.code yX1_singleAsDouble cX1_singleAsDouble 2 (some .long), Cond.methodLink RX1 270 yX1_sizeAsDouble, Cond.static yX1_sizeAsDouble, Cond.code yX1_sizeAsDouble cX1_sizeAsDouble 4 (some .long), Cond.constantLong RX1 273 (671036344478203904), Cond.constantLong RX1 275 (4035225266123964416), Cond.methodLink RX1 260 yX1_wholeAsReal, Cond.static yX1_wholeAsReal, Cond.code yX1_wholeAsReal cX1_wholeAsReal 14 (some .long), Cond.methodLink RX1 264 yX1_highestBit, Cond.static yX1_highestBit, Cond.code yX1_highestBit cX1_highestBit 3 (some .int), Cond.methodLink RX1 267 yX1_cutTo, Cond.static yX1_cutTo, Cond.code yX1_cutTo cX1_cutTo 5 (some .long), Cond.methodLink RL 104 yX2_hand, Cond.instanceMethod yX2_hand, Cond.selects RX2 yX2_hand yX2_hand, Cond.code yX2_hand cX2_hand 3 (some .long), Cond.methodLink RX2 172 yX2_handed, Cond.static yX2_handed]
def wsL_law0_r16 : List Cond := [Cond.code yX2_handed cX2_handed 4 (some .long), Cond.methodLink RX2 129 yX2_widened, Cond.static yX2_widened, Cond.code yX2_widened cX2_widened 11 (some .long), Cond.constantLong RX2 121 (8388607), Cond.constantLong RX2 123 (255), Cond.constantLong RX2 125 (896), Cond.constantLong RX2 127 (4503599627370496), Cond.methodLink RX2 113 yX2_top, Cond.static yX2_top, Cond.code yX2_top cX2_top 3 (some .int), Cond.methodLink RX2 133 yX2_asSingle, Cond.static yX2_asSingle, Cond.code yX2_asSingle cX2_asSingle 4 (some .long), Cond.methodLink RX2 117 yX2_nearest, Cond.static yX2_nearest, Cond.code yX2_nearest cX2_nearest 12 (some .long), Cond.methodLink RX2 136 yX2_asDouble, Cond.static yX2_asDouble, Cond.code yX2_asDouble cX2_asDouble 4 (some .long), Cond.methodLink RL 105 yL_clear, Cond.static yL_clear, Cond.codeWith yL_clear cL_clear 4 (some .int) [(0, 16, 19, 13)], Cond.methodLink RL 43 yX1_clear]
def wsL_law0_r17 : List Cond := [Cond.instanceMethod yX1_clear, Cond.selects RX1 yX1_clear yX1_clear, Cond.code yX1_clear cX1_clear 4 (some .boolean), Cond.methodLink RL 107 yX2_clear, Cond.instanceMethod yX2_clear, Cond.selects RX2 yX2_clear yX2_clear, Cond.code yX2_clear cX2_clear 3 (some .boolean), Cond.methodLink RL 108 yL_value, Cond.static yL_value, Cond.codeWith yL_value cL_value 4 (some .int) [(0, 8, 11, 13)], Cond.methodLink RL 47 yX1_value, Cond.instanceMethod yX1_value, Cond.selects RX1 yX1_value yX1_value, Cond.code yX1_value cX1_value 2 (some .long), Cond.methodLink RL 110 yX2_value, Cond.instanceMethod yX2_value, Cond.selects RX2 yX2_value yX2_value, Cond.code yX2_value cX2_value 2 (some .long), Cond.methodLink RL 111 yL_mark, Cond.static yL_mark, Cond.codeWith yL_mark cL_mark 5 (some .int) [(0, 9, 12, 13), (0, 9, 16, 17)], Cond.methodLink RL 51 yX1_mark, Cond.instanceMethod yX1_mark, Cond.selects RX1 yX1_mark yX1_mark]
def wsL_law0_r18 : List Cond := [Cond.code yX1_mark cX1_mark 4 (some .long), Cond.methodLink RL 114 yX2_mark, Cond.instanceMethod yX2_mark, Cond.selects RX2 yX2_mark yX2_mark, Cond.code yX2_mark cX2_mark 3 (some .long), Cond.methodLink RL 115 yL_about, Cond.static yL_about, Cond.codeWith yL_about cL_about 5 (some .int) [(0, 10, 13, 13), (0, 10, 17, 15)], Cond.methodLink RL 55 yX1_about, Cond.instanceMethod yX1_about, Cond.selects RX1 yX1_about yX1_about, Cond.code yX1_about cX1_about 4 (some .int), Cond.methodLink RX1 116 yX1_signOf, Cond.methodLink RL 117 yX2_about, Cond.instanceMethod yX2_about, Cond.selects RX2 yX2_about yX2_about, Cond.code yX2_about cX2_about 3 (some .int), Cond.methodLink RL 118 yL_stepAt, Cond.static yL_stepAt, Cond.codeWith yL_stepAt cL_stepAt 6 (some .int) [(0, 12, 15, 13), (0, 12, 19, 15)], Cond.methodLink RL 58 yX1_stepAt, Cond.instanceMethod yX1_stepAt, Cond.selects RX1 yX1_stepAt yX1_stepAt, Cond.code yX1_stepAt cX1_stepAt 5 (some .int)]
def wsL_law0_r19 : List Cond := [Cond.methodLink RX1 131 yX1_operandForm, Cond.static yX1_operandForm, Cond.code yX1_operandForm cX1_operandForm 2 (some .int), Cond.methodLink RL 120 yX2_stepAt, Cond.instanceMethod yX2_stepAt, Cond.selects RX2 yX2_stepAt yX2_stepAt, Cond.code yX2_stepAt cX2_stepAt 5 (some .int), Cond.methodLink RL 121 yL_rank, Cond.static yL_rank, Cond.codeWith yL_rank cL_rank 4 (some .int) [(0, 9, 12, 13)], Cond.methodLink RL 61 yX1_rank, Cond.instanceMethod yX1_rank, Cond.selects RX1 yX1_rank yX1_rank, Cond.code yX1_rank cX1_rank 6 (some .int), Cond.methodLink RL 123 yX2_rank, Cond.instanceMethod yX2_rank, Cond.selects RX2 yX2_rank yX2_rank, Cond.code yX2_rank cX2_rank 4 (some .int), Cond.methodLink RL 124 yL_most, Cond.static yL_most, Cond.codeWith yL_most cL_most 5 (some .int) [(0, 9, 12, 15), (0, 9, 16, 17)], Cond.methodLink RL 64 yX1_most, Cond.instanceMethod yX1_most, Cond.selects RX1 yX1_most yX1_most]
def wsL_law0_r20 : List Cond := [Cond.code yX1_most cX1_most 6 (some .long), Cond.methodLink RX1 141 yX1_further, Cond.static yX1_further, Cond.code yX1_further cX1_further 3 (some (.object "GaugeBoard$Gauge")), Cond.methodLink RL 126 yX2_most, Cond.instanceMethod yX2_most, Cond.selects RX2 yX2_most yX2_most, Cond.code yX2_most cX2_most 6 (some .long), Cond.methodLink RL 127 yX1_gauges, Cond.instanceMethod yX1_gauges, Cond.selects RX1 yX1_gauges yX1_gauges, Cond.code yX1_gauges cX1_gauges 3 (some .int), Cond.methodLink RL 130 yX2_gauges, Cond.instanceMethod yX2_gauges, Cond.selects RX2 yX2_gauges yX2_gauges, Cond.code yX2_gauges cX2_gauges 3 (some .int)]
def wsL_law0 : List Cond := (wsL_law0_r1 ++ (wsL_law0_r2 ++ (wsL_law0_r3 ++ (wsL_law0_r4 ++ (wsL_law0_r5 ++ (wsL_law0_r6 ++ (wsL_law0_r7 ++ (wsL_law0_r8 ++ (wsL_law0_r9 ++ (wsL_law0_r10 ++ (wsL_law0_r11 ++ (wsL_law0_r12 ++ (wsL_law0_r13 ++ (wsL_law0_r14 ++ (wsL_law0_r15 ++ (wsL_law0_r16 ++ (wsL_law0_r17 ++ (wsL_law0_r18 ++ (wsL_law0_r19 ++ wsL_law0_r20))))))))))))))))))) ++ wsX10 ++ wsX20 ++ wsX00 ++ ([] : List Cond)
def wsL_law : List Cond := wsL_law0 ++ (vy_atS RX1 23 "java/util/NoSuchElementException" 13 prog_11_method_4_code "java/lang/RuntimeException" ["java/lang/Exception"]).filter goodWord ++ (vx_atS RX1 51 "java/lang/IllegalStateException" ["java/lang/RuntimeException", "java/lang/Exception"]).filter goodWord ++ (vx_atS RX1 74 "java/lang/IllegalArgumentException" ["java/lang/RuntimeException", "java/lang/Exception"]).filter goodWord ++ (vx_atS RX0 47 "java/lang/IllegalStateException" ["java/lang/RuntimeException", "java/lang/Exception"]).filter goodWord
end
section
theorem dX0_init_0 : decode cX0_init 0 = .ok (.aload_n 0, 1) := by decide +kernel
theorem dX0_init_1 : decode cX0_init 1 = .ok (.invokespecial 3, 3) := by decide +kernel
theorem dX0_init_4 : decode cX0_init 4 = .ok (.aload_n 0, 1) := by decide +kernel
theorem dX0_init_5 : decode cX0_init 5 = .ok (.bipush 8, 2) := by decide +kernel
theorem dX0_init_7 : decode cX0_init 7 = .ok (.newarray .int, 2) := by decide +kernel
theorem dX0_init_9 : decode cX0_init 9 = .ok (.putfield 9, 3) := by decide +kernel
theorem dX0_init_12 : decode cX0_init 12 = .ok (.aload_n 0, 1) := by decide +kernel
theorem dX0_init_13 : decode cX0_init 13 = .ok (.bipush 8, 2) := by decide +kernel
theorem dX0_init_15 : decode cX0_init 15 = .ok (.newarray .int, 2) := by decide +kernel
theorem dX0_init_17 : decode cX0_init 17 = .ok (.putfield 15, 3) := by decide +kernel
theorem dX0_init_20 : decode cX0_init 20 = .ok (.aload_n 0, 1) := by decide +kernel
theorem dX0_init_21 : decode cX0_init 21 = .ok (.bipush 8, 2) := by decide +kernel
theorem dX0_init_23 : decode cX0_init 23 = .ok (.newarray .long, 2) := by decide +kernel
theorem dX0_init_25 : decode cX0_init 25 = .ok (.putfield 18, 3) := by decide +kernel
theorem dX0_init_28 : decode cX0_init 28 = .ok (.aload_n 0, 1) := by decide +kernel
theorem dX0_init_29 : decode cX0_init 29 = .ok (.iload_n 1, 1) := by decide +kernel
theorem dX0_init_30 : decode cX0_init 30 = .ok (.putfield 22, 3) := by decide +kernel
theorem dX0_init_33 : decode cX0_init 33 = .ok (.return_, 1) := by decide +kernel
theorem dX0_startAs_0 : decode cX0_startAs 0 = .ok (.aload_n 0, 1) := by decide +kernel
theorem dX0_startAs_1 : decode cX0_startAs 1 = .ok (.iload_n 1, 1) := by decide +kernel
theorem dX0_startAs_2 : decode cX0_startAs 2 = .ok (.putfield 22, 3) := by decide +kernel
theorem dX0_startAs_5 : decode cX0_startAs 5 = .ok (.aload_n 0, 1) := by decide +kernel
theorem dX0_startAs_6 : decode cX0_startAs 6 = .ok (.iconst 0, 1) := by decide +kernel
theorem dX0_startAs_7 : decode cX0_startAs 7 = .ok (.putfield 26, 3) := by decide +kernel
theorem dX0_startAs_10 : decode cX0_startAs 10 = .ok (.aload_n 0, 1) := by decide +kernel
theorem dX0_startAs_11 : decode cX0_startAs 11 = .ok (.lconst 0, 1) := by decide +kernel
theorem dX0_startAs_12 : decode cX0_startAs 12 = .ok (.putfield 29, 3) := by decide +kernel
theorem dX0_startAs_15 : decode cX0_startAs 15 = .ok (.aload_n 0, 1) := by decide +kernel
theorem dX0_startAs_16 : decode cX0_startAs 16 = .ok (.iconst 0, 1) := by decide +kernel
theorem dX0_startAs_17 : decode cX0_startAs 17 = .ok (.putfield 33, 3) := by decide +kernel
theorem dX0_startAs_20 : decode cX0_startAs 20 = .ok (.aload_n 0, 1) := by decide +kernel
theorem dX0_startAs_21 : decode cX0_startAs 21 = .ok (.iconst 0, 1) := by decide +kernel
theorem dX0_startAs_22 : decode cX0_startAs 22 = .ok (.putfield 37, 3) := by decide +kernel
theorem dX0_startAs_25 : decode cX0_startAs 25 = .ok (.aload_n 0, 1) := by decide +kernel
theorem dX0_startAs_26 : decode cX0_startAs 26 = .ok (.iconst 0, 1) := by decide +kernel
theorem dX0_startAs_27 : decode cX0_startAs 27 = .ok (.putfield 40, 3) := by decide +kernel
theorem dX0_startAs_30 : decode cX0_startAs 30 = .ok (.return_, 1) := by decide +kernel
theorem dX0_addStep_0 : decode cX0_addStep 0 = .ok (.aload_n 0, 1) := by decide +kernel
theorem dX0_addStep_1 : decode cX0_addStep 1 = .ok (.getfield 26, 3) := by decide +kernel
theorem dX0_addStep_4 : decode cX0_addStep 4 = .ok (.bipush 8, 2) := by decide +kernel
theorem dX0_addStep_6 : decode cX0_addStep 6 = .ok (.if_icmp .lt 13, 3) := by decide +kernel
theorem dX0_addStep_9 : decode cX0_addStep 9 = .ok (.new 43, 3) := by decide +kernel
theorem dX0_addStep_12 : decode cX0_addStep 12 = .ok (.dup, 1) := by decide +kernel
theorem dX0_addStep_13 : decode cX0_addStep 13 = .ok (.ldc 45, 2) := by decide +kernel
theorem dX0_addStep_15 : decode cX0_addStep 15 = .ok (.invokespecial 47, 3) := by decide +kernel
theorem dX0_addStep_18 : decode cX0_addStep 18 = .ok (.athrow, 1) := by decide +kernel
theorem dX0_addStep_19 : decode cX0_addStep 19 = .ok (.aload_n 0, 1) := by decide +kernel
theorem dX0_addStep_20 : decode cX0_addStep 20 = .ok (.getfield 9, 3) := by decide +kernel
theorem dX0_addStep_23 : decode cX0_addStep 23 = .ok (.aload_n 0, 1) := by decide +kernel
theorem dX0_addStep_24 : decode cX0_addStep 24 = .ok (.getfield 26, 3) := by decide +kernel
theorem dX0_addStep_27 : decode cX0_addStep 27 = .ok (.iload_n 1, 1) := by decide +kernel
theorem dX0_addStep_28 : decode cX0_addStep 28 = .ok (.iastore, 1) := by decide +kernel
theorem dX0_addStep_29 : decode cX0_addStep 29 = .ok (.aload_n 0, 1) := by decide +kernel
theorem dX0_addStep_30 : decode cX0_addStep 30 = .ok (.getfield 15, 3) := by decide +kernel
theorem dX0_addStep_33 : decode cX0_addStep 33 = .ok (.aload_n 0, 1) := by decide +kernel
theorem dX0_addStep_34 : decode cX0_addStep 34 = .ok (.getfield 26, 3) := by decide +kernel
theorem dX0_addStep_37 : decode cX0_addStep 37 = .ok (.iload_n 2, 1) := by decide +kernel
theorem dX0_addStep_38 : decode cX0_addStep 38 = .ok (.iastore, 1) := by decide +kernel
theorem dX0_addStep_39 : decode cX0_addStep 39 = .ok (.aload_n 0, 1) := by decide +kernel
theorem dX0_addStep_40 : decode cX0_addStep 40 = .ok (.getfield 18, 3) := by decide +kernel
theorem dX0_addStep_43 : decode cX0_addStep 43 = .ok (.aload_n 0, 1) := by decide +kernel
theorem dX0_addStep_44 : decode cX0_addStep 44 = .ok (.getfield 26, 3) := by decide +kernel
theorem dX0_addStep_47 : decode cX0_addStep 47 = .ok (.lload_n 3, 1) := by decide +kernel
theorem dX0_addStep_48 : decode cX0_addStep 48 = .ok (.lastore, 1) := by decide +kernel
theorem dX0_addStep_49 : decode cX0_addStep 49 = .ok (.aload_n 0, 1) := by decide +kernel
theorem dX0_addStep_50 : decode cX0_addStep 50 = .ok (.dup, 1) := by decide +kernel
theorem dX0_addStep_51 : decode cX0_addStep 51 = .ok (.getfield 26, 3) := by decide +kernel
theorem dX0_addStep_54 : decode cX0_addStep 54 = .ok (.iconst 1, 1) := by decide +kernel
theorem dX0_addStep_55 : decode cX0_addStep 55 = .ok (.iadd, 1) := by decide +kernel
theorem dX0_addStep_56 : decode cX0_addStep 56 = .ok (.putfield 26, 3) := by decide +kernel
theorem dX0_addStep_59 : decode cX0_addStep 59 = .ok (.aload_n 0, 1) := by decide +kernel
theorem dX0_addStep_60 : decode cX0_addStep 60 = .ok (.getfield 26, 3) := by decide +kernel
theorem dX0_addStep_63 : decode cX0_addStep 63 = .ok (.ireturn, 1) := by decide +kernel
theorem dX0_ownStepsTaking_0 : decode cX0_ownStepsTaking 0 = .ok (.iconst 0, 1) := by decide +kernel
theorem dX0_ownStepsTaking_1 : decode cX0_ownStepsTaking 1 = .ok (.istore_n 2, 1) := by decide +kernel
theorem dX0_ownStepsTaking_2 : decode cX0_ownStepsTaking 2 = .ok (.iconst 0, 1) := by decide +kernel
theorem dX0_ownStepsTaking_3 : decode cX0_ownStepsTaking 3 = .ok (.istore_n 3, 1) := by decide +kernel
theorem dX0_ownStepsTaking_4 : decode cX0_ownStepsTaking 4 = .ok (.iload_n 3, 1) := by decide +kernel
theorem dX0_ownStepsTaking_5 : decode cX0_ownStepsTaking 5 = .ok (.aload_n 0, 1) := by decide +kernel
theorem dX0_ownStepsTaking_6 : decode cX0_ownStepsTaking 6 = .ok (.getfield 26, 3) := by decide +kernel
theorem dX0_ownStepsTaking_9 : decode cX0_ownStepsTaking 9 = .ok (.if_icmp .ge 22, 3) := by decide +kernel
theorem dX0_ownStepsTaking_12 : decode cX0_ownStepsTaking 12 = .ok (.aload_n 0, 1) := by decide +kernel
theorem dX0_ownStepsTaking_13 : decode cX0_ownStepsTaking 13 = .ok (.getfield 15, 3) := by decide +kernel
theorem dX0_ownStepsTaking_16 : decode cX0_ownStepsTaking 16 = .ok (.iload_n 3, 1) := by decide +kernel
theorem dX0_ownStepsTaking_17 : decode cX0_ownStepsTaking 17 = .ok (.iaload, 1) := by decide +kernel
theorem dX0_ownStepsTaking_18 : decode cX0_ownStepsTaking 18 = .ok (.iload_n 1, 1) := by decide +kernel
theorem dX0_ownStepsTaking_19 : decode cX0_ownStepsTaking 19 = .ok (.if_icmp .ne 6, 3) := by decide +kernel
theorem dX0_ownStepsTaking_22 : decode cX0_ownStepsTaking 22 = .ok (.iinc 2 1, 3) := by decide +kernel
theorem dX0_ownStepsTaking_25 : decode cX0_ownStepsTaking 25 = .ok (.iinc 3 1, 3) := by decide +kernel
theorem dX0_ownStepsTaking_28 : decode cX0_ownStepsTaking 28 = .ok (.goto (-24), 3) := by decide +kernel
theorem dX0_ownStepsTaking_31 : decode cX0_ownStepsTaking 31 = .ok (.iload_n 2, 1) := by decide +kernel
theorem dX0_ownStepsTaking_32 : decode cX0_ownStepsTaking 32 = .ok (.ireturn, 1) := by decide +kernel
set_option maxRecDepth 20000 in
theorem ggX0_takeValue_X1_signOf : GoodIn wsX0_takeValue wsX1_signOf := goodIn_r _ [10] (by decide +kernel) (by decide +kernel)
set_option maxRecDepth 20000 in
theorem gX0_takeValue_X1_signOf_n50 : GoodIn wsX0_takeValue (wsX1_signOf) := ggX0_takeValue_X1_signOf
set_option maxRecDepth 20000 in
theorem ggX0_takeValue_X1_higher : GoodIn wsX0_takeValue wsX1_higher := goodIn_r _ [12, 13, 14, 9, 15, 16, 17, 18, 19, 20, 21, 22] (by decide +kernel) (by decide +kernel)
set_option maxRecDepth 20000 in
theorem gX0_takeValue_X1_higher_n57 : GoodIn wsX0_takeValue (wsX1_higher) := ggX0_takeValue_X1_higher
set_option maxRecDepth 20000 in
theorem ggX0_takeValue_X1_lower : GoodIn wsX0_takeValue wsX1_lower := goodIn_r _ [24, 13, 14, 9, 15, 16, 17, 18, 19, 20, 21, 22] (by decide +kernel) (by decide +kernel)
set_option maxRecDepth 20000 in
theorem gX0_takeValue_X1_lower_n64 : GoodIn wsX0_takeValue (wsX1_lower) := ggX0_takeValue_X1_lower
theorem dX0_takeValue_0 : decode cX0_takeValue 0 = .ok (.aload_n 0, 1) := by decide +kernel
theorem dX0_takeValue_1 : decode cX0_takeValue 1 = .ok (.dup, 1) := by decide +kernel
theorem dX0_takeValue_2 : decode cX0_takeValue 2 = .ok (.getfield 37, 3) := by decide +kernel
theorem dX0_takeValue_5 : decode cX0_takeValue 5 = .ok (.iconst 1, 1) := by decide +kernel
theorem dX0_takeValue_6 : decode cX0_takeValue 6 = .ok (.iadd, 1) := by decide +kernel
theorem dX0_takeValue_7 : decode cX0_takeValue 7 = .ok (.putfield 37, 3) := by decide +kernel
theorem dX0_takeValue_10 : decode cX0_takeValue 10 = .ok (.lload_n 1, 1) := by decide +kernel
theorem dX0_takeValue_11 : decode cX0_takeValue 11 = .ok (.invokestatic 50, 3) := by decide +kernel
theorem dX0_takeValue_14 : decode cX0_takeValue 14 = .ok (.aload_n 0, 1) := by decide +kernel
theorem dX0_takeValue_15 : decode cX0_takeValue 15 = .ok (.getfield 29, 3) := by decide +kernel
theorem dX0_takeValue_18 : decode cX0_takeValue 18 = .ok (.invokestatic 50, 3) := by decide +kernel
theorem dX0_takeValue_21 : decode cX0_takeValue 21 = .ok (.if_icmp .eq 13, 3) := by decide +kernel
theorem dX0_takeValue_24 : decode cX0_takeValue 24 = .ok (.aload_n 0, 1) := by decide +kernel
theorem dX0_takeValue_25 : decode cX0_takeValue 25 = .ok (.dup, 1) := by decide +kernel
theorem dX0_takeValue_26 : decode cX0_takeValue 26 = .ok (.getfield 40, 3) := by decide +kernel
theorem dX0_takeValue_29 : decode cX0_takeValue 29 = .ok (.iconst 1, 1) := by decide +kernel
theorem dX0_takeValue_30 : decode cX0_takeValue 30 = .ok (.iadd, 1) := by decide +kernel
theorem dX0_takeValue_31 : decode cX0_takeValue 31 = .ok (.putfield 40, 3) := by decide +kernel
theorem dX0_takeValue_34 : decode cX0_takeValue 34 = .ok (.aload_n 0, 1) := by decide +kernel
theorem dX0_takeValue_35 : decode cX0_takeValue 35 = .ok (.aload_n 0, 1) := by decide +kernel
theorem dX0_takeValue_36 : decode cX0_takeValue 36 = .ok (.getfield 33, 3) := by decide +kernel
theorem dX0_takeValue_39 : decode cX0_takeValue 39 = .ok (.ifCond .eq 18, 3) := by decide +kernel
theorem dX0_takeValue_42 : decode cX0_takeValue 42 = .ok (.aload_n 0, 1) := by decide +kernel
theorem dX0_takeValue_43 : decode cX0_takeValue 43 = .ok (.getfield 54, 3) := by decide +kernel
theorem dX0_takeValue_46 : decode cX0_takeValue 46 = .ok (.lload_n 1, 1) := by decide +kernel
theorem dX0_takeValue_47 : decode cX0_takeValue 47 = .ok (.aload_n 0, 1) := by decide +kernel
theorem dX0_takeValue_48 : decode cX0_takeValue 48 = .ok (.getfield 22, 3) := by decide +kernel
theorem dX0_takeValue_51 : decode cX0_takeValue 51 = .ok (.invokestatic 57, 3) := by decide +kernel
theorem dX0_takeValue_54 : decode cX0_takeValue 54 = .ok (.goto 4, 3) := by decide +kernel
theorem dX0_takeValue_57 : decode cX0_takeValue 57 = .ok (.lload_n 1, 1) := by decide +kernel
theorem dX0_takeValue_58 : decode cX0_takeValue 58 = .ok (.putfield 54, 3) := by decide +kernel
theorem dX0_takeValue_61 : decode cX0_takeValue 61 = .ok (.aload_n 0, 1) := by decide +kernel
theorem dX0_takeValue_62 : decode cX0_takeValue 62 = .ok (.aload_n 0, 1) := by decide +kernel
theorem dX0_takeValue_63 : decode cX0_takeValue 63 = .ok (.getfield 33, 3) := by decide +kernel
theorem dX0_takeValue_66 : decode cX0_takeValue 66 = .ok (.ifCond .eq 18, 3) := by decide +kernel
theorem dX0_takeValue_69 : decode cX0_takeValue 69 = .ok (.aload_n 0, 1) := by decide +kernel
theorem dX0_takeValue_70 : decode cX0_takeValue 70 = .ok (.getfield 61, 3) := by decide +kernel
theorem dX0_takeValue_73 : decode cX0_takeValue 73 = .ok (.lload_n 1, 1) := by decide +kernel
theorem dX0_takeValue_74 : decode cX0_takeValue 74 = .ok (.aload_n 0, 1) := by decide +kernel
theorem dX0_takeValue_75 : decode cX0_takeValue 75 = .ok (.getfield 22, 3) := by decide +kernel
theorem dX0_takeValue_78 : decode cX0_takeValue 78 = .ok (.invokestatic 64, 3) := by decide +kernel
theorem dX0_takeValue_81 : decode cX0_takeValue 81 = .ok (.goto 4, 3) := by decide +kernel
theorem dX0_takeValue_84 : decode cX0_takeValue 84 = .ok (.lload_n 1, 1) := by decide +kernel
theorem dX0_takeValue_85 : decode cX0_takeValue 85 = .ok (.putfield 61, 3) := by decide +kernel
theorem dX0_takeValue_88 : decode cX0_takeValue 88 = .ok (.aload_n 0, 1) := by decide +kernel
theorem dX0_takeValue_89 : decode cX0_takeValue 89 = .ok (.iconst 1, 1) := by decide +kernel
theorem dX0_takeValue_90 : decode cX0_takeValue 90 = .ok (.putfield 33, 3) := by decide +kernel
theorem dX0_takeValue_93 : decode cX0_takeValue 93 = .ok (.aload_n 0, 1) := by decide +kernel
theorem dX0_takeValue_94 : decode cX0_takeValue 94 = .ok (.lload_n 1, 1) := by decide +kernel
theorem dX0_takeValue_95 : decode cX0_takeValue 95 = .ok (.putfield 29, 3) := by decide +kernel
theorem dX0_takeValue_98 : decode cX0_takeValue 98 = .ok (.return_, 1) := by decide +kernel
theorem dX1_init_0 : decode cX1_init 0 = .ok (.aload_n 0, 1) := by decide +kernel
theorem dX1_init_1 : decode cX1_init 1 = .ok (.invokespecial 3, 3) := by decide +kernel
theorem dX1_init_4 : decode cX1_init 4 = .ok (.aload_n 0, 1) := by decide +kernel
theorem dX1_init_5 : decode cX1_init 5 = .ok (.bipush 12, 2) := by decide +kernel
theorem dX1_init_7 : decode cX1_init 7 = .ok (.anewarray 9, 3) := by decide +kernel
theorem dX1_init_10 : decode cX1_init 10 = .ok (.putfield 11, 3) := by decide +kernel
theorem dX1_init_13 : decode cX1_init 13 = .ok (.return_, 1) := by decide +kernel
set_option maxRecDepth 20000 in
theorem ggX1_fit_X1_isPlace : GoodIn wsX1_fit wsX1_isPlace := goodIn_r _ [12] (by decide +kernel) (by decide +kernel)
set_option maxRecDepth 20000 in
theorem gX1_fit_X1_isPlace : GoodIn wsX1_fit (va_wsS RX1 15 yX1_isPlace wsX1_isPlace) := goodIn_app (goodIn_of _ (by decide +kernel)) ggX1_fit_X1_isPlace
set_option maxRecDepth 20000 in
theorem ggX1_fit_X1_needKind : GoodIn wsX1_fit wsX1_needKind := goodIn_ca (goodIn_r _ [15, 16, 17] (by decide +kernel) (by decide +kernel)) (goodIn_sub (fun _ h => List.mem_cons_of_mem _ (List.mem_append_right _ h)) (by decide +kernel))
set_option maxRecDepth 20000 in
theorem gX1_fit_X1_needKind : GoodIn wsX1_fit (va_wsS RX1 26 yX1_needKind wsX1_needKind) := goodIn_app (goodIn_of _ (by decide +kernel)) ggX1_fit_X1_needKind
set_option maxRecDepth 20000 in
theorem ggX1_fit_X1_gaugeAt : GoodIn wsX1_fit wsX1_gaugeAt := goodIn_r _ [21, 5, 9, 10, 11, 12, 48] (by decide +kernel) (by decide +kernel)
set_option maxRecDepth 20000 in
theorem gX1_fit_X1_gaugeAt : GoodIn wsX1_fit (wsV RX1 30 RX1 yX1_gaugeAt wsX1_gaugeAt) := goodIn_app (goodIn_of _ (by decide +kernel)) ggX1_fit_X1_gaugeAt
set_option maxRecDepth 20000 in
theorem ggX1_fit_X0_init : GoodIn wsX1_fit wsX0_init := goodIn_r _ [23, 24, 25, 26, 27, 28, 29, 30, 31, 32, 49, 50, 51, 52, 53, 54, 55, 56, 57, 58, 59] (by decide +kernel) (by decide +kernel)
set_option maxRecDepth 20000 in
theorem gX1_fit_X0_init_n34 : GoodIn wsX1_fit (wsX0_init) := ggX1_fit_X0_init
set_option maxRecDepth 20000 in
theorem ggX1_fit_X1_stepsTaking : GoodIn wsX1_fit wsX1_stepsTaking := goodIn_r _ [36, 5, 37, 8, 38, 39, 40, 29, 48, 49, 50, 51, 52, 53, 54, 55, 56, 57, 58, 59] (by decide +kernel) (by decide +kernel)
set_option maxRecDepth 20000 in
theorem gX1_fit_X1_stepsTaking : GoodIn wsX1_fit (wsV RX1 40 RX1 yX1_stepsTaking wsX1_stepsTaking) := goodIn_app (goodIn_of _ (by decide +kernel)) ggX1_fit_X1_stepsTaking
set_option maxRecDepth 20000 in
theorem ggX1_fit_X0_ownStepsTaking : GoodIn wsX1_fit wsX0_ownStepsTaking := goodIn_r _ [39, 40, 29, 49, 50, 51, 52, 53, 54, 55, 56, 57, 58, 59] (by decide +kernel) (by decide +kernel)
set_option maxRecDepth 20000 in
theorem gX1_fit_X0_ownStepsTaking_n44 : GoodIn wsX1_fit (wsX0_ownStepsTaking) := ggX1_fit_X0_ownStepsTaking
set_option maxRecDepth 20000 in
theorem ggX1_fit_X0_startAs : GoodIn wsX1_fit wsX0_startAs := goodIn_r _ [43, 32, 40, 44, 45, 46, 47, 49, 50, 51, 52, 53, 54, 55, 56, 57, 58, 59] (by decide +kernel) (by decide +kernel)
set_option maxRecDepth 20000 in
theorem gX1_fit_X0_startAs_n52 : GoodIn wsX1_fit (wsX0_startAs) := ggX1_fit_X0_startAs
theorem dX1_fit_0 : decode cX1_fit 0 = .ok (.iload_n 1, 1) := by decide +kernel
theorem dX1_fit_1 : decode cX1_fit 1 = .ok (.invokestatic 15, 3) := by decide +kernel
theorem dX1_fit_4 : decode cX1_fit 4 = .ok (.ifCond .ne 13, 3) := by decide +kernel
theorem dX1_fit_7 : decode cX1_fit 7 = .ok (.new 19, 3) := by decide +kernel
theorem dX1_fit_10 : decode cX1_fit 10 = .ok (.dup, 1) := by decide +kernel
theorem dX1_fit_11 : decode cX1_fit 11 = .ok (.ldc 21, 2) := by decide +kernel
theorem dX1_fit_13 : decode cX1_fit 13 = .ok (.invokespecial 23, 3) := by decide +kernel
theorem dX1_fit_16 : decode cX1_fit 16 = .ok (.athrow, 1) := by decide +kernel
theorem dX1_fit_17 : decode cX1_fit 17 = .ok (.iload_n 2, 1) := by decide +kernel
theorem dX1_fit_18 : decode cX1_fit 18 = .ok (.invokestatic 26, 3) := by decide +kernel
theorem dX1_fit_21 : decode cX1_fit 21 = .ok (.aload_n 0, 1) := by decide +kernel
theorem dX1_fit_22 : decode cX1_fit 22 = .ok (.iload_n 1, 1) := by decide +kernel
theorem dX1_fit_23 : decode cX1_fit 23 = .ok (.invokevirtual 30, 3) := by decide +kernel
theorem dX1_fit_26 : decode cX1_fit 26 = .ok (.astore_n 3, 1) := by decide +kernel
theorem dX1_fit_27 : decode cX1_fit 27 = .ok (.aload_n 3, 1) := by decide +kernel
theorem dX1_fit_28 : decode cX1_fit 28 = .ok (.ifnonnull 19, 3) := by decide +kernel
theorem dX1_fit_31 : decode cX1_fit 31 = .ok (.aload_n 0, 1) := by decide +kernel
theorem dX1_fit_32 : decode cX1_fit 32 = .ok (.getfield 11, 3) := by decide +kernel
theorem dX1_fit_35 : decode cX1_fit 35 = .ok (.iload_n 1, 1) := by decide +kernel
theorem dX1_fit_36 : decode cX1_fit 36 = .ok (.new 9, 3) := by decide +kernel
theorem dX1_fit_39 : decode cX1_fit 39 = .ok (.dup, 1) := by decide +kernel
theorem dX1_fit_40 : decode cX1_fit 40 = .ok (.iload_n 2, 1) := by decide +kernel
theorem dX1_fit_41 : decode cX1_fit 41 = .ok (.invokespecial 34, 3) := by decide +kernel
theorem dX1_fit_44 : decode cX1_fit 44 = .ok (.aastore, 1) := by decide +kernel
theorem dX1_fit_45 : decode cX1_fit 45 = .ok (.iconst 0, 1) := by decide +kernel
theorem dX1_fit_46 : decode cX1_fit 46 = .ok (.ireturn, 1) := by decide +kernel
theorem dX1_fit_47 : decode cX1_fit 47 = .ok (.aload_n 3, 1) := by decide +kernel
theorem dX1_fit_48 : decode cX1_fit 48 = .ok (.getfield 36, 3) := by decide +kernel
theorem dX1_fit_51 : decode cX1_fit 51 = .ok (.iload_n 2, 1) := by decide +kernel
theorem dX1_fit_52 : decode cX1_fit 52 = .ok (.if_icmp .eq 26, 3) := by decide +kernel
theorem dX1_fit_55 : decode cX1_fit 55 = .ok (.aload_n 0, 1) := by decide +kernel
theorem dX1_fit_56 : decode cX1_fit 56 = .ok (.iload_n 1, 1) := by decide +kernel
theorem dX1_fit_57 : decode cX1_fit 57 = .ok (.invokevirtual 40, 3) := by decide +kernel
theorem dX1_fit_60 : decode cX1_fit 60 = .ok (.aload_n 3, 1) := by decide +kernel
theorem dX1_fit_61 : decode cX1_fit 61 = .ok (.iload_n 1, 1) := by decide +kernel
theorem dX1_fit_62 : decode cX1_fit 62 = .ok (.invokevirtual 44, 3) := by decide +kernel
theorem dX1_fit_65 : decode cX1_fit 65 = .ok (.if_icmp .le 13, 3) := by decide +kernel
theorem dX1_fit_68 : decode cX1_fit 68 = .ok (.new 47, 3) := by decide +kernel
theorem dX1_fit_71 : decode cX1_fit 71 = .ok (.dup, 1) := by decide +kernel
theorem dX1_fit_72 : decode cX1_fit 72 = .ok (.ldc 49, 2) := by decide +kernel
theorem dX1_fit_74 : decode cX1_fit 74 = .ok (.invokespecial 51, 3) := by decide +kernel
theorem dX1_fit_77 : decode cX1_fit 77 = .ok (.athrow, 1) := by decide +kernel
theorem dX1_fit_78 : decode cX1_fit 78 = .ok (.aload_n 3, 1) := by decide +kernel
theorem dX1_fit_79 : decode cX1_fit 79 = .ok (.iload_n 2, 1) := by decide +kernel
theorem dX1_fit_80 : decode cX1_fit 80 = .ok (.invokevirtual 52, 3) := by decide +kernel
theorem dX1_fit_83 : decode cX1_fit 83 = .ok (.iconst 1, 1) := by decide +kernel
theorem dX1_fit_84 : decode cX1_fit 84 = .ok (.ireturn, 1) := by decide +kernel
set_option maxRecDepth 20000 in
theorem ggX1_step_X1_needGauge : GoodIn wsX1_step wsX1_needGauge := goodIn_ca (goodIn_r _ [5, 6, 7, 8, 9, 10, 4, 11, 12, 13, 14, 15, 48] (by decide +kernel) (by decide +kernel)) (goodIn_sub (fun _ h => List.mem_cons_of_mem _ (List.mem_append_left _ (List.mem_append_left _ (List.mem_append_right _ h)))) (by decide +kernel))
set_option maxRecDepth 20000 in
theorem gX1_step_X1_needGauge : GoodIn wsX1_step (wsV RX1 55 RX1 yX1_needGauge wsX1_needGauge) := goodIn_app (goodIn_of _ (by decide +kernel)) ggX1_step_X1_needGauge
set_option maxRecDepth 20000 in
theorem ggX1_step_X1_needSort : GoodIn wsX1_step wsX1_needSort := goodIn_ca (goodIn_r _ [18, 19, 20, 21, 22, 4, 23, 24, 25, 26] (by decide +kernel) (by decide +kernel)) (goodIn_sub (fun _ h => List.mem_cons_of_mem _ (List.mem_append_left _ (List.mem_append_right _ h))) (by decide +kernel))
set_option maxRecDepth 20000 in
theorem gX1_step_X1_needSort : GoodIn wsX1_step (va_wsS RX1 58 yX1_needSort wsX1_needSort) := goodIn_app (goodIn_of _ (by decide +kernel)) ggX1_step_X1_needSort
set_option maxRecDepth 20000 in
theorem ggX1_step_X0_addStep : GoodIn wsX1_step wsX0_addStep := goodIn_ca (goodIn_r _ [30, 31, 32, 33, 34, 35, 36, 37, 38, 39, 40, 41, 42, 43, 44, 45, 46, 47] (by decide +kernel) (by decide +kernel)) (goodIn_sub (fun _ h => List.mem_cons_of_mem _ (List.mem_append_right _ h)) (by decide +kernel))
set_option maxRecDepth 20000 in
theorem gX1_step_X0_addStep_n62 : GoodIn wsX1_step (wsX0_addStep) := ggX1_step_X0_addStep
theorem dX1_step_0 : decode cX1_step 0 = .ok (.aload_n 0, 1) := by decide +kernel
theorem dX1_step_1 : decode cX1_step 1 = .ok (.iload_n 1, 1) := by decide +kernel
theorem dX1_step_2 : decode cX1_step 2 = .ok (.invokevirtual 55, 3) := by decide +kernel
theorem dX1_step_5 : decode cX1_step 5 = .ok (.astore_n 3, 1) := by decide +kernel
theorem dX1_step_6 : decode cX1_step 6 = .ok (.aload_n 3, 1) := by decide +kernel
theorem dX1_step_7 : decode cX1_step 7 = .ok (.getfield 36, 3) := by decide +kernel
theorem dX1_step_10 : decode cX1_step 10 = .ok (.iload_n 2, 1) := by decide +kernel
theorem dX1_step_11 : decode cX1_step 11 = .ok (.iconst 0, 1) := by decide +kernel
theorem dX1_step_12 : decode cX1_step 12 = .ok (.invokestatic 58, 3) := by decide +kernel
theorem dX1_step_15 : decode cX1_step 15 = .ok (.aload_n 3, 1) := by decide +kernel
theorem dX1_step_16 : decode cX1_step 16 = .ok (.iload_n 2, 1) := by decide +kernel
theorem dX1_step_17 : decode cX1_step 17 = .ok (.iconst (-1), 1) := by decide +kernel
theorem dX1_step_18 : decode cX1_step 18 = .ok (.lconst 0, 1) := by decide +kernel
theorem dX1_step_19 : decode cX1_step 19 = .ok (.invokevirtual 62, 3) := by decide +kernel
theorem dX1_step_22 : decode cX1_step 22 = .ok (.ireturn, 1) := by decide +kernel
set_option maxRecDepth 20000 in
theorem ggX1_stepBy_X1_needGauge : GoodIn wsX1_stepBy wsX1_needGauge := goodIn_ca (goodIn_r _ [5, 6, 7, 8, 9, 10, 4, 11, 12, 13, 14, 15, 59] (by decide +kernel) (by decide +kernel)) (goodIn_sub (fun _ h => List.mem_cons_of_mem _ (List.mem_append_left _ (List.mem_append_left _ (List.mem_append_right _ h)))) (by decide +kernel))
set_option maxRecDepth 20000 in
theorem gX1_stepBy_X1_needGauge : GoodIn wsX1_stepBy (wsV RX1 55 RX1 yX1_needGauge wsX1_needGauge) := goodIn_app (goodIn_of _ (by decide +kernel)) ggX1_stepBy_X1_needGauge
set_option maxRecDepth 20000 in
theorem ggX1_stepBy_X1_needSort : GoodIn wsX1_stepBy wsX1_needSort := goodIn_ca (goodIn_r _ [18, 19, 20, 21, 22, 4, 23, 24, 25, 26] (by decide +kernel) (by decide +kernel)) (goodIn_sub (fun _ h => List.mem_cons_of_mem _ (List.mem_append_left _ (List.mem_append_right _ h))) (by decide +kernel))
set_option maxRecDepth 20000 in
theorem gX1_stepBy_X1_needSort : GoodIn wsX1_stepBy (va_wsS RX1 58 yX1_needSort wsX1_needSort) := goodIn_app (goodIn_of _ (by decide +kernel)) ggX1_stepBy_X1_needSort
set_option maxRecDepth 20000 in
theorem ggX1_stepBy_X1_needGood : GoodIn wsX1_stepBy wsX1_needGood := goodIn_ca (goodIn_r _ [29, 19, 20, 30, 31, 4, 32, 33, 34, 35, 36, 37] (by decide +kernel) (by decide +kernel)) (goodIn_sub (fun _ h => List.mem_cons_of_mem _ (List.mem_append_left _ (List.mem_append_right _ h))) (by decide +kernel))
set_option maxRecDepth 20000 in
theorem gX1_stepBy_X1_needGood : GoodIn wsX1_stepBy (va_wsS RX1 66 yX1_needGood wsX1_needGood) := goodIn_app (goodIn_of _ (by decide +kernel)) ggX1_stepBy_X1_needGood
set_option maxRecDepth 20000 in
theorem ggX1_stepBy_X0_addStep : GoodIn wsX1_stepBy wsX0_addStep := goodIn_ca (goodIn_r _ [41, 42, 43, 44, 45, 46, 47, 48, 49, 50, 51, 52, 53, 54, 55, 56, 57, 58] (by decide +kernel) (by decide +kernel)) (goodIn_sub (fun _ h => List.mem_cons_of_mem _ (List.mem_append_right _ h)) (by decide +kernel))
set_option maxRecDepth 20000 in
theorem gX1_stepBy_X0_addStep_n62 : GoodIn wsX1_stepBy (wsX0_addStep) := ggX1_stepBy_X0_addStep
theorem dX1_stepBy_0 : decode cX1_stepBy 0 = .ok (.aload_n 0, 1) := by decide +kernel
theorem dX1_stepBy_1 : decode cX1_stepBy 1 = .ok (.iload_n 1, 1) := by decide +kernel
theorem dX1_stepBy_2 : decode cX1_stepBy 2 = .ok (.invokevirtual 55, 3) := by decide +kernel
theorem dX1_stepBy_5 : decode cX1_stepBy 5 = .ok (.astore 5, 2) := by decide +kernel
theorem dX1_stepBy_7 : decode cX1_stepBy 7 = .ok (.aload 5, 2) := by decide +kernel
theorem dX1_stepBy_9 : decode cX1_stepBy 9 = .ok (.getfield 36, 3) := by decide +kernel
theorem dX1_stepBy_12 : decode cX1_stepBy 12 = .ok (.iload_n 2, 1) := by decide +kernel
theorem dX1_stepBy_13 : decode cX1_stepBy 13 = .ok (.iconst 1, 1) := by decide +kernel
theorem dX1_stepBy_14 : decode cX1_stepBy 14 = .ok (.invokestatic 58, 3) := by decide +kernel
theorem dX1_stepBy_17 : decode cX1_stepBy 17 = .ok (.aload 5, 2) := by decide +kernel
theorem dX1_stepBy_19 : decode cX1_stepBy 19 = .ok (.getfield 36, 3) := by decide +kernel
theorem dX1_stepBy_22 : decode cX1_stepBy 22 = .ok (.lload_n 3, 1) := by decide +kernel
theorem dX1_stepBy_23 : decode cX1_stepBy 23 = .ok (.invokestatic 66, 3) := by decide +kernel
theorem dX1_stepBy_26 : decode cX1_stepBy 26 = .ok (.aload 5, 2) := by decide +kernel
theorem dX1_stepBy_28 : decode cX1_stepBy 28 = .ok (.iload_n 2, 1) := by decide +kernel
theorem dX1_stepBy_29 : decode cX1_stepBy 29 = .ok (.iconst (-1), 1) := by decide +kernel
theorem dX1_stepBy_30 : decode cX1_stepBy 30 = .ok (.lload_n 3, 1) := by decide +kernel
theorem dX1_stepBy_31 : decode cX1_stepBy 31 = .ok (.invokevirtual 62, 3) := by decide +kernel
theorem dX1_stepBy_34 : decode cX1_stepBy 34 = .ok (.ireturn, 1) := by decide +kernel
set_option maxRecDepth 20000 in
theorem ggX1_stepOf_X1_needGauge : GoodIn wsX1_stepOf wsX1_needGauge := goodIn_ca (goodIn_r _ [7, 8, 9, 10, 11, 12, 6, 13, 14, 15, 16, 17, 48] (by decide +kernel) (by decide +kernel)) (goodIn_sub (fun _ h => List.mem_cons_of_mem _ (List.mem_append_left _ (List.mem_append_right _ h))) (by decide +kernel))
set_option maxRecDepth 20000 in
theorem gX1_stepOf_X1_needGauge : GoodIn wsX1_stepOf (wsV RX1 55 RX1 yX1_needGauge wsX1_needGauge) := goodIn_app (goodIn_of _ (by decide +kernel)) ggX1_stepOf_X1_needGauge
set_option maxRecDepth 20000 in
theorem ggX1_stepOf_X1_needSort : GoodIn wsX1_stepOf wsX1_needSort := goodIn_ca (goodIn_r _ [20, 1, 2, 21, 22, 6, 23, 24, 25, 26] (by decide +kernel) (by decide +kernel)) (goodIn_sub (fun _ h => List.mem_cons_of_mem _ (List.mem_append_left _ (List.mem_append_left _ (List.mem_append_right _ h)))) (by decide +kernel))
set_option maxRecDepth 20000 in
theorem gX1_stepOf_X1_needSort : GoodIn wsX1_stepOf (va_wsS RX1 58 yX1_needSort wsX1_needSort) := goodIn_app (goodIn_of _ (by decide +kernel)) ggX1_stepOf_X1_needSort
set_option maxRecDepth 20000 in
theorem ggX1_stepOf_X0_addStep : GoodIn wsX1_stepOf wsX0_addStep := goodIn_ca (goodIn_r _ [30, 31, 32, 33, 34, 35, 36, 37, 38, 39, 40, 41, 42, 43, 44, 45, 46, 47] (by decide +kernel) (by decide +kernel)) (goodIn_sub (fun _ h => List.mem_cons_of_mem _ (List.mem_append_right _ h)) (by decide +kernel))
set_option maxRecDepth 20000 in
theorem gX1_stepOf_X0_addStep_n62 : GoodIn wsX1_stepOf (wsX0_addStep) := ggX1_stepOf_X0_addStep
theorem dX1_stepOf_0 : decode cX1_stepOf 0 = .ok (.aload_n 0, 1) := by decide +kernel
theorem dX1_stepOf_1 : decode cX1_stepOf 1 = .ok (.iload_n 1, 1) := by decide +kernel
theorem dX1_stepOf_2 : decode cX1_stepOf 2 = .ok (.invokevirtual 55, 3) := by decide +kernel
theorem dX1_stepOf_5 : decode cX1_stepOf 5 = .ok (.astore 4, 2) := by decide +kernel
theorem dX1_stepOf_7 : decode cX1_stepOf 7 = .ok (.aload_n 0, 1) := by decide +kernel
theorem dX1_stepOf_8 : decode cX1_stepOf 8 = .ok (.iload_n 3, 1) := by decide +kernel
theorem dX1_stepOf_9 : decode cX1_stepOf 9 = .ok (.invokevirtual 55, 3) := by decide +kernel
theorem dX1_stepOf_12 : decode cX1_stepOf 12 = .ok (.astore 5, 2) := by decide +kernel
theorem dX1_stepOf_14 : decode cX1_stepOf 14 = .ok (.aload 4, 2) := by decide +kernel
theorem dX1_stepOf_16 : decode cX1_stepOf 16 = .ok (.getfield 36, 3) := by decide +kernel
theorem dX1_stepOf_19 : decode cX1_stepOf 19 = .ok (.iload_n 2, 1) := by decide +kernel
theorem dX1_stepOf_20 : decode cX1_stepOf 20 = .ok (.iconst 1, 1) := by decide +kernel
theorem dX1_stepOf_21 : decode cX1_stepOf 21 = .ok (.invokestatic 58, 3) := by decide +kernel
theorem dX1_stepOf_24 : decode cX1_stepOf 24 = .ok (.aload 5, 2) := by decide +kernel
theorem dX1_stepOf_26 : decode cX1_stepOf 26 = .ok (.getfield 36, 3) := by decide +kernel
theorem dX1_stepOf_29 : decode cX1_stepOf 29 = .ok (.aload 4, 2) := by decide +kernel
theorem dX1_stepOf_31 : decode cX1_stepOf 31 = .ok (.getfield 36, 3) := by decide +kernel
theorem dX1_stepOf_34 : decode cX1_stepOf 34 = .ok (.if_icmp .eq 13, 3) := by decide +kernel
theorem dX1_stepOf_37 : decode cX1_stepOf 37 = .ok (.new 70, 3) := by decide +kernel
theorem dX1_stepOf_40 : decode cX1_stepOf 40 = .ok (.dup, 1) := by decide +kernel
theorem dX1_stepOf_41 : decode cX1_stepOf 41 = .ok (.ldc 72, 2) := by decide +kernel
theorem dX1_stepOf_43 : decode cX1_stepOf 43 = .ok (.invokespecial 74, 3) := by decide +kernel
theorem dX1_stepOf_46 : decode cX1_stepOf 46 = .ok (.athrow, 1) := by decide +kernel
theorem dX1_stepOf_47 : decode cX1_stepOf 47 = .ok (.aload 4, 2) := by decide +kernel
theorem dX1_stepOf_49 : decode cX1_stepOf 49 = .ok (.iload_n 2, 1) := by decide +kernel
theorem dX1_stepOf_50 : decode cX1_stepOf 50 = .ok (.iload_n 3, 1) := by decide +kernel
theorem dX1_stepOf_51 : decode cX1_stepOf 51 = .ok (.lconst 0, 1) := by decide +kernel
theorem dX1_stepOf_52 : decode cX1_stepOf 52 = .ok (.invokevirtual 62, 3) := by decide +kernel
theorem dX1_stepOf_55 : decode cX1_stepOf 55 = .ok (.ireturn, 1) := by decide +kernel
set_option maxRecDepth 20000 in
theorem ggX1_bare_X1_needGauge : GoodIn wsX1_bare wsX1_needGauge := goodIn_ca (goodIn_r _ [5, 6, 7, 8, 9, 10, 4, 11, 12, 13, 14, 15, 27] (by decide +kernel) (by decide +kernel)) (goodIn_sub (fun _ h => List.mem_cons_of_mem _ (List.mem_append_right _ h)) (by decide +kernel))
set_option maxRecDepth 20000 in
theorem gX1_bare_X1_needGauge : GoodIn wsX1_bare (wsV RX1 55 RX1 yX1_needGauge wsX1_needGauge) := goodIn_app (goodIn_of _ (by decide +kernel)) ggX1_bare_X1_needGauge
theorem dX1_bare_0 : decode cX1_bare 0 = .ok (.aload_n 0, 1) := by decide +kernel
theorem dX1_bare_1 : decode cX1_bare 1 = .ok (.iload_n 1, 1) := by decide +kernel
theorem dX1_bare_2 : decode cX1_bare 2 = .ok (.invokevirtual 55, 3) := by decide +kernel
theorem dX1_bare_5 : decode cX1_bare 5 = .ok (.astore_n 2, 1) := by decide +kernel
theorem dX1_bare_6 : decode cX1_bare 6 = .ok (.aload_n 2, 1) := by decide +kernel
theorem dX1_bare_7 : decode cX1_bare 7 = .ok (.getfield 75, 3) := by decide +kernel
theorem dX1_bare_10 : decode cX1_bare 10 = .ok (.istore_n 3, 1) := by decide +kernel
theorem dX1_bare_11 : decode cX1_bare 11 = .ok (.aload_n 2, 1) := by decide +kernel
theorem dX1_bare_12 : decode cX1_bare 12 = .ok (.iconst 0, 1) := by decide +kernel
theorem dX1_bare_13 : decode cX1_bare 13 = .ok (.putfield 75, 3) := by decide +kernel
theorem dX1_bare_16 : decode cX1_bare 16 = .ok (.iload_n 3, 1) := by decide +kernel
theorem dX1_bare_17 : decode cX1_bare 17 = .ok (.ireturn, 1) := by decide +kernel
set_option maxRecDepth 20000 in
theorem ggX1_read_X1_needGauge : GoodIn wsX1_read wsX1_needGauge := goodIn_ca (goodIn_r _ [5, 6, 7, 8, 9, 10, 4, 11, 12, 13, 14, 15, 118] (by decide +kernel) (by decide +kernel)) (goodIn_sub (fun _ h => List.mem_cons_of_mem _ (List.mem_append_left _ (List.mem_append_right _ h))) (by decide +kernel))
set_option maxRecDepth 20000 in
theorem gX1_read_X1_needGauge : GoodIn wsX1_read (wsV RX1 55 RX1 yX1_needGauge wsX1_needGauge) := goodIn_app (goodIn_of _ (by decide +kernel)) ggX1_read_X1_needGauge
set_option maxRecDepth 20000 in
theorem ggX1_read_X1_needGood : GoodIn wsX1_read wsX1_needGood := goodIn_ca (goodIn_r _ [18, 19, 20, 21, 22, 4, 23, 24, 25, 26, 27, 28] (by decide +kernel) (by decide +kernel)) (goodIn_sub (fun _ h => List.mem_cons_of_mem _ (List.mem_append_right _ h)) (by decide +kernel))
set_option maxRecDepth 20000 in
theorem gX1_read_X1_needGood : GoodIn wsX1_read (va_wsS RX1 66 yX1_needGood wsX1_needGood) := goodIn_app (goodIn_of _ (by decide +kernel)) ggX1_read_X1_needGood
set_option maxRecDepth 20000 in
theorem ggX1_read_X1_takeReading : GoodIn wsX1_read wsX1_takeReading := goodIn_r _ [32, 33, 34, 35, 4, 36, 8, 9, 10, 11, 12, 13, 14, 15, 37, 38, 39, 40, 41, 42, 43, 26, 44, 45, 46, 47, 48, 49, 50, 51, 52, 53, 54, 55, 56, 57, 58, 59, 24, 60, 61, 62, 63, 64, 65, 66, 67, 68, 69, 70, 71, 72, 73, 74, 75, 76, 77, 78, 79, 80, 81, 82, 83, 84, 85, 86, 87, 88, 89, 90, 91, 92, 93, 94, 95, 96, 97, 98, 99, 100, 101, 102, 103, 104, 105, 106, 107, 108, 109, 110, 111, 112, 113, 114, 115, 116, 117, 118] (by decide +kernel) (by decide +kernel)
set_option maxRecDepth 20000 in
theorem gX1_read_X1_takeReading : GoodIn wsX1_read (wsV RX1 78 RX1 yX1_takeReading wsX1_takeReading) := goodIn_app (goodIn_of _ (by decide +kernel)) ggX1_read_X1_takeReading
theorem dX1_read_0 : decode cX1_read 0 = .ok (.aload_n 0, 1) := by decide +kernel
theorem dX1_read_1 : decode cX1_read 1 = .ok (.iload_n 1, 1) := by decide +kernel
theorem dX1_read_2 : decode cX1_read 2 = .ok (.invokevirtual 55, 3) := by decide +kernel
theorem dX1_read_5 : decode cX1_read 5 = .ok (.astore 4, 2) := by decide +kernel
theorem dX1_read_7 : decode cX1_read 7 = .ok (.aload 4, 2) := by decide +kernel
theorem dX1_read_9 : decode cX1_read 9 = .ok (.getfield 36, 3) := by decide +kernel
theorem dX1_read_12 : decode cX1_read 12 = .ok (.lload_n 2, 1) := by decide +kernel
theorem dX1_read_13 : decode cX1_read 13 = .ok (.invokestatic 66, 3) := by decide +kernel
theorem dX1_read_16 : decode cX1_read 16 = .ok (.aload_n 0, 1) := by decide +kernel
theorem dX1_read_17 : decode cX1_read 17 = .ok (.aload 4, 2) := by decide +kernel
theorem dX1_read_19 : decode cX1_read 19 = .ok (.lload_n 2, 1) := by decide +kernel
theorem dX1_read_20 : decode cX1_read 20 = .ok (.invokevirtual 78, 3) := by decide +kernel
theorem dX1_read_23 : decode cX1_read 23 = .ok (.lreturn, 1) := by decide +kernel
set_option maxRecDepth 20000 in
theorem ggX1_hand_X1_needGauge : GoodIn wsX1_hand wsX1_needGauge := goodIn_ca (goodIn_r _ [7, 8, 9, 10, 11, 12, 6, 13, 14, 15, 16, 17, 135] (by decide +kernel) (by decide +kernel)) (goodIn_sub (fun _ h => List.mem_cons_of_mem _ (List.mem_append_right _ h)) (by decide +kernel))
set_option maxRecDepth 20000 in
theorem gX1_hand_X1_needGauge : GoodIn wsX1_hand (wsV RX1 55 RX1 yX1_needGauge wsX1_needGauge) := goodIn_app (goodIn_of _ (by decide +kernel)) ggX1_hand_X1_needGauge
set_option maxRecDepth 20000 in
theorem ggX1_hand_X1_canHandOn : GoodIn wsX1_hand wsX1_canHandOn := goodIn_r _ [20] (by decide +kernel) (by decide +kernel)
set_option maxRecDepth 20000 in
theorem gX1_hand_X1_canHandOn : GoodIn wsX1_hand (va_wsS RX1 84 yX1_canHandOn wsX1_canHandOn) := goodIn_app (goodIn_of _ (by decide +kernel)) ggX1_hand_X1_canHandOn
set_option maxRecDepth 20000 in
theorem ggX1_hand_X1_handedOn : GoodIn wsX1_hand wsX1_handedOn := goodIn_r _ [23, 24, 25, 6, 26, 27, 28, 29, 30, 31, 32, 33, 34, 35, 36, 37, 38, 39, 40, 41, 42, 43, 44, 45, 46, 47, 48, 49, 50, 51, 52, 53, 54] (by decide +kernel) (by decide +kernel)
set_option maxRecDepth 20000 in
theorem gX1_hand_X1_handedOn : GoodIn wsX1_hand (va_wsS RX1 94 yX1_handedOn wsX1_handedOn) := goodIn_app (goodIn_of _ (by decide +kernel)) ggX1_hand_X1_handedOn
set_option maxRecDepth 20000 in
theorem ggX1_hand_X1_takeReading : GoodIn wsX1_hand wsX1_takeReading := goodIn_r _ [58, 59, 60, 61, 6, 62, 10, 11, 12, 13, 14, 15, 16, 17, 63, 64, 65, 66, 67, 68, 69, 53, 54, 70, 71, 72, 50, 51, 52, 73, 74, 75, 76, 77, 78, 79, 80, 81, 82, 83, 84, 85, 86, 87, 88, 89, 90, 47, 48, 49, 91, 92, 93, 94, 95, 96, 97, 98, 99, 100, 101, 102, 103, 104, 105, 106, 107, 108, 109, 110, 44, 45, 46, 111, 112, 113, 114, 115, 116, 117, 118, 119, 120, 121, 122, 123, 124, 125, 126, 127, 128, 129, 130, 131, 132, 133, 134, 135] (by decide +kernel) (by decide +kernel)
set_option maxRecDepth 20000 in
theorem gX1_hand_X1_takeReading : GoodIn wsX1_hand (wsV RX1 78 RX1 yX1_takeReading wsX1_takeReading) := goodIn_app (goodIn_of _ (by decide +kernel)) ggX1_hand_X1_takeReading
theorem dX1_hand_0 : decode cX1_hand 0 = .ok (.aload_n 0, 1) := by decide +kernel
theorem dX1_hand_1 : decode cX1_hand 1 = .ok (.iload_n 1, 1) := by decide +kernel
theorem dX1_hand_2 : decode cX1_hand 2 = .ok (.invokevirtual 55, 3) := by decide +kernel
theorem dX1_hand_5 : decode cX1_hand 5 = .ok (.astore_n 3, 1) := by decide +kernel
theorem dX1_hand_6 : decode cX1_hand 6 = .ok (.aload_n 0, 1) := by decide +kernel
theorem dX1_hand_7 : decode cX1_hand 7 = .ok (.iload_n 2, 1) := by decide +kernel
theorem dX1_hand_8 : decode cX1_hand 8 = .ok (.invokevirtual 55, 3) := by decide +kernel
theorem dX1_hand_11 : decode cX1_hand 11 = .ok (.astore 4, 2) := by decide +kernel
theorem dX1_hand_13 : decode cX1_hand 13 = .ok (.iload_n 1, 1) := by decide +kernel
theorem dX1_hand_14 : decode cX1_hand 14 = .ok (.iload_n 2, 1) := by decide +kernel
theorem dX1_hand_15 : decode cX1_hand 15 = .ok (.if_icmp .ne 13, 3) := by decide +kernel
theorem dX1_hand_18 : decode cX1_hand 18 = .ok (.new 70, 3) := by decide +kernel
theorem dX1_hand_21 : decode cX1_hand 21 = .ok (.dup, 1) := by decide +kernel
theorem dX1_hand_22 : decode cX1_hand 22 = .ok (.ldc 82, 2) := by decide +kernel
theorem dX1_hand_24 : decode cX1_hand 24 = .ok (.invokespecial 74, 3) := by decide +kernel
theorem dX1_hand_27 : decode cX1_hand 27 = .ok (.athrow, 1) := by decide +kernel
theorem dX1_hand_28 : decode cX1_hand 28 = .ok (.aload_n 3, 1) := by decide +kernel
theorem dX1_hand_29 : decode cX1_hand 29 = .ok (.getfield 36, 3) := by decide +kernel
theorem dX1_hand_32 : decode cX1_hand 32 = .ok (.aload 4, 2) := by decide +kernel
theorem dX1_hand_34 : decode cX1_hand 34 = .ok (.getfield 36, 3) := by decide +kernel
theorem dX1_hand_37 : decode cX1_hand 37 = .ok (.invokestatic 84, 3) := by decide +kernel
theorem dX1_hand_40 : decode cX1_hand 40 = .ok (.ifCond .ne 13, 3) := by decide +kernel
theorem dX1_hand_43 : decode cX1_hand 43 = .ok (.new 70, 3) := by decide +kernel
theorem dX1_hand_46 : decode cX1_hand 46 = .ok (.dup, 1) := by decide +kernel
theorem dX1_hand_47 : decode cX1_hand 47 = .ok (.ldc 88, 2) := by decide +kernel
theorem dX1_hand_49 : decode cX1_hand 49 = .ok (.invokespecial 74, 3) := by decide +kernel
theorem dX1_hand_52 : decode cX1_hand 52 = .ok (.athrow, 1) := by decide +kernel
theorem dX1_hand_53 : decode cX1_hand 53 = .ok (.aload_n 0, 1) := by decide +kernel
theorem dX1_hand_54 : decode cX1_hand 54 = .ok (.aload 4, 2) := by decide +kernel
theorem dX1_hand_56 : decode cX1_hand 56 = .ok (.aload_n 3, 1) := by decide +kernel
theorem dX1_hand_57 : decode cX1_hand 57 = .ok (.getfield 90, 3) := by decide +kernel
theorem dX1_hand_60 : decode cX1_hand 60 = .ok (.aload_n 3, 1) := by decide +kernel
theorem dX1_hand_61 : decode cX1_hand 61 = .ok (.getfield 36, 3) := by decide +kernel
theorem dX1_hand_64 : decode cX1_hand 64 = .ok (.aload 4, 2) := by decide +kernel
theorem dX1_hand_66 : decode cX1_hand 66 = .ok (.getfield 36, 3) := by decide +kernel
theorem dX1_hand_69 : decode cX1_hand 69 = .ok (.invokestatic 94, 3) := by decide +kernel
theorem dX1_hand_72 : decode cX1_hand 72 = .ok (.invokevirtual 78, 3) := by decide +kernel
theorem dX1_hand_75 : decode cX1_hand 75 = .ok (.lreturn, 1) := by decide +kernel
set_option maxRecDepth 20000 in
theorem ggX1_clear_X1_needGauge : GoodIn wsX1_clear wsX1_needGauge := goodIn_ca (goodIn_r _ [5, 6, 7, 8, 9, 10, 4, 11, 12, 13, 14, 15, 27] (by decide +kernel) (by decide +kernel)) (goodIn_sub (fun _ h => List.mem_cons_of_mem _ (List.mem_append_right _ h)) (by decide +kernel))
set_option maxRecDepth 20000 in
theorem gX1_clear_X1_needGauge : GoodIn wsX1_clear (wsV RX1 55 RX1 yX1_needGauge wsX1_needGauge) := goodIn_app (goodIn_of _ (by decide +kernel)) ggX1_clear_X1_needGauge
theorem dX1_clear_0 : decode cX1_clear 0 = .ok (.aload_n 0, 1) := by decide +kernel
theorem dX1_clear_1 : decode cX1_clear 1 = .ok (.iload_n 1, 1) := by decide +kernel
theorem dX1_clear_2 : decode cX1_clear 2 = .ok (.invokevirtual 55, 3) := by decide +kernel
theorem dX1_clear_5 : decode cX1_clear 5 = .ok (.astore_n 2, 1) := by decide +kernel
theorem dX1_clear_6 : decode cX1_clear 6 = .ok (.aload_n 2, 1) := by decide +kernel
theorem dX1_clear_7 : decode cX1_clear 7 = .ok (.getfield 98, 3) := by decide +kernel
theorem dX1_clear_10 : decode cX1_clear 10 = .ok (.istore_n 3, 1) := by decide +kernel
theorem dX1_clear_11 : decode cX1_clear 11 = .ok (.aload_n 2, 1) := by decide +kernel
theorem dX1_clear_12 : decode cX1_clear 12 = .ok (.iconst 0, 1) := by decide +kernel
theorem dX1_clear_13 : decode cX1_clear 13 = .ok (.putfield 98, 3) := by decide +kernel
theorem dX1_clear_16 : decode cX1_clear 16 = .ok (.iload_n 3, 1) := by decide +kernel
theorem dX1_clear_17 : decode cX1_clear 17 = .ok (.ireturn, 1) := by decide +kernel
set_option maxRecDepth 20000 in
theorem ggX1_value_X1_needGauge : GoodIn wsX1_value wsX1_needGauge := goodIn_ca (goodIn_r _ [5, 6, 7, 8, 9, 10, 4, 11, 12, 13, 14, 15, 27] (by decide +kernel) (by decide +kernel)) (goodIn_sub (fun _ h => List.mem_cons_of_mem _ (List.mem_append_right _ h)) (by decide +kernel))
set_option maxRecDepth 20000 in
theorem gX1_value_X1_needGauge : GoodIn wsX1_value (wsV RX1 55 RX1 yX1_needGauge wsX1_needGauge) := goodIn_app (goodIn_of _ (by decide +kernel)) ggX1_value_X1_needGauge
theorem dX1_value_0 : decode cX1_value 0 = .ok (.aload_n 0, 1) := by decide +kernel
theorem dX1_value_1 : decode cX1_value 1 = .ok (.iload_n 1, 1) := by decide +kernel
theorem dX1_value_2 : decode cX1_value 2 = .ok (.invokevirtual 55, 3) := by decide +kernel
theorem dX1_value_5 : decode cX1_value 5 = .ok (.getfield 90, 3) := by decide +kernel
theorem dX1_value_8 : decode cX1_value 8 = .ok (.lreturn, 1) := by decide +kernel
set_option maxRecDepth 20000 in
theorem ggX1_mark_X1_needGauge : GoodIn wsX1_mark wsX1_needGauge := goodIn_ca (goodIn_r _ [7, 8, 9, 10, 11, 12, 6, 13, 14, 15, 16, 17, 29] (by decide +kernel) (by decide +kernel)) (goodIn_sub (fun _ h => List.mem_cons_of_mem _ (List.mem_append_right _ h)) (by decide +kernel))
set_option maxRecDepth 20000 in
theorem gX1_mark_X1_needGauge : GoodIn wsX1_mark (wsV RX1 55 RX1 yX1_needGauge wsX1_needGauge) := goodIn_app (goodIn_of _ (by decide +kernel)) ggX1_mark_X1_needGauge
theorem dX1_mark_0 : decode cX1_mark 0 = .ok (.aload_n 0, 1) := by decide +kernel
theorem dX1_mark_1 : decode cX1_mark 1 = .ok (.iload_n 1, 1) := by decide +kernel
theorem dX1_mark_2 : decode cX1_mark 2 = .ok (.invokevirtual 55, 3) := by decide +kernel
theorem dX1_mark_5 : decode cX1_mark 5 = .ok (.astore_n 3, 1) := by decide +kernel
theorem dX1_mark_6 : decode cX1_mark 6 = .ok (.aload_n 3, 1) := by decide +kernel
theorem dX1_mark_7 : decode cX1_mark 7 = .ok (.getfield 98, 3) := by decide +kernel
theorem dX1_mark_10 : decode cX1_mark 10 = .ok (.ifCond .ne 13, 3) := by decide +kernel
theorem dX1_mark_13 : decode cX1_mark 13 = .ok (.new 47, 3) := by decide +kernel
theorem dX1_mark_16 : decode cX1_mark 16 = .ok (.dup, 1) := by decide +kernel
theorem dX1_mark_17 : decode cX1_mark 17 = .ok (.ldc 102, 2) := by decide +kernel
theorem dX1_mark_19 : decode cX1_mark 19 = .ok (.invokespecial 51, 3) := by decide +kernel
theorem dX1_mark_22 : decode cX1_mark 22 = .ok (.athrow, 1) := by decide +kernel
theorem dX1_mark_23 : decode cX1_mark 23 = .ok (.iload_n 2, 1) := by decide +kernel
theorem dX1_mark_24 : decode cX1_mark 24 = .ok (.ifCond .eq 10, 3) := by decide +kernel
theorem dX1_mark_27 : decode cX1_mark 27 = .ok (.aload_n 3, 1) := by decide +kernel
theorem dX1_mark_28 : decode cX1_mark 28 = .ok (.getfield 104, 3) := by decide +kernel
theorem dX1_mark_31 : decode cX1_mark 31 = .ok (.goto 7, 3) := by decide +kernel
theorem dX1_mark_34 : decode cX1_mark 34 = .ok (.aload_n 3, 1) := by decide +kernel
theorem dX1_mark_35 : decode cX1_mark 35 = .ok (.getfield 107, 3) := by decide +kernel
theorem dX1_mark_38 : decode cX1_mark 38 = .ok (.lreturn, 1) := by decide +kernel
set_option maxRecDepth 20000 in
theorem ggX1_about_X1_needGauge : GoodIn wsX1_about wsX1_needGauge := goodIn_ca (goodIn_r _ [7, 8, 9, 10, 11, 12, 6, 13, 14, 15, 16, 17, 42] (by decide +kernel) (by decide +kernel)) (goodIn_sub (fun _ h => List.mem_cons_of_mem _ (List.mem_append_right _ h)) (by decide +kernel))
set_option maxRecDepth 20000 in
theorem gX1_about_X1_needGauge : GoodIn wsX1_about (wsV RX1 55 RX1 yX1_needGauge wsX1_needGauge) := goodIn_app (goodIn_of _ (by decide +kernel)) ggX1_about_X1_needGauge
set_option maxRecDepth 20000 in
theorem ggX1_about_X1_signOf : GoodIn wsX1_about wsX1_signOf := goodIn_r _ [20] (by decide +kernel) (by decide +kernel)
set_option maxRecDepth 20000 in
theorem gX1_about_X1_signOf : GoodIn wsX1_about (va_wsS RX1 116 yX1_signOf wsX1_signOf) := goodIn_app (goodIn_of _ (by decide +kernel)) ggX1_about_X1_signOf
set_option maxRecDepth 20000 in
theorem ggX1_about_X1_stepsTaking : GoodIn wsX1_about wsX1_stepsTaking := goodIn_r _ [24, 14, 25, 26, 27, 28, 29, 30, 42, 31, 32, 33, 34, 35, 36, 37, 38, 39, 40, 41] (by decide +kernel) (by decide +kernel)
set_option maxRecDepth 20000 in
theorem gX1_about_X1_stepsTaking : GoodIn wsX1_about (wsV RX1 40 RX1 yX1_stepsTaking wsX1_stepsTaking) := goodIn_app (goodIn_of _ (by decide +kernel)) ggX1_about_X1_stepsTaking
theorem dX1_about_0 : decode cX1_about 0 = .ok (.aload_n 0, 1) := by decide +kernel
theorem dX1_about_1 : decode cX1_about 1 = .ok (.iload_n 1, 1) := by decide +kernel
theorem dX1_about_2 : decode cX1_about 2 = .ok (.invokevirtual 55, 3) := by decide +kernel
theorem dX1_about_5 : decode cX1_about 5 = .ok (.astore_n 3, 1) := by decide +kernel
theorem dX1_about_6 : decode cX1_about 6 = .ok (.iload_n 2, 1) := by decide +kernel
theorem dX1_about_7 : decode cX1_about 7 = .ok (.tableswitch 71 0 5 #[37, 42, 47, 52, 57, 65], 37) := by decide +kernel
theorem dX1_about_44 : decode cX1_about 44 = .ok (.aload_n 3, 1) := by decide +kernel
theorem dX1_about_45 : decode cX1_about 45 = .ok (.getfield 36, 3) := by decide +kernel
theorem dX1_about_48 : decode cX1_about 48 = .ok (.ireturn, 1) := by decide +kernel
theorem dX1_about_49 : decode cX1_about 49 = .ok (.aload_n 3, 1) := by decide +kernel
theorem dX1_about_50 : decode cX1_about 50 = .ok (.getfield 75, 3) := by decide +kernel
theorem dX1_about_53 : decode cX1_about 53 = .ok (.ireturn, 1) := by decide +kernel
theorem dX1_about_54 : decode cX1_about 54 = .ok (.aload_n 3, 1) := by decide +kernel
theorem dX1_about_55 : decode cX1_about 55 = .ok (.getfield 110, 3) := by decide +kernel
theorem dX1_about_58 : decode cX1_about 58 = .ok (.ireturn, 1) := by decide +kernel
theorem dX1_about_59 : decode cX1_about 59 = .ok (.aload_n 3, 1) := by decide +kernel
theorem dX1_about_60 : decode cX1_about 60 = .ok (.getfield 113, 3) := by decide +kernel
theorem dX1_about_63 : decode cX1_about 63 = .ok (.ireturn, 1) := by decide +kernel
theorem dX1_about_64 : decode cX1_about 64 = .ok (.aload_n 3, 1) := by decide +kernel
theorem dX1_about_65 : decode cX1_about 65 = .ok (.getfield 90, 3) := by decide +kernel
theorem dX1_about_68 : decode cX1_about 68 = .ok (.invokestatic 116, 3) := by decide +kernel
theorem dX1_about_71 : decode cX1_about 71 = .ok (.ireturn, 1) := by decide +kernel
theorem dX1_about_72 : decode cX1_about 72 = .ok (.aload_n 0, 1) := by decide +kernel
theorem dX1_about_73 : decode cX1_about 73 = .ok (.iload_n 1, 1) := by decide +kernel
theorem dX1_about_74 : decode cX1_about 74 = .ok (.invokevirtual 40, 3) := by decide +kernel
theorem dX1_about_77 : decode cX1_about 77 = .ok (.ireturn, 1) := by decide +kernel
theorem dX1_about_78 : decode cX1_about 78 = .ok (.new 70, 3) := by decide +kernel
theorem dX1_about_81 : decode cX1_about 81 = .ok (.dup, 1) := by decide +kernel
theorem dX1_about_82 : decode cX1_about 82 = .ok (.ldc 120, 2) := by decide +kernel
theorem dX1_about_84 : decode cX1_about 84 = .ok (.invokespecial 74, 3) := by decide +kernel
theorem dX1_about_87 : decode cX1_about 87 = .ok (.athrow, 1) := by decide +kernel
set_option maxRecDepth 20000 in
theorem ggX1_stepAt_X1_needGauge : GoodIn wsX1_stepAt wsX1_needGauge := goodIn_ca (goodIn_r _ [9, 1, 2, 10, 11, 12, 8, 13, 14, 15, 16, 17, 35] (by decide +kernel) (by decide +kernel)) (goodIn_sub (fun _ h => List.mem_cons_of_mem _ (List.mem_append_left _ (List.mem_append_right _ h))) (by decide +kernel))
set_option maxRecDepth 20000 in
theorem gX1_stepAt_X1_needGauge : GoodIn wsX1_stepAt (wsV RX1 55 RX1 yX1_needGauge wsX1_needGauge) := goodIn_app (goodIn_of _ (by decide +kernel)) ggX1_stepAt_X1_needGauge
set_option maxRecDepth 20000 in
theorem ggX1_stepAt_X1_operandForm : GoodIn wsX1_stepAt wsX1_operandForm := goodIn_r _ [20, 21, 22, 8, 23] (by decide +kernel) (by decide +kernel)
set_option maxRecDepth 20000 in
theorem gX1_stepAt_X1_operandForm : GoodIn wsX1_stepAt (va_wsS RX1 131 yX1_operandForm wsX1_operandForm) := goodIn_app (goodIn_of _ (by decide +kernel)) ggX1_stepAt_X1_operandForm
theorem dX1_stepAt_0 : decode cX1_stepAt 0 = .ok (.aload_n 0, 1) := by decide +kernel
theorem dX1_stepAt_1 : decode cX1_stepAt 1 = .ok (.iload_n 1, 1) := by decide +kernel
theorem dX1_stepAt_2 : decode cX1_stepAt 2 = .ok (.invokevirtual 55, 3) := by decide +kernel
theorem dX1_stepAt_5 : decode cX1_stepAt 5 = .ok (.astore 4, 2) := by decide +kernel
theorem dX1_stepAt_7 : decode cX1_stepAt 7 = .ok (.iload_n 2, 1) := by decide +kernel
theorem dX1_stepAt_8 : decode cX1_stepAt 8 = .ok (.ifCond .lt 12, 3) := by decide +kernel
theorem dX1_stepAt_11 : decode cX1_stepAt 11 = .ok (.iload_n 2, 1) := by decide +kernel
theorem dX1_stepAt_12 : decode cX1_stepAt 12 = .ok (.aload 4, 2) := by decide +kernel
theorem dX1_stepAt_14 : decode cX1_stepAt 14 = .ok (.getfield 75, 3) := by decide +kernel
theorem dX1_stepAt_17 : decode cX1_stepAt 17 = .ok (.if_icmp .lt 13, 3) := by decide +kernel
theorem dX1_stepAt_20 : decode cX1_stepAt 20 = .ok (.new 19, 3) := by decide +kernel
theorem dX1_stepAt_23 : decode cX1_stepAt 23 = .ok (.dup, 1) := by decide +kernel
theorem dX1_stepAt_24 : decode cX1_stepAt 24 = .ok (.ldc 122, 2) := by decide +kernel
theorem dX1_stepAt_26 : decode cX1_stepAt 26 = .ok (.invokespecial 23, 3) := by decide +kernel
theorem dX1_stepAt_29 : decode cX1_stepAt 29 = .ok (.athrow, 1) := by decide +kernel
theorem dX1_stepAt_30 : decode cX1_stepAt 30 = .ok (.iload_n 3, 1) := by decide +kernel
theorem dX1_stepAt_31 : decode cX1_stepAt 31 = .ok (.tableswitch 59 0 2 #[25, 33, 51], 25) := by decide +kernel
theorem dX1_stepAt_56 : decode cX1_stepAt 56 = .ok (.aload 4, 2) := by decide +kernel
theorem dX1_stepAt_58 : decode cX1_stepAt 58 = .ok (.getfield 124, 3) := by decide +kernel
theorem dX1_stepAt_61 : decode cX1_stepAt 61 = .ok (.iload_n 2, 1) := by decide +kernel
theorem dX1_stepAt_62 : decode cX1_stepAt 62 = .ok (.iaload, 1) := by decide +kernel
theorem dX1_stepAt_63 : decode cX1_stepAt 63 = .ok (.ireturn, 1) := by decide +kernel
theorem dX1_stepAt_64 : decode cX1_stepAt 64 = .ok (.aload 4, 2) := by decide +kernel
theorem dX1_stepAt_66 : decode cX1_stepAt 66 = .ok (.getfield 124, 3) := by decide +kernel
theorem dX1_stepAt_69 : decode cX1_stepAt 69 = .ok (.iload_n 2, 1) := by decide +kernel
theorem dX1_stepAt_70 : decode cX1_stepAt 70 = .ok (.iaload, 1) := by decide +kernel
theorem dX1_stepAt_71 : decode cX1_stepAt 71 = .ok (.aload 4, 2) := by decide +kernel
theorem dX1_stepAt_73 : decode cX1_stepAt 73 = .ok (.getfield 128, 3) := by decide +kernel
theorem dX1_stepAt_76 : decode cX1_stepAt 76 = .ok (.iload_n 2, 1) := by decide +kernel
theorem dX1_stepAt_77 : decode cX1_stepAt 77 = .ok (.iaload, 1) := by decide +kernel
theorem dX1_stepAt_78 : decode cX1_stepAt 78 = .ok (.invokestatic 131, 3) := by decide +kernel
theorem dX1_stepAt_81 : decode cX1_stepAt 81 = .ok (.ireturn, 1) := by decide +kernel
theorem dX1_stepAt_82 : decode cX1_stepAt 82 = .ok (.aload 4, 2) := by decide +kernel
theorem dX1_stepAt_84 : decode cX1_stepAt 84 = .ok (.getfield 128, 3) := by decide +kernel
theorem dX1_stepAt_87 : decode cX1_stepAt 87 = .ok (.iload_n 2, 1) := by decide +kernel
theorem dX1_stepAt_88 : decode cX1_stepAt 88 = .ok (.iaload, 1) := by decide +kernel
theorem dX1_stepAt_89 : decode cX1_stepAt 89 = .ok (.ireturn, 1) := by decide +kernel
theorem dX1_stepAt_90 : decode cX1_stepAt 90 = .ok (.new 70, 3) := by decide +kernel
theorem dX1_stepAt_93 : decode cX1_stepAt 93 = .ok (.dup, 1) := by decide +kernel
theorem dX1_stepAt_94 : decode cX1_stepAt 94 = .ok (.ldc 135, 2) := by decide +kernel
theorem dX1_stepAt_96 : decode cX1_stepAt 96 = .ok (.invokespecial 74, 3) := by decide +kernel
theorem dX1_stepAt_99 : decode cX1_stepAt 99 = .ok (.athrow, 1) := by decide +kernel
set_option maxRecDepth 20000 in
theorem ggX1_rank_X1_needGauge : GoodIn wsX1_rank wsX1_needGauge := goodIn_ca (goodIn_r _ [6, 7, 8, 9, 10, 11, 5, 12, 1, 13, 14, 15, 26] (by decide +kernel) (by decide +kernel)) (goodIn_sub (fun _ h => List.mem_cons_of_mem _ (List.mem_append_right _ h)) (by decide +kernel))
set_option maxRecDepth 20000 in
theorem gX1_rank_X1_needGauge : GoodIn wsX1_rank (wsV RX1 55 RX1 yX1_needGauge wsX1_needGauge) := goodIn_app (goodIn_of _ (by decide +kernel)) ggX1_rank_X1_needGauge
set_option maxRecDepth 20000 in
theorem ggX1_rank_X1_isAbove : GoodIn wsX1_rank wsX1_isAbove := goodIn_r _ [18, 19, 20, 5, 21, 22, 23, 24, 25] (by decide +kernel) (by decide +kernel)
set_option maxRecDepth 20000 in
theorem gX1_rank_X1_isAbove : GoodIn wsX1_rank (va_wsS RX1 137 yX1_isAbove wsX1_isAbove) := goodIn_app (goodIn_of _ (by decide +kernel)) ggX1_rank_X1_isAbove
theorem dX1_rank_0 : decode cX1_rank 0 = .ok (.aload_n 0, 1) := by decide +kernel
theorem dX1_rank_1 : decode cX1_rank 1 = .ok (.iload_n 1, 1) := by decide +kernel
theorem dX1_rank_2 : decode cX1_rank 2 = .ok (.invokevirtual 55, 3) := by decide +kernel
theorem dX1_rank_5 : decode cX1_rank 5 = .ok (.astore_n 2, 1) := by decide +kernel
theorem dX1_rank_6 : decode cX1_rank 6 = .ok (.iconst 0, 1) := by decide +kernel
theorem dX1_rank_7 : decode cX1_rank 7 = .ok (.istore_n 3, 1) := by decide +kernel
theorem dX1_rank_8 : decode cX1_rank 8 = .ok (.iconst 0, 1) := by decide +kernel
theorem dX1_rank_9 : decode cX1_rank 9 = .ok (.istore 4, 2) := by decide +kernel
theorem dX1_rank_11 : decode cX1_rank 11 = .ok (.iload 4, 2) := by decide +kernel
theorem dX1_rank_13 : decode cX1_rank 13 = .ok (.bipush 12, 2) := by decide +kernel
theorem dX1_rank_15 : decode cX1_rank 15 = .ok (.if_icmp .ge 57, 3) := by decide +kernel
theorem dX1_rank_18 : decode cX1_rank 18 = .ok (.aload_n 0, 1) := by decide +kernel
theorem dX1_rank_19 : decode cX1_rank 19 = .ok (.getfield 11, 3) := by decide +kernel
theorem dX1_rank_22 : decode cX1_rank 22 = .ok (.iload 4, 2) := by decide +kernel
theorem dX1_rank_24 : decode cX1_rank 24 = .ok (.aaload, 1) := by decide +kernel
theorem dX1_rank_25 : decode cX1_rank 25 = .ok (.astore 5, 2) := by decide +kernel
theorem dX1_rank_27 : decode cX1_rank 27 = .ok (.aload 5, 2) := by decide +kernel
theorem dX1_rank_29 : decode cX1_rank 29 = .ok (.ifnull 37, 3) := by decide +kernel
theorem dX1_rank_32 : decode cX1_rank 32 = .ok (.aload 5, 2) := by decide +kernel
theorem dX1_rank_34 : decode cX1_rank 34 = .ok (.getfield 36, 3) := by decide +kernel
theorem dX1_rank_37 : decode cX1_rank 37 = .ok (.aload_n 2, 1) := by decide +kernel
theorem dX1_rank_38 : decode cX1_rank 38 = .ok (.getfield 36, 3) := by decide +kernel
theorem dX1_rank_41 : decode cX1_rank 41 = .ok (.if_icmp .ne 25, 3) := by decide +kernel
theorem dX1_rank_44 : decode cX1_rank 44 = .ok (.aload 5, 2) := by decide +kernel
theorem dX1_rank_46 : decode cX1_rank 46 = .ok (.getfield 90, 3) := by decide +kernel
theorem dX1_rank_49 : decode cX1_rank 49 = .ok (.aload_n 2, 1) := by decide +kernel
theorem dX1_rank_50 : decode cX1_rank 50 = .ok (.getfield 90, 3) := by decide +kernel
theorem dX1_rank_53 : decode cX1_rank 53 = .ok (.aload_n 2, 1) := by decide +kernel
theorem dX1_rank_54 : decode cX1_rank 54 = .ok (.getfield 36, 3) := by decide +kernel
theorem dX1_rank_57 : decode cX1_rank 57 = .ok (.invokestatic 137, 3) := by decide +kernel
theorem dX1_rank_60 : decode cX1_rank 60 = .ok (.ifCond .ne 6, 3) := by decide +kernel
theorem dX1_rank_63 : decode cX1_rank 63 = .ok (.iinc 3 1, 3) := by decide +kernel
theorem dX1_rank_66 : decode cX1_rank 66 = .ok (.iinc 4 1, 3) := by decide +kernel
theorem dX1_rank_69 : decode cX1_rank 69 = .ok (.goto (-58), 3) := by decide +kernel
theorem dX1_rank_72 : decode cX1_rank 72 = .ok (.iload_n 3, 1) := by decide +kernel
theorem dX1_rank_73 : decode cX1_rank 73 = .ok (.ireturn, 1) := by decide +kernel
set_option maxRecDepth 20000 in
theorem ggX1_most_X1_needKind : GoodIn wsX1_most wsX1_needKind := goodIn_ca (goodIn_r _ [7, 8, 9] (by decide +kernel) (by decide +kernel)) (goodIn_sub (fun _ h => List.mem_cons_of_mem _ (List.mem_append_right _ h)) (by decide +kernel))
set_option maxRecDepth 20000 in
theorem gX1_most_X1_needKind : GoodIn wsX1_most (va_wsS RX1 26 yX1_needKind wsX1_needKind) := goodIn_app (goodIn_of _ (by decide +kernel)) ggX1_most_X1_needKind
set_option maxRecDepth 20000 in
theorem ggX1_most_X1_further : GoodIn wsX1_most wsX1_further := goodIn_r _ [12, 13, 14, 6, 15, 16, 17, 18, 19, 20, 21, 22, 24, 25, 26, 27, 28, 29, 30, 31, 32, 33, 34] (by decide +kernel) (by decide +kernel)
set_option maxRecDepth 20000 in
theorem gX1_most_X1_further : GoodIn wsX1_most (va_wsS RX1 141 yX1_further wsX1_further) := goodIn_app (goodIn_of _ (by decide +kernel)) ggX1_most_X1_further
theorem dX1_most_0 : decode cX1_most 0 = .ok (.iload_n 1, 1) := by decide +kernel
theorem dX1_most_1 : decode cX1_most 1 = .ok (.invokestatic 26, 3) := by decide +kernel
theorem dX1_most_4 : decode cX1_most 4 = .ok (.aconst_null, 1) := by decide +kernel
theorem dX1_most_5 : decode cX1_most 5 = .ok (.astore_n 3, 1) := by decide +kernel
theorem dX1_most_6 : decode cX1_most 6 = .ok (.iconst 0, 1) := by decide +kernel
theorem dX1_most_7 : decode cX1_most 7 = .ok (.istore 4, 2) := by decide +kernel
theorem dX1_most_9 : decode cX1_most 9 = .ok (.iload 4, 2) := by decide +kernel
theorem dX1_most_11 : decode cX1_most 11 = .ok (.bipush 12, 2) := by decide +kernel
theorem dX1_most_13 : decode cX1_most 13 = .ok (.if_icmp .ge 49, 3) := by decide +kernel
theorem dX1_most_16 : decode cX1_most 16 = .ok (.aload_n 0, 1) := by decide +kernel
theorem dX1_most_17 : decode cX1_most 17 = .ok (.getfield 11, 3) := by decide +kernel
theorem dX1_most_20 : decode cX1_most 20 = .ok (.iload 4, 2) := by decide +kernel
theorem dX1_most_22 : decode cX1_most 22 = .ok (.aaload, 1) := by decide +kernel
theorem dX1_most_23 : decode cX1_most 23 = .ok (.astore 5, 2) := by decide +kernel
theorem dX1_most_25 : decode cX1_most 25 = .ok (.aload 5, 2) := by decide +kernel
theorem dX1_most_27 : decode cX1_most 27 = .ok (.ifnull 29, 3) := by decide +kernel
theorem dX1_most_30 : decode cX1_most 30 = .ok (.aload 5, 2) := by decide +kernel
theorem dX1_most_32 : decode cX1_most 32 = .ok (.getfield 36, 3) := by decide +kernel
theorem dX1_most_35 : decode cX1_most 35 = .ok (.iload_n 1, 1) := by decide +kernel
theorem dX1_most_36 : decode cX1_most 36 = .ok (.if_icmp .ne 20, 3) := by decide +kernel
theorem dX1_most_39 : decode cX1_most 39 = .ok (.aload_n 3, 1) := by decide +kernel
theorem dX1_most_40 : decode cX1_most 40 = .ok (.ifnonnull 8, 3) := by decide +kernel
theorem dX1_most_43 : decode cX1_most 43 = .ok (.aload 5, 2) := by decide +kernel
theorem dX1_most_45 : decode cX1_most 45 = .ok (.goto 10, 3) := by decide +kernel
theorem dX1_most_48 : decode cX1_most 48 = .ok (.aload_n 3, 1) := by decide +kernel
theorem dX1_most_49 : decode cX1_most 49 = .ok (.aload 5, 2) := by decide +kernel
theorem dX1_most_51 : decode cX1_most 51 = .ok (.iload_n 2, 1) := by decide +kernel
theorem dX1_most_52 : decode cX1_most 52 = .ok (.invokestatic 141, 3) := by decide +kernel
theorem dX1_most_55 : decode cX1_most 55 = .ok (.astore_n 3, 1) := by decide +kernel
theorem dX1_most_56 : decode cX1_most 56 = .ok (.iinc 4 1, 3) := by decide +kernel
theorem dX1_most_59 : decode cX1_most 59 = .ok (.goto (-50), 3) := by decide +kernel
theorem dX1_most_62 : decode cX1_most 62 = .ok (.aload_n 3, 1) := by decide +kernel
theorem dX1_most_63 : decode cX1_most 63 = .ok (.ifnonnull 13, 3) := by decide +kernel
theorem dX1_most_66 : decode cX1_most 66 = .ok (.new 47, 3) := by decide +kernel
theorem dX1_most_69 : decode cX1_most 69 = .ok (.dup, 1) := by decide +kernel
theorem dX1_most_70 : decode cX1_most 70 = .ok (.ldc 145, 2) := by decide +kernel
theorem dX1_most_72 : decode cX1_most 72 = .ok (.invokespecial 51, 3) := by decide +kernel
theorem dX1_most_75 : decode cX1_most 75 = .ok (.athrow, 1) := by decide +kernel
theorem dX1_most_76 : decode cX1_most 76 = .ok (.aload_n 3, 1) := by decide +kernel
theorem dX1_most_77 : decode cX1_most 77 = .ok (.getfield 90, 3) := by decide +kernel
theorem dX1_most_80 : decode cX1_most 80 = .ok (.lreturn, 1) := by decide +kernel
theorem dX1_gauges_0 : decode cX1_gauges 0 = .ok (.iconst 0, 1) := by decide +kernel
theorem dX1_gauges_1 : decode cX1_gauges 1 = .ok (.istore_n 1, 1) := by decide +kernel
theorem dX1_gauges_2 : decode cX1_gauges 2 = .ok (.iconst 0, 1) := by decide +kernel
theorem dX1_gauges_3 : decode cX1_gauges 3 = .ok (.istore_n 2, 1) := by decide +kernel
theorem dX1_gauges_4 : decode cX1_gauges 4 = .ok (.iload_n 2, 1) := by decide +kernel
theorem dX1_gauges_5 : decode cX1_gauges 5 = .ok (.bipush 12, 2) := by decide +kernel
theorem dX1_gauges_7 : decode cX1_gauges 7 = .ok (.if_icmp .ge 21, 3) := by decide +kernel
theorem dX1_gauges_10 : decode cX1_gauges 10 = .ok (.aload_n 0, 1) := by decide +kernel
theorem dX1_gauges_11 : decode cX1_gauges 11 = .ok (.getfield 11, 3) := by decide +kernel
theorem dX1_gauges_14 : decode cX1_gauges 14 = .ok (.iload_n 2, 1) := by decide +kernel
theorem dX1_gauges_15 : decode cX1_gauges 15 = .ok (.aaload, 1) := by decide +kernel
theorem dX1_gauges_16 : decode cX1_gauges 16 = .ok (.ifnull 6, 3) := by decide +kernel
theorem dX1_gauges_19 : decode cX1_gauges 19 = .ok (.iinc 1 1, 3) := by decide +kernel
theorem dX1_gauges_22 : decode cX1_gauges 22 = .ok (.iinc 2 1, 3) := by decide +kernel
theorem dX1_gauges_25 : decode cX1_gauges 25 = .ok (.goto (-21), 3) := by decide +kernel
theorem dX1_gauges_28 : decode cX1_gauges 28 = .ok (.iload_n 1, 1) := by decide +kernel
theorem dX1_gauges_29 : decode cX1_gauges 29 = .ok (.ireturn, 1) := by decide +kernel
theorem dX1_isPlace_0 : decode cX1_isPlace 0 = .ok (.iload_n 0, 1) := by decide +kernel
theorem dX1_isPlace_1 : decode cX1_isPlace 1 = .ok (.ifCond .lt 13, 3) := by decide +kernel
theorem dX1_isPlace_4 : decode cX1_isPlace 4 = .ok (.iload_n 0, 1) := by decide +kernel
theorem dX1_isPlace_5 : decode cX1_isPlace 5 = .ok (.bipush 12, 2) := by decide +kernel
theorem dX1_isPlace_7 : decode cX1_isPlace 7 = .ok (.if_icmp .ge 7, 3) := by decide +kernel
theorem dX1_isPlace_10 : decode cX1_isPlace 10 = .ok (.iconst 1, 1) := by decide +kernel
theorem dX1_isPlace_11 : decode cX1_isPlace 11 = .ok (.goto 4, 3) := by decide +kernel
theorem dX1_isPlace_14 : decode cX1_isPlace 14 = .ok (.iconst 0, 1) := by decide +kernel
theorem dX1_isPlace_15 : decode cX1_isPlace 15 = .ok (.ireturn, 1) := by decide +kernel
set_option maxRecDepth 20000 in
theorem ggX1_gaugeAt_X1_isPlace : GoodIn wsX1_gaugeAt wsX1_isPlace := goodIn_r _ [5] (by decide +kernel) (by decide +kernel)
set_option maxRecDepth 20000 in
theorem gX1_gaugeAt_X1_isPlace : GoodIn wsX1_gaugeAt (va_wsS RX1 15 yX1_isPlace wsX1_isPlace) := goodIn_app (goodIn_of _ (by decide +kernel)) ggX1_gaugeAt_X1_isPlace
theorem dX1_gaugeAt_0 : decode cX1_gaugeAt 0 = .ok (.iload_n 1, 1) := by decide +kernel
theorem dX1_gaugeAt_1 : decode cX1_gaugeAt 1 = .ok (.invokestatic 15, 3) := by decide +kernel
theorem dX1_gaugeAt_4 : decode cX1_gaugeAt 4 = .ok (.ifCond .eq 12, 3) := by decide +kernel
theorem dX1_gaugeAt_7 : decode cX1_gaugeAt 7 = .ok (.aload_n 0, 1) := by decide +kernel
theorem dX1_gaugeAt_8 : decode cX1_gaugeAt 8 = .ok (.getfield 11, 3) := by decide +kernel
theorem dX1_gaugeAt_11 : decode cX1_gaugeAt 11 = .ok (.iload_n 1, 1) := by decide +kernel
theorem dX1_gaugeAt_12 : decode cX1_gaugeAt 12 = .ok (.aaload, 1) := by decide +kernel
theorem dX1_gaugeAt_13 : decode cX1_gaugeAt 13 = .ok (.goto 4, 3) := by decide +kernel
theorem dX1_gaugeAt_16 : decode cX1_gaugeAt 16 = .ok (.aconst_null, 1) := by decide +kernel
theorem dX1_gaugeAt_17 : decode cX1_gaugeAt 17 = .ok (.areturn, 1) := by decide +kernel
set_option maxRecDepth 20000 in
theorem ggX1_needGauge_X1_gaugeAt : GoodIn wsX1_needGauge wsX1_gaugeAt := goodIn_r _ [7, 8, 9, 10, 6, 11, 12] (by decide +kernel) (by decide +kernel)
set_option maxRecDepth 20000 in
theorem gX1_needGauge_X1_gaugeAt : GoodIn wsX1_needGauge (wsV RX1 30 RX1 yX1_gaugeAt wsX1_gaugeAt) := goodIn_app (goodIn_of _ (by decide +kernel)) ggX1_needGauge_X1_gaugeAt
theorem dX1_needGauge_0 : decode cX1_needGauge 0 = .ok (.aload_n 0, 1) := by decide +kernel
theorem dX1_needGauge_1 : decode cX1_needGauge 1 = .ok (.iload_n 1, 1) := by decide +kernel
theorem dX1_needGauge_2 : decode cX1_needGauge 2 = .ok (.invokevirtual 30, 3) := by decide +kernel
theorem dX1_needGauge_5 : decode cX1_needGauge 5 = .ok (.astore_n 2, 1) := by decide +kernel
theorem dX1_needGauge_6 : decode cX1_needGauge 6 = .ok (.aload_n 2, 1) := by decide +kernel
theorem dX1_needGauge_7 : decode cX1_needGauge 7 = .ok (.ifnonnull 13, 3) := by decide +kernel
theorem dX1_needGauge_10 : decode cX1_needGauge 10 = .ok (.new 19, 3) := by decide +kernel
theorem dX1_needGauge_13 : decode cX1_needGauge 13 = .ok (.dup, 1) := by decide +kernel
theorem dX1_needGauge_14 : decode cX1_needGauge 14 = .ok (.ldc 147, 2) := by decide +kernel
theorem dX1_needGauge_16 : decode cX1_needGauge 16 = .ok (.invokespecial 23, 3) := by decide +kernel
theorem dX1_needGauge_19 : decode cX1_needGauge 19 = .ok (.athrow, 1) := by decide +kernel
theorem dX1_needGauge_20 : decode cX1_needGauge 20 = .ok (.aload_n 2, 1) := by decide +kernel
theorem dX1_needGauge_21 : decode cX1_needGauge 21 = .ok (.areturn, 1) := by decide +kernel
theorem dX1_needKind_0 : decode cX1_needKind 0 = .ok (.iload_n 0, 1) := by decide +kernel
theorem dX1_needKind_1 : decode cX1_needKind 1 = .ok (.ifCond .lt 8, 3) := by decide +kernel
theorem dX1_needKind_4 : decode cX1_needKind 4 = .ok (.iload_n 0, 1) := by decide +kernel
theorem dX1_needKind_5 : decode cX1_needKind 5 = .ok (.iconst 3, 1) := by decide +kernel
theorem dX1_needKind_6 : decode cX1_needKind 6 = .ok (.if_icmp .le 13, 3) := by decide +kernel
theorem dX1_needKind_9 : decode cX1_needKind 9 = .ok (.new 70, 3) := by decide +kernel
theorem dX1_needKind_12 : decode cX1_needKind 12 = .ok (.dup, 1) := by decide +kernel
theorem dX1_needKind_13 : decode cX1_needKind 13 = .ok (.ldc 149, 2) := by decide +kernel
theorem dX1_needKind_15 : decode cX1_needKind 15 = .ok (.invokespecial 74, 3) := by decide +kernel
theorem dX1_needKind_18 : decode cX1_needKind 18 = .ok (.athrow, 1) := by decide +kernel
theorem dX1_needKind_19 : decode cX1_needKind 19 = .ok (.return_, 1) := by decide +kernel
set_option maxRecDepth 20000 in
theorem ggX1_needSort_X1_lastSort : GoodIn wsX1_needSort wsX1_lastSort := goodIn_r _ [6] (by decide +kernel) (by decide +kernel)
set_option maxRecDepth 20000 in
theorem gX1_needSort_X1_lastSort : GoodIn wsX1_needSort (va_wsS RX1 151 yX1_lastSort wsX1_lastSort) := goodIn_app (goodIn_of _ (by decide +kernel)) ggX1_needSort_X1_lastSort
set_option maxRecDepth 20000 in
theorem ggX1_needSort_X1_wantsOperand : GoodIn wsX1_needSort wsX1_wantsOperand := goodIn_r _ [9] (by decide +kernel) (by decide +kernel)
set_option maxRecDepth 20000 in
theorem gX1_needSort_X1_wantsOperand : GoodIn wsX1_needSort (va_wsS RX1 156 yX1_wantsOperand wsX1_wantsOperand) := goodIn_app (goodIn_of _ (by decide +kernel)) ggX1_needSort_X1_wantsOperand
theorem dX1_needSort_0 : decode cX1_needSort 0 = .ok (.iload_n 1, 1) := by decide +kernel
theorem dX1_needSort_1 : decode cX1_needSort 1 = .ok (.ifCond .lt 11, 3) := by decide +kernel
theorem dX1_needSort_4 : decode cX1_needSort 4 = .ok (.iload_n 1, 1) := by decide +kernel
theorem dX1_needSort_5 : decode cX1_needSort 5 = .ok (.iload_n 0, 1) := by decide +kernel
theorem dX1_needSort_6 : decode cX1_needSort 6 = .ok (.invokestatic 151, 3) := by decide +kernel
theorem dX1_needSort_9 : decode cX1_needSort 9 = .ok (.if_icmp .le 13, 3) := by decide +kernel
theorem dX1_needSort_12 : decode cX1_needSort 12 = .ok (.new 70, 3) := by decide +kernel
theorem dX1_needSort_15 : decode cX1_needSort 15 = .ok (.dup, 1) := by decide +kernel
theorem dX1_needSort_16 : decode cX1_needSort 16 = .ok (.ldc 154, 2) := by decide +kernel
theorem dX1_needSort_18 : decode cX1_needSort 18 = .ok (.invokespecial 74, 3) := by decide +kernel
theorem dX1_needSort_21 : decode cX1_needSort 21 = .ok (.athrow, 1) := by decide +kernel
theorem dX1_needSort_22 : decode cX1_needSort 22 = .ok (.iload_n 1, 1) := by decide +kernel
theorem dX1_needSort_23 : decode cX1_needSort 23 = .ok (.invokestatic 156, 3) := by decide +kernel
theorem dX1_needSort_26 : decode cX1_needSort 26 = .ok (.iload_n 2, 1) := by decide +kernel
theorem dX1_needSort_27 : decode cX1_needSort 27 = .ok (.if_icmp .eq 13, 3) := by decide +kernel
theorem dX1_needSort_30 : decode cX1_needSort 30 = .ok (.new 70, 3) := by decide +kernel
theorem dX1_needSort_33 : decode cX1_needSort 33 = .ok (.dup, 1) := by decide +kernel
theorem dX1_needSort_34 : decode cX1_needSort 34 = .ok (.ldc 159, 2) := by decide +kernel
theorem dX1_needSort_36 : decode cX1_needSort 36 = .ok (.invokespecial 74, 3) := by decide +kernel
theorem dX1_needSort_39 : decode cX1_needSort 39 = .ok (.athrow, 1) := by decide +kernel
theorem dX1_needSort_40 : decode cX1_needSort 40 = .ok (.return_, 1) := by decide +kernel
set_option maxRecDepth 20000 in
theorem ggX1_needGood_X1_isGood : GoodIn wsX1_needGood wsX1_isGood := goodIn_r _ [6, 7, 8, 9, 10, 11] (by decide +kernel) (by decide +kernel)
set_option maxRecDepth 20000 in
theorem gX1_needGood_X1_isGood : GoodIn wsX1_needGood (va_wsS RX1 161 yX1_isGood wsX1_isGood) := goodIn_app (goodIn_of _ (by decide +kernel)) ggX1_needGood_X1_isGood
theorem dX1_needGood_0 : decode cX1_needGood 0 = .ok (.iload_n 0, 1) := by decide +kernel
theorem dX1_needGood_1 : decode cX1_needGood 1 = .ok (.lload_n 1, 1) := by decide +kernel
theorem dX1_needGood_2 : decode cX1_needGood 2 = .ok (.invokestatic 161, 3) := by decide +kernel
theorem dX1_needGood_5 : decode cX1_needGood 5 = .ok (.ifCond .ne 13, 3) := by decide +kernel
theorem dX1_needGood_8 : decode cX1_needGood 8 = .ok (.new 70, 3) := by decide +kernel
theorem dX1_needGood_11 : decode cX1_needGood 11 = .ok (.dup, 1) := by decide +kernel
theorem dX1_needGood_12 : decode cX1_needGood 12 = .ok (.ldc 165, 2) := by decide +kernel
theorem dX1_needGood_14 : decode cX1_needGood 14 = .ok (.invokespecial 74, 3) := by decide +kernel
theorem dX1_needGood_17 : decode cX1_needGood 17 = .ok (.athrow, 1) := by decide +kernel
theorem dX1_needGood_18 : decode cX1_needGood 18 = .ok (.return_, 1) := by decide +kernel
theorem dX1_lastSort_0 : decode cX1_lastSort 0 = .ok (.iload_n 0, 1) := by decide +kernel
theorem dX1_lastSort_1 : decode cX1_lastSort 1 = .ok (.iconst 3, 1) := by decide +kernel
theorem dX1_lastSort_2 : decode cX1_lastSort 2 = .ok (.if_icmp .ne 6, 3) := by decide +kernel
theorem dX1_lastSort_5 : decode cX1_lastSort 5 = .ok (.bipush 7, 2) := by decide +kernel
theorem dX1_lastSort_7 : decode cX1_lastSort 7 = .ok (.ireturn, 1) := by decide +kernel
theorem dX1_lastSort_8 : decode cX1_lastSort 8 = .ok (.iload_n 0, 1) := by decide +kernel
theorem dX1_lastSort_9 : decode cX1_lastSort 9 = .ok (.iconst 2, 1) := by decide +kernel
theorem dX1_lastSort_10 : decode cX1_lastSort 10 = .ok (.if_icmp .ne 7, 3) := by decide +kernel
theorem dX1_lastSort_13 : decode cX1_lastSort 13 = .ok (.iconst 4, 1) := by decide +kernel
theorem dX1_lastSort_14 : decode cX1_lastSort 14 = .ok (.goto 4, 3) := by decide +kernel
theorem dX1_lastSort_17 : decode cX1_lastSort 17 = .ok (.iconst 2, 1) := by decide +kernel
theorem dX1_lastSort_18 : decode cX1_lastSort 18 = .ok (.ireturn, 1) := by decide +kernel
theorem dX1_wantsOperand_0 : decode cX1_wantsOperand 0 = .ok (.iload_n 0, 1) := by decide +kernel
theorem dX1_wantsOperand_1 : decode cX1_wantsOperand 1 = .ok (.iconst 1, 1) := by decide +kernel
theorem dX1_wantsOperand_2 : decode cX1_wantsOperand 2 = .ok (.if_icmp .eq 13, 3) := by decide +kernel
theorem dX1_wantsOperand_5 : decode cX1_wantsOperand 5 = .ok (.iload_n 0, 1) := by decide +kernel
theorem dX1_wantsOperand_6 : decode cX1_wantsOperand 6 = .ok (.iconst 2, 1) := by decide +kernel
theorem dX1_wantsOperand_7 : decode cX1_wantsOperand 7 = .ok (.if_icmp .eq 8, 3) := by decide +kernel
theorem dX1_wantsOperand_10 : decode cX1_wantsOperand 10 = .ok (.iload_n 0, 1) := by decide +kernel
theorem dX1_wantsOperand_11 : decode cX1_wantsOperand 11 = .ok (.iconst 4, 1) := by decide +kernel
theorem dX1_wantsOperand_12 : decode cX1_wantsOperand 12 = .ok (.if_icmp .ne 7, 3) := by decide +kernel
theorem dX1_wantsOperand_15 : decode cX1_wantsOperand 15 = .ok (.iconst 1, 1) := by decide +kernel
theorem dX1_wantsOperand_16 : decode cX1_wantsOperand 16 = .ok (.goto 4, 3) := by decide +kernel
theorem dX1_wantsOperand_19 : decode cX1_wantsOperand 19 = .ok (.iconst 0, 1) := by decide +kernel
theorem dX1_wantsOperand_20 : decode cX1_wantsOperand 20 = .ok (.ireturn, 1) := by decide +kernel
set_option maxRecDepth 20000 in
theorem ggX1_operandForm_X1_wantsOperand : GoodIn wsX1_operandForm wsX1_wantsOperand := goodIn_r _ [4] (by decide +kernel) (by decide +kernel)
set_option maxRecDepth 20000 in
theorem gX1_operandForm_X1_wantsOperand : GoodIn wsX1_operandForm (va_wsS RX1 156 yX1_wantsOperand wsX1_wantsOperand) := goodIn_app (goodIn_of _ (by decide +kernel)) ggX1_operandForm_X1_wantsOperand
theorem dX1_operandForm_0 : decode cX1_operandForm 0 = .ok (.iload_n 0, 1) := by decide +kernel
theorem dX1_operandForm_1 : decode cX1_operandForm 1 = .ok (.invokestatic 156, 3) := by decide +kernel
theorem dX1_operandForm_4 : decode cX1_operandForm 4 = .ok (.ifCond .ne 5, 3) := by decide +kernel
theorem dX1_operandForm_7 : decode cX1_operandForm 7 = .ok (.iconst 0, 1) := by decide +kernel
theorem dX1_operandForm_8 : decode cX1_operandForm 8 = .ok (.ireturn, 1) := by decide +kernel
theorem dX1_operandForm_9 : decode cX1_operandForm 9 = .ok (.iload_n 1, 1) := by decide +kernel
theorem dX1_operandForm_10 : decode cX1_operandForm 10 = .ok (.iconst (-1), 1) := by decide +kernel
theorem dX1_operandForm_11 : decode cX1_operandForm 11 = .ok (.if_icmp .ne 7, 3) := by decide +kernel
theorem dX1_operandForm_14 : decode cX1_operandForm 14 = .ok (.iconst 1, 1) := by decide +kernel
theorem dX1_operandForm_15 : decode cX1_operandForm 15 = .ok (.goto 4, 3) := by decide +kernel
theorem dX1_operandForm_18 : decode cX1_operandForm 18 = .ok (.iconst 2, 1) := by decide +kernel
theorem dX1_operandForm_19 : decode cX1_operandForm 19 = .ok (.ireturn, 1) := by decide +kernel
theorem dX1_isGood_0 : decode cX1_isGood 0 = .ok (.iload_n 0, 1) := by decide +kernel
theorem dX1_isGood_1 : decode cX1_isGood 1 = .ok (.iconst 1, 1) := by decide +kernel
theorem dX1_isGood_2 : decode cX1_isGood 2 = .ok (.if_icmp .ne 5, 3) := by decide +kernel
theorem dX1_isGood_5 : decode cX1_isGood 5 = .ok (.iconst 1, 1) := by decide +kernel
theorem dX1_isGood_6 : decode cX1_isGood 6 = .ok (.ireturn, 1) := by decide +kernel
theorem dX1_isGood_7 : decode cX1_isGood 7 = .ok (.iload_n 0, 1) := by decide +kernel
theorem dX1_isGood_8 : decode cX1_isGood 8 = .ok (.iconst 3, 1) := by decide +kernel
theorem dX1_isGood_9 : decode cX1_isGood 9 = .ok (.if_icmp .ne 21, 3) := by decide +kernel
theorem dX1_isGood_12 : decode cX1_isGood 12 = .ok (.lload_n 1, 1) := by decide +kernel
theorem dX1_isGood_13 : decode cX1_isGood 13 = .ok (.ldc2_w 167, 3) := by decide +kernel
theorem dX1_isGood_16 : decode cX1_isGood 16 = .ok (.land, 1) := by decide +kernel
theorem dX1_isGood_17 : decode cX1_isGood 17 = .ok (.ldc2_w 169, 3) := by decide +kernel
theorem dX1_isGood_20 : decode cX1_isGood 20 = .ok (.lcmp, 1) := by decide +kernel
theorem dX1_isGood_21 : decode cX1_isGood 21 = .ok (.ifCond .gt 7, 3) := by decide +kernel
theorem dX1_isGood_24 : decode cX1_isGood 24 = .ok (.iconst 1, 1) := by decide +kernel
theorem dX1_isGood_25 : decode cX1_isGood 25 = .ok (.goto 4, 3) := by decide +kernel
theorem dX1_isGood_28 : decode cX1_isGood 28 = .ok (.iconst 0, 1) := by decide +kernel
theorem dX1_isGood_29 : decode cX1_isGood 29 = .ok (.ireturn, 1) := by decide +kernel
theorem dX1_isGood_30 : decode cX1_isGood 30 = .ok (.lload_n 1, 1) := by decide +kernel
theorem dX1_isGood_31 : decode cX1_isGood 31 = .ok (.ldc2_w 171, 3) := by decide +kernel
theorem dX1_isGood_34 : decode cX1_isGood 34 = .ok (.lcmp, 1) := by decide +kernel
theorem dX1_isGood_35 : decode cX1_isGood 35 = .ok (.ifCond .lt 11, 3) := by decide +kernel
theorem dX1_isGood_38 : decode cX1_isGood 38 = .ok (.lload_n 1, 1) := by decide +kernel
theorem dX1_isGood_39 : decode cX1_isGood 39 = .ok (.ldc2_w 173, 3) := by decide +kernel
theorem dX1_isGood_42 : decode cX1_isGood 42 = .ok (.lcmp, 1) := by decide +kernel
theorem dX1_isGood_43 : decode cX1_isGood 43 = .ok (.ifCond .le 5, 3) := by decide +kernel
theorem dX1_isGood_46 : decode cX1_isGood 46 = .ok (.iconst 0, 1) := by decide +kernel
theorem dX1_isGood_47 : decode cX1_isGood 47 = .ok (.ireturn, 1) := by decide +kernel
theorem dX1_isGood_48 : decode cX1_isGood 48 = .ok (.iload_n 0, 1) := by decide +kernel
theorem dX1_isGood_49 : decode cX1_isGood 49 = .ok (.ifCond .eq 15, 3) := by decide +kernel
theorem dX1_isGood_52 : decode cX1_isGood 52 = .ok (.lload_n 1, 1) := by decide +kernel
theorem dX1_isGood_53 : decode cX1_isGood 53 = .ok (.ldc2_w 173, 3) := by decide +kernel
theorem dX1_isGood_56 : decode cX1_isGood 56 = .ok (.land, 1) := by decide +kernel
theorem dX1_isGood_57 : decode cX1_isGood 57 = .ok (.ldc2_w 175, 3) := by decide +kernel
theorem dX1_isGood_60 : decode cX1_isGood 60 = .ok (.lcmp, 1) := by decide +kernel
theorem dX1_isGood_61 : decode cX1_isGood 61 = .ok (.ifCond .gt 7, 3) := by decide +kernel
theorem dX1_isGood_64 : decode cX1_isGood 64 = .ok (.iconst 1, 1) := by decide +kernel
theorem dX1_isGood_65 : decode cX1_isGood 65 = .ok (.goto 4, 3) := by decide +kernel
theorem dX1_isGood_68 : decode cX1_isGood 68 = .ok (.iconst 0, 1) := by decide +kernel
theorem dX1_isGood_69 : decode cX1_isGood 69 = .ok (.ireturn, 1) := by decide +kernel
theorem dX1_isReal_0 : decode cX1_isReal 0 = .ok (.iload_n 0, 1) := by decide +kernel
theorem dX1_isReal_1 : decode cX1_isReal 1 = .ok (.iconst 2, 1) := by decide +kernel
theorem dX1_isReal_2 : decode cX1_isReal 2 = .ok (.if_icmp .eq 8, 3) := by decide +kernel
theorem dX1_isReal_5 : decode cX1_isReal 5 = .ok (.iload_n 0, 1) := by decide +kernel
theorem dX1_isReal_6 : decode cX1_isReal 6 = .ok (.iconst 3, 1) := by decide +kernel
theorem dX1_isReal_7 : decode cX1_isReal 7 = .ok (.if_icmp .ne 7, 3) := by decide +kernel
theorem dX1_isReal_10 : decode cX1_isReal 10 = .ok (.iconst 1, 1) := by decide +kernel
theorem dX1_isReal_11 : decode cX1_isReal 11 = .ok (.goto 4, 3) := by decide +kernel
theorem dX1_isReal_14 : decode cX1_isReal 14 = .ok (.iconst 0, 1) := by decide +kernel
theorem dX1_isReal_15 : decode cX1_isReal 15 = .ok (.ireturn, 1) := by decide +kernel
theorem dX1_signOf_0 : decode cX1_signOf 0 = .ok (.lload_n 0, 1) := by decide +kernel
theorem dX1_signOf_1 : decode cX1_signOf 1 = .ok (.lconst 0, 1) := by decide +kernel
theorem dX1_signOf_2 : decode cX1_signOf 2 = .ok (.lcmp, 1) := by decide +kernel
theorem dX1_signOf_3 : decode cX1_signOf 3 = .ok (.ifCond .ge 7, 3) := by decide +kernel
theorem dX1_signOf_6 : decode cX1_signOf 6 = .ok (.iconst 1, 1) := by decide +kernel
theorem dX1_signOf_7 : decode cX1_signOf 7 = .ok (.goto 4, 3) := by decide +kernel
theorem dX1_signOf_10 : decode cX1_signOf 10 = .ok (.iconst 0, 1) := by decide +kernel
theorem dX1_signOf_11 : decode cX1_signOf 11 = .ok (.ireturn, 1) := by decide +kernel
set_option maxRecDepth 20000 in
theorem ggX1_orderKey_X1_isReal : GoodIn wsX1_orderKey wsX1_isReal := goodIn_r _ [5] (by decide +kernel) (by decide +kernel)
set_option maxRecDepth 20000 in
theorem gX1_orderKey_X1_isReal : GoodIn wsX1_orderKey (va_wsS RX1 177 yX1_isReal wsX1_isReal) := goodIn_app (goodIn_of _ (by decide +kernel)) ggX1_orderKey_X1_isReal
theorem dX1_orderKey_0 : decode cX1_orderKey 0 = .ok (.iload_n 2, 1) := by decide +kernel
theorem dX1_orderKey_1 : decode cX1_orderKey 1 = .ok (.invokestatic 177, 3) := by decide +kernel
theorem dX1_orderKey_4 : decode cX1_orderKey 4 = .ok (.ifCond .eq 17, 3) := by decide +kernel
theorem dX1_orderKey_7 : decode cX1_orderKey 7 = .ok (.lload_n 0, 1) := by decide +kernel
theorem dX1_orderKey_8 : decode cX1_orderKey 8 = .ok (.lconst 0, 1) := by decide +kernel
theorem dX1_orderKey_9 : decode cX1_orderKey 9 = .ok (.lcmp, 1) := by decide +kernel
theorem dX1_orderKey_10 : decode cX1_orderKey 10 = .ok (.ifCond .ge 11, 3) := by decide +kernel
theorem dX1_orderKey_13 : decode cX1_orderKey 13 = .ok (.lload_n 0, 1) := by decide +kernel
theorem dX1_orderKey_14 : decode cX1_orderKey 14 = .ok (.ldc2_w 167, 3) := by decide +kernel
theorem dX1_orderKey_17 : decode cX1_orderKey 17 = .ok (.lxor, 1) := by decide +kernel
theorem dX1_orderKey_18 : decode cX1_orderKey 18 = .ok (.goto 4, 3) := by decide +kernel
theorem dX1_orderKey_21 : decode cX1_orderKey 21 = .ok (.lload_n 0, 1) := by decide +kernel
theorem dX1_orderKey_22 : decode cX1_orderKey 22 = .ok (.lreturn, 1) := by decide +kernel
set_option maxRecDepth 20000 in
theorem ggX1_isAbove_X1_orderKey : GoodIn wsX1_isAbove wsX1_orderKey := goodIn_r _ [4, 5, 6, 7, 3, 8] (by decide +kernel) (by decide +kernel)
set_option maxRecDepth 20000 in
theorem gX1_isAbove_X1_orderKey : GoodIn wsX1_isAbove (va_wsS RX1 180 yX1_orderKey wsX1_orderKey) := goodIn_app (goodIn_of _ (by decide +kernel)) ggX1_isAbove_X1_orderKey
theorem dX1_isAbove_0 : decode cX1_isAbove 0 = .ok (.lload_n 0, 1) := by decide +kernel
theorem dX1_isAbove_1 : decode cX1_isAbove 1 = .ok (.iload 4, 2) := by decide +kernel
theorem dX1_isAbove_3 : decode cX1_isAbove 3 = .ok (.invokestatic 180, 3) := by decide +kernel
theorem dX1_isAbove_6 : decode cX1_isAbove 6 = .ok (.lload_n 2, 1) := by decide +kernel
theorem dX1_isAbove_7 : decode cX1_isAbove 7 = .ok (.iload 4, 2) := by decide +kernel
theorem dX1_isAbove_9 : decode cX1_isAbove 9 = .ok (.invokestatic 180, 3) := by decide +kernel
theorem dX1_isAbove_12 : decode cX1_isAbove 12 = .ok (.lcmp, 1) := by decide +kernel
theorem dX1_isAbove_13 : decode cX1_isAbove 13 = .ok (.ifCond .le 7, 3) := by decide +kernel
theorem dX1_isAbove_16 : decode cX1_isAbove 16 = .ok (.iconst 1, 1) := by decide +kernel
theorem dX1_isAbove_17 : decode cX1_isAbove 17 = .ok (.goto 4, 3) := by decide +kernel
theorem dX1_isAbove_20 : decode cX1_isAbove 20 = .ok (.iconst 0, 1) := by decide +kernel
theorem dX1_isAbove_21 : decode cX1_isAbove 21 = .ok (.ireturn, 1) := by decide +kernel
set_option maxRecDepth 20000 in
theorem ggX1_higher_X1_isAbove : GoodIn wsX1_higher wsX1_isAbove := goodIn_r _ [4, 5, 6, 3, 7, 8, 9, 10, 11] (by decide +kernel) (by decide +kernel)
set_option maxRecDepth 20000 in
theorem gX1_higher_X1_isAbove : GoodIn wsX1_higher (va_wsS RX1 137 yX1_isAbove wsX1_isAbove) := goodIn_app (goodIn_of _ (by decide +kernel)) ggX1_higher_X1_isAbove
theorem dX1_higher_0 : decode cX1_higher 0 = .ok (.lload_n 0, 1) := by decide +kernel
theorem dX1_higher_1 : decode cX1_higher 1 = .ok (.lload_n 2, 1) := by decide +kernel
theorem dX1_higher_2 : decode cX1_higher 2 = .ok (.iload 4, 2) := by decide +kernel
theorem dX1_higher_4 : decode cX1_higher 4 = .ok (.invokestatic 137, 3) := by decide +kernel
theorem dX1_higher_7 : decode cX1_higher 7 = .ok (.ifCond .eq 7, 3) := by decide +kernel
theorem dX1_higher_10 : decode cX1_higher 10 = .ok (.lload_n 0, 1) := by decide +kernel
theorem dX1_higher_11 : decode cX1_higher 11 = .ok (.goto 4, 3) := by decide +kernel
theorem dX1_higher_14 : decode cX1_higher 14 = .ok (.lload_n 2, 1) := by decide +kernel
theorem dX1_higher_15 : decode cX1_higher 15 = .ok (.lreturn, 1) := by decide +kernel
set_option maxRecDepth 20000 in
theorem ggX1_lower_X1_isAbove : GoodIn wsX1_lower wsX1_isAbove := goodIn_r _ [4, 5, 6, 3, 7, 8, 9, 10, 11] (by decide +kernel) (by decide +kernel)
set_option maxRecDepth 20000 in
theorem gX1_lower_X1_isAbove : GoodIn wsX1_lower (va_wsS RX1 137 yX1_isAbove wsX1_isAbove) := goodIn_app (goodIn_of _ (by decide +kernel)) ggX1_lower_X1_isAbove
theorem dX1_lower_0 : decode cX1_lower 0 = .ok (.lload_n 0, 1) := by decide +kernel
theorem dX1_lower_1 : decode cX1_lower 1 = .ok (.lload_n 2, 1) := by decide +kernel
theorem dX1_lower_2 : decode cX1_lower 2 = .ok (.iload 4, 2) := by decide +kernel
theorem dX1_lower_4 : decode cX1_lower 4 = .ok (.invokestatic 137, 3) := by decide +kernel
theorem dX1_lower_7 : decode cX1_lower 7 = .ok (.ifCond .eq 7, 3) := by decide +kernel
theorem dX1_lower_10 : decode cX1_lower 10 = .ok (.lload_n 2, 1) := by decide +kernel
theorem dX1_lower_11 : decode cX1_lower 11 = .ok (.goto 4, 3) := by decide +kernel
theorem dX1_lower_14 : decode cX1_lower 14 = .ok (.lload_n 0, 1) := by decide +kernel
theorem dX1_lower_15 : decode cX1_lower 15 = .ok (.lreturn, 1) := by decide +kernel
set_option maxRecDepth 20000 in
theorem ggX1_further_X1_isAbove : GoodIn wsX1_further wsX1_isAbove := goodIn_r _ [4, 5, 6, 3, 7, 8, 9, 10, 11] (by decide +kernel) (by decide +kernel)
set_option maxRecDepth 20000 in
theorem gX1_further_X1_isAbove : GoodIn wsX1_further (va_wsS RX1 137 yX1_isAbove wsX1_isAbove) := goodIn_app (goodIn_of _ (by decide +kernel)) ggX1_further_X1_isAbove
theorem dX1_further_0 : decode cX1_further 0 = .ok (.aload_n 1, 1) := by decide +kernel
theorem dX1_further_1 : decode cX1_further 1 = .ok (.getfield 90, 3) := by decide +kernel
theorem dX1_further_4 : decode cX1_further 4 = .ok (.aload_n 0, 1) := by decide +kernel
theorem dX1_further_5 : decode cX1_further 5 = .ok (.getfield 90, 3) := by decide +kernel
theorem dX1_further_8 : decode cX1_further 8 = .ok (.aload_n 0, 1) := by decide +kernel
theorem dX1_further_9 : decode cX1_further 9 = .ok (.getfield 36, 3) := by decide +kernel
theorem dX1_further_12 : decode cX1_further 12 = .ok (.invokestatic 137, 3) := by decide +kernel
theorem dX1_further_15 : decode cX1_further 15 = .ok (.iload_n 2, 1) := by decide +kernel
theorem dX1_further_16 : decode cX1_further 16 = .ok (.if_icmp .ne 7, 3) := by decide +kernel
theorem dX1_further_19 : decode cX1_further 19 = .ok (.aload_n 1, 1) := by decide +kernel
theorem dX1_further_20 : decode cX1_further 20 = .ok (.goto 4, 3) := by decide +kernel
theorem dX1_further_23 : decode cX1_further 23 = .ok (.aload_n 0, 1) := by decide +kernel
theorem dX1_further_24 : decode cX1_further 24 = .ok (.areturn, 1) := by decide +kernel
set_option maxRecDepth 20000 in
theorem ggX1_stepsTaking_X0_ownStepsTaking : GoodIn wsX1_stepsTaking wsX0_ownStepsTaking := goodIn_r _ [5, 6, 7, 9, 10, 11, 12, 13, 14, 15, 16, 17, 18, 19] (by decide +kernel) (by decide +kernel)
set_option maxRecDepth 20000 in
theorem gX1_stepsTaking_X0_ownStepsTaking_n44 : GoodIn wsX1_stepsTaking (wsX0_ownStepsTaking) := ggX1_stepsTaking_X0_ownStepsTaking
theorem dX1_stepsTaking_0 : decode cX1_stepsTaking 0 = .ok (.iconst 0, 1) := by decide +kernel
theorem dX1_stepsTaking_1 : decode cX1_stepsTaking 1 = .ok (.istore_n 2, 1) := by decide +kernel
theorem dX1_stepsTaking_2 : decode cX1_stepsTaking 2 = .ok (.iconst 0, 1) := by decide +kernel
theorem dX1_stepsTaking_3 : decode cX1_stepsTaking 3 = .ok (.istore_n 3, 1) := by decide +kernel
theorem dX1_stepsTaking_4 : decode cX1_stepsTaking 4 = .ok (.iload_n 3, 1) := by decide +kernel
theorem dX1_stepsTaking_5 : decode cX1_stepsTaking 5 = .ok (.bipush 12, 2) := by decide +kernel
theorem dX1_stepsTaking_7 : decode cX1_stepsTaking 7 = .ok (.if_icmp .ge 31, 3) := by decide +kernel
theorem dX1_stepsTaking_10 : decode cX1_stepsTaking 10 = .ok (.aload_n 0, 1) := by decide +kernel
theorem dX1_stepsTaking_11 : decode cX1_stepsTaking 11 = .ok (.getfield 11, 3) := by decide +kernel
theorem dX1_stepsTaking_14 : decode cX1_stepsTaking 14 = .ok (.iload_n 3, 1) := by decide +kernel
theorem dX1_stepsTaking_15 : decode cX1_stepsTaking 15 = .ok (.aaload, 1) := by decide +kernel
theorem dX1_stepsTaking_16 : decode cX1_stepsTaking 16 = .ok (.astore 4, 2) := by decide +kernel
theorem dX1_stepsTaking_18 : decode cX1_stepsTaking 18 = .ok (.aload 4, 2) := by decide +kernel
theorem dX1_stepsTaking_20 : decode cX1_stepsTaking 20 = .ok (.ifnull 12, 3) := by decide +kernel
theorem dX1_stepsTaking_23 : decode cX1_stepsTaking 23 = .ok (.iload_n 2, 1) := by decide +kernel
theorem dX1_stepsTaking_24 : decode cX1_stepsTaking 24 = .ok (.aload 4, 2) := by decide +kernel
theorem dX1_stepsTaking_26 : decode cX1_stepsTaking 26 = .ok (.iload_n 1, 1) := by decide +kernel
theorem dX1_stepsTaking_27 : decode cX1_stepsTaking 27 = .ok (.invokevirtual 44, 3) := by decide +kernel
theorem dX1_stepsTaking_30 : decode cX1_stepsTaking 30 = .ok (.iadd, 1) := by decide +kernel
theorem dX1_stepsTaking_31 : decode cX1_stepsTaking 31 = .ok (.istore_n 2, 1) := by decide +kernel
theorem dX1_stepsTaking_32 : decode cX1_stepsTaking 32 = .ok (.iinc 3 1, 3) := by decide +kernel
theorem dX1_stepsTaking_35 : decode cX1_stepsTaking 35 = .ok (.goto (-31), 3) := by decide +kernel
theorem dX1_stepsTaking_38 : decode cX1_stepsTaking 38 = .ok (.iload_n 2, 1) := by decide +kernel
theorem dX1_stepsTaking_39 : decode cX1_stepsTaking 39 = .ok (.ireturn, 1) := by decide +kernel
set_option maxRecDepth 20000 in
theorem ggX1_takeReading_X1_operandOf : GoodIn wsX1_takeReading wsX1_operandOf := goodIn_r _ [5, 6, 7, 8, 4, 9, 10, 11, 12, 13, 86, 87, 88, 89, 90, 91, 92, 93, 94, 95, 96, 97] (by decide +kernel) (by decide +kernel)
set_option maxRecDepth 20000 in
theorem gX1_takeReading_X1_operandOf : GoodIn wsX1_takeReading (wsV RX1 184 RX1 yX1_operandOf wsX1_operandOf) := goodIn_app (goodIn_of _ (by decide +kernel)) ggX1_takeReading_X1_operandOf
set_option maxRecDepth 20000 in
theorem ggX1_takeReading_X1_afterStep : GoodIn wsX1_takeReading wsX1_afterStep := goodIn_r _ [16, 17, 18, 4, 19, 20, 21, 22, 23, 24, 25, 26, 27, 28, 29, 30, 31, 32, 33, 34, 35, 36, 37, 38, 39, 40, 41, 42, 43, 44, 45, 46, 47, 48, 49, 50, 51, 52, 53, 54, 55, 56, 57, 58, 59, 60, 61, 62, 63, 64, 65, 66, 67, 68, 69, 70, 71, 72] (by decide +kernel) (by decide +kernel)
set_option maxRecDepth 20000 in
theorem gX1_takeReading_X1_afterStep : GoodIn wsX1_takeReading (va_wsS RX1 188 yX1_afterStep wsX1_afterStep) := goodIn_app (goodIn_of _ (by decide +kernel)) ggX1_takeReading_X1_afterStep
set_option maxRecDepth 20000 in
theorem ggX1_takeReading_X0_takeValue : GoodIn wsX1_takeReading wsX0_takeValue := goodIn_r _ [76, 77, 78, 79, 80, 81, 82, 83, 84, 4, 85, 30, 31, 32, 33, 34, 35, 36, 37, 38, 23, 24, 25, 40, 41, 86, 87, 88, 89, 90, 91, 92, 93, 94, 95, 96] (by decide +kernel) (by decide +kernel)
set_option maxRecDepth 20000 in
theorem gX1_takeReading_X0_takeValue_n192 : GoodIn wsX1_takeReading (wsX0_takeValue) := ggX1_takeReading_X0_takeValue
theorem dX1_takeReading_0 : decode cX1_takeReading 0 = .ok (.lload_n 2, 1) := by decide +kernel
theorem dX1_takeReading_1 : decode cX1_takeReading 1 = .ok (.lstore 4, 2) := by decide +kernel
theorem dX1_takeReading_3 : decode cX1_takeReading 3 = .ok (.iconst 0, 1) := by decide +kernel
theorem dX1_takeReading_4 : decode cX1_takeReading 4 = .ok (.istore 6, 2) := by decide +kernel
theorem dX1_takeReading_6 : decode cX1_takeReading 6 = .ok (.iload 6, 2) := by decide +kernel
theorem dX1_takeReading_8 : decode cX1_takeReading 8 = .ok (.aload_n 1, 1) := by decide +kernel
theorem dX1_takeReading_9 : decode cX1_takeReading 9 = .ok (.getfield 75, 3) := by decide +kernel
theorem dX1_takeReading_12 : decode cX1_takeReading 12 = .ok (.if_icmp .ge 34, 3) := by decide +kernel
theorem dX1_takeReading_15 : decode cX1_takeReading 15 = .ok (.aload_n 1, 1) := by decide +kernel
theorem dX1_takeReading_16 : decode cX1_takeReading 16 = .ok (.getfield 124, 3) := by decide +kernel
theorem dX1_takeReading_19 : decode cX1_takeReading 19 = .ok (.iload 6, 2) := by decide +kernel
theorem dX1_takeReading_21 : decode cX1_takeReading 21 = .ok (.iaload, 1) := by decide +kernel
theorem dX1_takeReading_22 : decode cX1_takeReading 22 = .ok (.lload 4, 2) := by decide +kernel
theorem dX1_takeReading_24 : decode cX1_takeReading 24 = .ok (.aload_n 0, 1) := by decide +kernel
theorem dX1_takeReading_25 : decode cX1_takeReading 25 = .ok (.aload_n 1, 1) := by decide +kernel
theorem dX1_takeReading_26 : decode cX1_takeReading 26 = .ok (.iload 6, 2) := by decide +kernel
theorem dX1_takeReading_28 : decode cX1_takeReading 28 = .ok (.invokevirtual 184, 3) := by decide +kernel
theorem dX1_takeReading_31 : decode cX1_takeReading 31 = .ok (.aload_n 1, 1) := by decide +kernel
theorem dX1_takeReading_32 : decode cX1_takeReading 32 = .ok (.getfield 36, 3) := by decide +kernel
theorem dX1_takeReading_35 : decode cX1_takeReading 35 = .ok (.invokestatic 188, 3) := by decide +kernel
theorem dX1_takeReading_38 : decode cX1_takeReading 38 = .ok (.lstore 4, 2) := by decide +kernel
theorem dX1_takeReading_40 : decode cX1_takeReading 40 = .ok (.iinc 6 1, 3) := by decide +kernel
theorem dX1_takeReading_43 : decode cX1_takeReading 43 = .ok (.goto (-37), 3) := by decide +kernel
theorem dX1_takeReading_46 : decode cX1_takeReading 46 = .ok (.aload_n 1, 1) := by decide +kernel
theorem dX1_takeReading_47 : decode cX1_takeReading 47 = .ok (.lload 4, 2) := by decide +kernel
theorem dX1_takeReading_49 : decode cX1_takeReading 49 = .ok (.invokevirtual 192, 3) := by decide +kernel
theorem dX1_takeReading_52 : decode cX1_takeReading 52 = .ok (.lload 4, 2) := by decide +kernel
theorem dX1_takeReading_54 : decode cX1_takeReading 54 = .ok (.lreturn, 1) := by decide +kernel
set_option maxRecDepth 20000 in
theorem ggX1_operandOf_X1_gaugeAt : GoodIn wsX1_operandOf wsX1_gaugeAt := goodIn_r _ [5, 6, 7, 8, 4, 9, 21] (by decide +kernel) (by decide +kernel)
set_option maxRecDepth 20000 in
theorem gX1_operandOf_X1_gaugeAt : GoodIn wsX1_operandOf (wsV RX1 30 RX1 yX1_gaugeAt wsX1_gaugeAt) := goodIn_app (goodIn_of _ (by decide +kernel)) ggX1_operandOf_X1_gaugeAt
theorem dX1_operandOf_0 : decode cX1_operandOf 0 = .ok (.aload_n 0, 1) := by decide +kernel
theorem dX1_operandOf_1 : decode cX1_operandOf 1 = .ok (.aload_n 1, 1) := by decide +kernel
theorem dX1_operandOf_2 : decode cX1_operandOf 2 = .ok (.getfield 128, 3) := by decide +kernel
theorem dX1_operandOf_5 : decode cX1_operandOf 5 = .ok (.iload_n 2, 1) := by decide +kernel
theorem dX1_operandOf_6 : decode cX1_operandOf 6 = .ok (.iaload, 1) := by decide +kernel
theorem dX1_operandOf_7 : decode cX1_operandOf 7 = .ok (.invokevirtual 30, 3) := by decide +kernel
theorem dX1_operandOf_10 : decode cX1_operandOf 10 = .ok (.astore_n 3, 1) := by decide +kernel
theorem dX1_operandOf_11 : decode cX1_operandOf 11 = .ok (.aload_n 3, 1) := by decide +kernel
theorem dX1_operandOf_12 : decode cX1_operandOf 12 = .ok (.ifnonnull 12, 3) := by decide +kernel
theorem dX1_operandOf_15 : decode cX1_operandOf 15 = .ok (.aload_n 1, 1) := by decide +kernel
theorem dX1_operandOf_16 : decode cX1_operandOf 16 = .ok (.getfield 196, 3) := by decide +kernel
theorem dX1_operandOf_19 : decode cX1_operandOf 19 = .ok (.iload_n 2, 1) := by decide +kernel
theorem dX1_operandOf_20 : decode cX1_operandOf 20 = .ok (.laload, 1) := by decide +kernel
theorem dX1_operandOf_21 : decode cX1_operandOf 21 = .ok (.goto 7, 3) := by decide +kernel
theorem dX1_operandOf_24 : decode cX1_operandOf 24 = .ok (.aload_n 3, 1) := by decide +kernel
theorem dX1_operandOf_25 : decode cX1_operandOf 25 = .ok (.getfield 90, 3) := by decide +kernel
theorem dX1_operandOf_28 : decode cX1_operandOf 28 = .ok (.lreturn, 1) := by decide +kernel
set_option maxRecDepth 20000 in
theorem ggX1_afterStep_X1_sizeOf : GoodIn wsX1_afterStep wsX1_sizeOf := goodIn_r _ [4, 5, 6, 7, 8, 9, 3, 10, 11, 12, 13] (by decide +kernel) (by decide +kernel)
set_option maxRecDepth 20000 in
theorem gX1_afterStep_X1_sizeOf : GoodIn wsX1_afterStep (va_wsS RX1 200 yX1_sizeOf wsX1_sizeOf) := goodIn_app (goodIn_of _ (by decide +kernel)) ggX1_afterStep_X1_sizeOf
set_option maxRecDepth 20000 in
theorem ggX1_afterStep_X1_higher : GoodIn wsX1_afterStep wsX1_higher := goodIn_r _ [16, 17, 18, 3, 19, 20, 21, 22, 23, 8, 9, 10] (by decide +kernel) (by decide +kernel)
set_option maxRecDepth 20000 in
theorem gX1_afterStep_X1_higher : GoodIn wsX1_afterStep (va_wsS RX1 203 yX1_higher wsX1_higher) := goodIn_app (goodIn_of _ (by decide +kernel)) ggX1_afterStep_X1_higher
set_option maxRecDepth 20000 in
theorem ggX1_afterStep_X1_lower : GoodIn wsX1_afterStep wsX1_lower := goodIn_r _ [26, 17, 18, 3, 19, 20, 21, 22, 23, 8, 9, 10] (by decide +kernel) (by decide +kernel)
set_option maxRecDepth 20000 in
theorem gX1_afterStep_X1_lower : GoodIn wsX1_afterStep (va_wsS RX1 207 yX1_lower wsX1_lower) := goodIn_app (goodIn_of _ (by decide +kernel)) ggX1_afterStep_X1_lower
set_option maxRecDepth 20000 in
theorem ggX1_afterStep_X1_shown : GoodIn wsX1_afterStep wsX1_shown := goodIn_r _ [29, 30, 31, 1, 2, 3, 4, 5, 6, 7, 8, 9, 10, 11, 12, 13, 32, 33, 34] (by decide +kernel) (by decide +kernel)
set_option maxRecDepth 20000 in
theorem gX1_afterStep_X1_shown : GoodIn wsX1_afterStep (va_wsS RX1 210 yX1_shown wsX1_shown) := goodIn_app (goodIn_of _ (by decide +kernel)) ggX1_afterStep_X1_shown
set_option maxRecDepth 20000 in
theorem ggX1_afterStep_X1_withSign : GoodIn wsX1_afterStep wsX1_withSign := goodIn_r _ [34, 11, 12, 3, 13, 6, 7] (by decide +kernel) (by decide +kernel)
set_option maxRecDepth 20000 in
theorem gX1_afterStep_X1_withSign : GoodIn wsX1_afterStep (va_wsS RX1 213 yX1_withSign wsX1_withSign) := goodIn_app (goodIn_of _ (by decide +kernel)) ggX1_afterStep_X1_withSign
set_option maxRecDepth 20000 in
theorem ggX1_afterStep_X1_wholeAway : GoodIn wsX1_afterStep wsX1_wholeAway := goodIn_r _ [37, 7, 31, 38, 39, 3, 40, 23, 41, 42, 43, 44, 45, 46, 47, 48, 49, 5] (by decide +kernel) (by decide +kernel)
set_option maxRecDepth 20000 in
theorem gX1_afterStep_X1_wholeAway : GoodIn wsX1_afterStep (va_wsS RX1 217 yX1_wholeAway wsX1_wholeAway) := goodIn_app (goodIn_of _ (by decide +kernel)) ggX1_afterStep_X1_wholeAway
set_option maxRecDepth 20000 in
theorem ggX1_afterStep_X1_wholeToward : GoodIn wsX1_afterStep wsX1_wholeToward := goodIn_r _ [49, 7, 5, 41, 42, 3, 43, 23, 31, 44, 45, 46] (by decide +kernel) (by decide +kernel)
set_option maxRecDepth 20000 in
theorem gX1_afterStep_X1_wholeToward : GoodIn wsX1_afterStep (va_wsS RX1 221 yX1_wholeToward wsX1_wholeToward) := goodIn_app (goodIn_of _ (by decide +kernel)) ggX1_afterStep_X1_wholeToward
set_option maxRecDepth 20000 in
theorem ggX1_afterStep_X1_wholeNearest : GoodIn wsX1_afterStep wsX1_wholeNearest := goodIn_r _ [52, 23, 53, 54, 41, 42, 3, 43, 31, 35, 36, 37, 7, 38, 39, 40, 44, 45, 46, 47, 48, 49, 5, 55, 56, 57] (by decide +kernel) (by decide +kernel)
set_option maxRecDepth 20000 in
theorem gX1_afterStep_X1_wholeNearest : GoodIn wsX1_afterStep (va_wsS RX1 224 yX1_wholeNearest wsX1_wholeNearest) := goodIn_app (goodIn_of _ (by decide +kernel)) ggX1_afterStep_X1_wholeNearest
theorem dX1_afterStep_0 : decode cX1_afterStep 0 = .ok (.iload_n 0, 1) := by decide +kernel
theorem dX1_afterStep_1 : decode cX1_afterStep 1 = .ok (.tableswitch 141 0 7 #[47, 54, 62, 70, 77, 100, 118, 136], 47) := by decide +kernel
theorem dX1_afterStep_48 : decode cX1_afterStep 48 = .ok (.lload_n 1, 1) := by decide +kernel
theorem dX1_afterStep_49 : decode cX1_afterStep 49 = .ok (.iload 5, 2) := by decide +kernel
theorem dX1_afterStep_51 : decode cX1_afterStep 51 = .ok (.invokestatic 200, 3) := by decide +kernel
theorem dX1_afterStep_54 : decode cX1_afterStep 54 = .ok (.lreturn, 1) := by decide +kernel
theorem dX1_afterStep_55 : decode cX1_afterStep 55 = .ok (.lload_n 1, 1) := by decide +kernel
theorem dX1_afterStep_56 : decode cX1_afterStep 56 = .ok (.lload_n 3, 1) := by decide +kernel
theorem dX1_afterStep_57 : decode cX1_afterStep 57 = .ok (.iload 5, 2) := by decide +kernel
theorem dX1_afterStep_59 : decode cX1_afterStep 59 = .ok (.invokestatic 203, 3) := by decide +kernel
theorem dX1_afterStep_62 : decode cX1_afterStep 62 = .ok (.lreturn, 1) := by decide +kernel
theorem dX1_afterStep_63 : decode cX1_afterStep 63 = .ok (.lload_n 1, 1) := by decide +kernel
theorem dX1_afterStep_64 : decode cX1_afterStep 64 = .ok (.lload_n 3, 1) := by decide +kernel
theorem dX1_afterStep_65 : decode cX1_afterStep 65 = .ok (.iload 5, 2) := by decide +kernel
theorem dX1_afterStep_67 : decode cX1_afterStep 67 = .ok (.invokestatic 207, 3) := by decide +kernel
theorem dX1_afterStep_70 : decode cX1_afterStep 70 = .ok (.lreturn, 1) := by decide +kernel
theorem dX1_afterStep_71 : decode cX1_afterStep 71 = .ok (.lload_n 1, 1) := by decide +kernel
theorem dX1_afterStep_72 : decode cX1_afterStep 72 = .ok (.iload 5, 2) := by decide +kernel
theorem dX1_afterStep_74 : decode cX1_afterStep 74 = .ok (.invokestatic 210, 3) := by decide +kernel
theorem dX1_afterStep_77 : decode cX1_afterStep 77 = .ok (.lreturn, 1) := by decide +kernel
theorem dX1_afterStep_78 : decode cX1_afterStep 78 = .ok (.lload_n 1, 1) := by decide +kernel
theorem dX1_afterStep_79 : decode cX1_afterStep 79 = .ok (.iload 5, 2) := by decide +kernel
theorem dX1_afterStep_81 : decode cX1_afterStep 81 = .ok (.invokestatic 200, 3) := by decide +kernel
theorem dX1_afterStep_84 : decode cX1_afterStep 84 = .ok (.lload_n 3, 1) := by decide +kernel
theorem dX1_afterStep_85 : decode cX1_afterStep 85 = .ok (.lconst 0, 1) := by decide +kernel
theorem dX1_afterStep_86 : decode cX1_afterStep 86 = .ok (.lcmp, 1) := by decide +kernel
theorem dX1_afterStep_87 : decode cX1_afterStep 87 = .ok (.ifCond .ge 7, 3) := by decide +kernel
theorem dX1_afterStep_90 : decode cX1_afterStep 90 = .ok (.iconst 1, 1) := by decide +kernel
theorem dX1_afterStep_91 : decode cX1_afterStep 91 = .ok (.goto 4, 3) := by decide +kernel
theorem dX1_afterStep_94 : decode cX1_afterStep 94 = .ok (.iconst 0, 1) := by decide +kernel
theorem dX1_afterStep_95 : decode cX1_afterStep 95 = .ok (.iload 5, 2) := by decide +kernel
theorem dX1_afterStep_97 : decode cX1_afterStep 97 = .ok (.invokestatic 213, 3) := by decide +kernel
theorem dX1_afterStep_100 : decode cX1_afterStep 100 = .ok (.lreturn, 1) := by decide +kernel
theorem dX1_afterStep_101 : decode cX1_afterStep 101 = .ok (.lload_n 1, 1) := by decide +kernel
theorem dX1_afterStep_102 : decode cX1_afterStep 102 = .ok (.lconst 0, 1) := by decide +kernel
theorem dX1_afterStep_103 : decode cX1_afterStep 103 = .ok (.lcmp, 1) := by decide +kernel
theorem dX1_afterStep_104 : decode cX1_afterStep 104 = .ok (.ifCond .ge 10, 3) := by decide +kernel
theorem dX1_afterStep_107 : decode cX1_afterStep 107 = .ok (.lload_n 1, 1) := by decide +kernel
theorem dX1_afterStep_108 : decode cX1_afterStep 108 = .ok (.invokestatic 217, 3) := by decide +kernel
theorem dX1_afterStep_111 : decode cX1_afterStep 111 = .ok (.goto 7, 3) := by decide +kernel
theorem dX1_afterStep_114 : decode cX1_afterStep 114 = .ok (.lload_n 1, 1) := by decide +kernel
theorem dX1_afterStep_115 : decode cX1_afterStep 115 = .ok (.invokestatic 221, 3) := by decide +kernel
theorem dX1_afterStep_118 : decode cX1_afterStep 118 = .ok (.lreturn, 1) := by decide +kernel
theorem dX1_afterStep_119 : decode cX1_afterStep 119 = .ok (.lload_n 1, 1) := by decide +kernel
theorem dX1_afterStep_120 : decode cX1_afterStep 120 = .ok (.lconst 0, 1) := by decide +kernel
theorem dX1_afterStep_121 : decode cX1_afterStep 121 = .ok (.lcmp, 1) := by decide +kernel
theorem dX1_afterStep_122 : decode cX1_afterStep 122 = .ok (.ifCond .ge 10, 3) := by decide +kernel
theorem dX1_afterStep_125 : decode cX1_afterStep 125 = .ok (.lload_n 1, 1) := by decide +kernel
theorem dX1_afterStep_126 : decode cX1_afterStep 126 = .ok (.invokestatic 221, 3) := by decide +kernel
theorem dX1_afterStep_129 : decode cX1_afterStep 129 = .ok (.goto 7, 3) := by decide +kernel
theorem dX1_afterStep_132 : decode cX1_afterStep 132 = .ok (.lload_n 1, 1) := by decide +kernel
theorem dX1_afterStep_133 : decode cX1_afterStep 133 = .ok (.invokestatic 217, 3) := by decide +kernel
theorem dX1_afterStep_136 : decode cX1_afterStep 136 = .ok (.lreturn, 1) := by decide +kernel
theorem dX1_afterStep_137 : decode cX1_afterStep 137 = .ok (.lload_n 1, 1) := by decide +kernel
theorem dX1_afterStep_138 : decode cX1_afterStep 138 = .ok (.invokestatic 224, 3) := by decide +kernel
theorem dX1_afterStep_141 : decode cX1_afterStep 141 = .ok (.lreturn, 1) := by decide +kernel
theorem dX1_afterStep_142 : decode cX1_afterStep 142 = .ok (.lload_n 1, 1) := by decide +kernel
theorem dX1_afterStep_143 : decode cX1_afterStep 143 = .ok (.lreturn, 1) := by decide +kernel
theorem dX1_signBits_0 : decode cX1_signBits 0 = .ok (.iload_n 0, 1) := by decide +kernel
theorem dX1_signBits_1 : decode cX1_signBits 1 = .ok (.iconst 2, 1) := by decide +kernel
theorem dX1_signBits_2 : decode cX1_signBits 2 = .ok (.if_icmp .ne 9, 3) := by decide +kernel
theorem dX1_signBits_5 : decode cX1_signBits 5 = .ok (.ldc2_w 171, 3) := by decide +kernel
theorem dX1_signBits_8 : decode cX1_signBits 8 = .ok (.goto 6, 3) := by decide +kernel
theorem dX1_signBits_11 : decode cX1_signBits 11 = .ok (.ldc2_w 227, 3) := by decide +kernel
theorem dX1_signBits_14 : decode cX1_signBits 14 = .ok (.lreturn, 1) := by decide +kernel
set_option maxRecDepth 20000 in
theorem ggX1_withSign_X1_signBits : GoodIn wsX1_withSign wsX1_signBits := goodIn_r _ [4, 5, 6] (by decide +kernel) (by decide +kernel)
set_option maxRecDepth 20000 in
theorem gX1_withSign_X1_signBits : GoodIn wsX1_withSign (va_wsS RX1 229 yX1_signBits wsX1_signBits) := goodIn_app (goodIn_of _ (by decide +kernel)) ggX1_withSign_X1_signBits
theorem dX1_withSign_0 : decode cX1_withSign 0 = .ok (.iload_n 2, 1) := by decide +kernel
theorem dX1_withSign_1 : decode cX1_withSign 1 = .ok (.ifCond .eq 12, 3) := by decide +kernel
theorem dX1_withSign_4 : decode cX1_withSign 4 = .ok (.lload_n 0, 1) := by decide +kernel
theorem dX1_withSign_5 : decode cX1_withSign 5 = .ok (.iload_n 3, 1) := by decide +kernel
theorem dX1_withSign_6 : decode cX1_withSign 6 = .ok (.invokestatic 229, 3) := by decide +kernel
theorem dX1_withSign_9 : decode cX1_withSign 9 = .ok (.lor, 1) := by decide +kernel
theorem dX1_withSign_10 : decode cX1_withSign 10 = .ok (.goto 4, 3) := by decide +kernel
theorem dX1_withSign_13 : decode cX1_withSign 13 = .ok (.lload_n 0, 1) := by decide +kernel
theorem dX1_withSign_14 : decode cX1_withSign 14 = .ok (.lreturn, 1) := by decide +kernel
set_option maxRecDepth 20000 in
theorem ggX1_sizeOf_X1_isReal : GoodIn wsX1_sizeOf wsX1_isReal := goodIn_r _ [7] (by decide +kernel) (by decide +kernel)
set_option maxRecDepth 20000 in
theorem gX1_sizeOf_X1_isReal : GoodIn wsX1_sizeOf (va_wsS RX1 177 yX1_isReal wsX1_isReal) := goodIn_app (goodIn_of _ (by decide +kernel)) ggX1_sizeOf_X1_isReal
set_option maxRecDepth 20000 in
theorem ggX1_sizeOf_X1_signBits : GoodIn wsX1_sizeOf wsX1_signBits := goodIn_r _ [10, 2, 3] (by decide +kernel) (by decide +kernel)
set_option maxRecDepth 20000 in
theorem gX1_sizeOf_X1_signBits : GoodIn wsX1_sizeOf (va_wsS RX1 229 yX1_signBits wsX1_signBits) := goodIn_app (goodIn_of _ (by decide +kernel)) ggX1_sizeOf_X1_signBits
theorem dX1_sizeOf_0 : decode cX1_sizeOf 0 = .ok (.iload_n 2, 1) := by decide +kernel
theorem dX1_sizeOf_1 : decode cX1_sizeOf 1 = .ok (.invokestatic 177, 3) := by decide +kernel
theorem dX1_sizeOf_4 : decode cX1_sizeOf 4 = .ok (.ifCond .eq 14, 3) := by decide +kernel
theorem dX1_sizeOf_7 : decode cX1_sizeOf 7 = .ok (.lload_n 0, 1) := by decide +kernel
theorem dX1_sizeOf_8 : decode cX1_sizeOf 8 = .ok (.iload_n 2, 1) := by decide +kernel
theorem dX1_sizeOf_9 : decode cX1_sizeOf 9 = .ok (.invokestatic 229, 3) := by decide +kernel
theorem dX1_sizeOf_12 : decode cX1_sizeOf 12 = .ok (.ldc2_w 233, 3) := by decide +kernel
theorem dX1_sizeOf_15 : decode cX1_sizeOf 15 = .ok (.lxor, 1) := by decide +kernel
theorem dX1_sizeOf_16 : decode cX1_sizeOf 16 = .ok (.land, 1) := by decide +kernel
theorem dX1_sizeOf_17 : decode cX1_sizeOf 17 = .ok (.lreturn, 1) := by decide +kernel
theorem dX1_sizeOf_18 : decode cX1_sizeOf 18 = .ok (.iload_n 2, 1) := by decide +kernel
theorem dX1_sizeOf_19 : decode cX1_sizeOf 19 = .ok (.ifCond .ne 9, 3) := by decide +kernel
theorem dX1_sizeOf_22 : decode cX1_sizeOf 22 = .ok (.ldc2_w 171, 3) := by decide +kernel
theorem dX1_sizeOf_25 : decode cX1_sizeOf 25 = .ok (.goto 6, 3) := by decide +kernel
theorem dX1_sizeOf_28 : decode cX1_sizeOf 28 = .ok (.ldc2_w 227, 3) := by decide +kernel
theorem dX1_sizeOf_31 : decode cX1_sizeOf 31 = .ok (.lstore_n 3, 1) := by decide +kernel
theorem dX1_sizeOf_32 : decode cX1_sizeOf 32 = .ok (.lload_n 0, 1) := by decide +kernel
theorem dX1_sizeOf_33 : decode cX1_sizeOf 33 = .ok (.lconst 0, 1) := by decide +kernel
theorem dX1_sizeOf_34 : decode cX1_sizeOf 34 = .ok (.lcmp, 1) := by decide +kernel
theorem dX1_sizeOf_35 : decode cX1_sizeOf 35 = .ok (.ifCond .ge 9, 3) := by decide +kernel
theorem dX1_sizeOf_38 : decode cX1_sizeOf 38 = .ok (.lload_n 0, 1) := by decide +kernel
theorem dX1_sizeOf_39 : decode cX1_sizeOf 39 = .ok (.lload_n 3, 1) := by decide +kernel
theorem dX1_sizeOf_40 : decode cX1_sizeOf 40 = .ok (.lcmp, 1) := by decide +kernel
theorem dX1_sizeOf_41 : decode cX1_sizeOf 41 = .ok (.ifCond .ne 7, 3) := by decide +kernel
theorem dX1_sizeOf_44 : decode cX1_sizeOf 44 = .ok (.lload_n 0, 1) := by decide +kernel
theorem dX1_sizeOf_45 : decode cX1_sizeOf 45 = .ok (.goto 5, 3) := by decide +kernel
theorem dX1_sizeOf_48 : decode cX1_sizeOf 48 = .ok (.lload_n 0, 1) := by decide +kernel
theorem dX1_sizeOf_49 : decode cX1_sizeOf 49 = .ok (.lneg, 1) := by decide +kernel
theorem dX1_sizeOf_50 : decode cX1_sizeOf 50 = .ok (.lreturn, 1) := by decide +kernel
set_option maxRecDepth 20000 in
theorem ggX1_shown_X1_sizeOf : GoodIn wsX1_shown wsX1_sizeOf := goodIn_r _ [6, 7, 8, 9, 10, 11, 5, 12, 13, 14, 15] (by decide +kernel) (by decide +kernel)
set_option maxRecDepth 20000 in
theorem gX1_shown_X1_sizeOf : GoodIn wsX1_shown (va_wsS RX1 200 yX1_sizeOf wsX1_sizeOf) := goodIn_app (goodIn_of _ (by decide +kernel)) ggX1_shown_X1_sizeOf
set_option maxRecDepth 20000 in
theorem ggX1_shown_X1_withSign : GoodIn wsX1_shown wsX1_withSign := goodIn_r _ [18, 13, 14, 5, 15, 8, 9] (by decide +kernel) (by decide +kernel)
set_option maxRecDepth 20000 in
theorem gX1_shown_X1_withSign : GoodIn wsX1_shown (va_wsS RX1 213 yX1_withSign wsX1_withSign) := goodIn_app (goodIn_of _ (by decide +kernel)) ggX1_shown_X1_withSign
theorem dX1_shown_0 : decode cX1_shown 0 = .ok (.lload_n 0, 1) := by decide +kernel
theorem dX1_shown_1 : decode cX1_shown 1 = .ok (.iload_n 2, 1) := by decide +kernel
theorem dX1_shown_2 : decode cX1_shown 2 = .ok (.invokestatic 200, 3) := by decide +kernel
theorem dX1_shown_5 : decode cX1_shown 5 = .ok (.lconst 0, 1) := by decide +kernel
theorem dX1_shown_6 : decode cX1_shown 6 = .ok (.lcmp, 1) := by decide +kernel
theorem dX1_shown_7 : decode cX1_shown 7 = .ok (.ifCond .ne 5, 3) := by decide +kernel
theorem dX1_shown_10 : decode cX1_shown 10 = .ok (.lload_n 0, 1) := by decide +kernel
theorem dX1_shown_11 : decode cX1_shown 11 = .ok (.lreturn, 1) := by decide +kernel
theorem dX1_shown_12 : decode cX1_shown 12 = .ok (.iload_n 2, 1) := by decide +kernel
theorem dX1_shown_13 : decode cX1_shown 13 = .ok (.iconst 2, 1) := by decide +kernel
theorem dX1_shown_14 : decode cX1_shown 14 = .ok (.if_icmp .ne 9, 3) := by decide +kernel
theorem dX1_shown_17 : decode cX1_shown 17 = .ok (.ldc2_w 235, 3) := by decide +kernel
theorem dX1_shown_20 : decode cX1_shown 20 = .ok (.goto 6, 3) := by decide +kernel
theorem dX1_shown_23 : decode cX1_shown 23 = .ok (.ldc2_w 237, 3) := by decide +kernel
theorem dX1_shown_26 : decode cX1_shown 26 = .ok (.lload_n 0, 1) := by decide +kernel
theorem dX1_shown_27 : decode cX1_shown 27 = .ok (.lconst 0, 1) := by decide +kernel
theorem dX1_shown_28 : decode cX1_shown 28 = .ok (.lcmp, 1) := by decide +kernel
theorem dX1_shown_29 : decode cX1_shown 29 = .ok (.ifCond .ge 7, 3) := by decide +kernel
theorem dX1_shown_32 : decode cX1_shown 32 = .ok (.iconst 1, 1) := by decide +kernel
theorem dX1_shown_33 : decode cX1_shown 33 = .ok (.goto 4, 3) := by decide +kernel
theorem dX1_shown_36 : decode cX1_shown 36 = .ok (.iconst 0, 1) := by decide +kernel
theorem dX1_shown_37 : decode cX1_shown 37 = .ok (.iload_n 2, 1) := by decide +kernel
theorem dX1_shown_38 : decode cX1_shown 38 = .ok (.invokestatic 213, 3) := by decide +kernel
theorem dX1_shown_41 : decode cX1_shown 41 = .ok (.lreturn, 1) := by decide +kernel
theorem dX1_partMask_0 : decode cX1_partMask 0 = .ok (.lload_n 0, 1) := by decide +kernel
theorem dX1_partMask_1 : decode cX1_partMask 1 = .ok (.ldc2_w 167, 3) := by decide +kernel
theorem dX1_partMask_4 : decode cX1_partMask 4 = .ok (.land, 1) := by decide +kernel
theorem dX1_partMask_5 : decode cX1_partMask 5 = .ok (.bipush 52, 2) := by decide +kernel
theorem dX1_partMask_7 : decode cX1_partMask 7 = .ok (.lushr, 1) := by decide +kernel
theorem dX1_partMask_8 : decode cX1_partMask 8 = .ok (.l2i, 1) := by decide +kernel
theorem dX1_partMask_9 : decode cX1_partMask 9 = .ok (.sipush 1023, 3) := by decide +kernel
theorem dX1_partMask_12 : decode cX1_partMask 12 = .ok (.isub, 1) := by decide +kernel
theorem dX1_partMask_13 : decode cX1_partMask 13 = .ok (.istore_n 2, 1) := by decide +kernel
theorem dX1_partMask_14 : decode cX1_partMask 14 = .ok (.iload_n 2, 1) := by decide +kernel
theorem dX1_partMask_15 : decode cX1_partMask 15 = .ok (.bipush 52, 2) := by decide +kernel
theorem dX1_partMask_17 : decode cX1_partMask 17 = .ok (.if_icmp .lt 7, 3) := by decide +kernel
theorem dX1_partMask_20 : decode cX1_partMask 20 = .ok (.lconst 0, 1) := by decide +kernel
theorem dX1_partMask_21 : decode cX1_partMask 21 = .ok (.goto 11, 3) := by decide +kernel
theorem dX1_partMask_24 : decode cX1_partMask 24 = .ok (.lconst 1, 1) := by decide +kernel
theorem dX1_partMask_25 : decode cX1_partMask 25 = .ok (.bipush 52, 2) := by decide +kernel
theorem dX1_partMask_27 : decode cX1_partMask 27 = .ok (.iload_n 2, 1) := by decide +kernel
theorem dX1_partMask_28 : decode cX1_partMask 28 = .ok (.isub, 1) := by decide +kernel
theorem dX1_partMask_29 : decode cX1_partMask 29 = .ok (.lshl, 1) := by decide +kernel
theorem dX1_partMask_30 : decode cX1_partMask 30 = .ok (.lconst 1, 1) := by decide +kernel
theorem dX1_partMask_31 : decode cX1_partMask 31 = .ok (.lsub, 1) := by decide +kernel
theorem dX1_partMask_32 : decode cX1_partMask 32 = .ok (.lreturn, 1) := by decide +kernel
theorem dX1_isBelowOne_0 : decode cX1_isBelowOne 0 = .ok (.lload_n 0, 1) := by decide +kernel
theorem dX1_isBelowOne_1 : decode cX1_isBelowOne 1 = .ok (.ldc2_w 167, 3) := by decide +kernel
theorem dX1_isBelowOne_4 : decode cX1_isBelowOne 4 = .ok (.land, 1) := by decide +kernel
theorem dX1_isBelowOne_5 : decode cX1_isBelowOne 5 = .ok (.ldc2_w 237, 3) := by decide +kernel
theorem dX1_isBelowOne_8 : decode cX1_isBelowOne 8 = .ok (.lcmp, 1) := by decide +kernel
theorem dX1_isBelowOne_9 : decode cX1_isBelowOne 9 = .ok (.ifCond .ge 7, 3) := by decide +kernel
theorem dX1_isBelowOne_12 : decode cX1_isBelowOne 12 = .ok (.iconst 1, 1) := by decide +kernel
theorem dX1_isBelowOne_13 : decode cX1_isBelowOne 13 = .ok (.goto 4, 3) := by decide +kernel
theorem dX1_isBelowOne_16 : decode cX1_isBelowOne 16 = .ok (.iconst 0, 1) := by decide +kernel
theorem dX1_isBelowOne_17 : decode cX1_isBelowOne 17 = .ok (.ireturn, 1) := by decide +kernel
set_option maxRecDepth 20000 in
theorem ggX1_isWhole_X1_isBelowOne : GoodIn wsX1_isWhole wsX1_isBelowOne := goodIn_r _ [5, 1, 6] (by decide +kernel) (by decide +kernel)
set_option maxRecDepth 20000 in
theorem gX1_isWhole_X1_isBelowOne : GoodIn wsX1_isWhole (va_wsS RX1 239 yX1_isBelowOne wsX1_isBelowOne) := goodIn_app (goodIn_of _ (by decide +kernel)) ggX1_isWhole_X1_isBelowOne
set_option maxRecDepth 20000 in
theorem ggX1_isWhole_X1_partMask : GoodIn wsX1_isWhole wsX1_partMask := goodIn_r _ [9, 1] (by decide +kernel) (by decide +kernel)
set_option maxRecDepth 20000 in
theorem gX1_isWhole_X1_partMask : GoodIn wsX1_isWhole (va_wsS RX1 243 yX1_partMask wsX1_partMask) := goodIn_app (goodIn_of _ (by decide +kernel)) ggX1_isWhole_X1_partMask
theorem dX1_isWhole_0 : decode cX1_isWhole 0 = .ok (.lload_n 0, 1) := by decide +kernel
theorem dX1_isWhole_1 : decode cX1_isWhole 1 = .ok (.invokestatic 239, 3) := by decide +kernel
theorem dX1_isWhole_4 : decode cX1_isWhole 4 = .ok (.ifCond .eq 19, 3) := by decide +kernel
theorem dX1_isWhole_7 : decode cX1_isWhole 7 = .ok (.lload_n 0, 1) := by decide +kernel
theorem dX1_isWhole_8 : decode cX1_isWhole 8 = .ok (.ldc2_w 167, 3) := by decide +kernel
theorem dX1_isWhole_11 : decode cX1_isWhole 11 = .ok (.land, 1) := by decide +kernel
theorem dX1_isWhole_12 : decode cX1_isWhole 12 = .ok (.lconst 0, 1) := by decide +kernel
theorem dX1_isWhole_13 : decode cX1_isWhole 13 = .ok (.lcmp, 1) := by decide +kernel
theorem dX1_isWhole_14 : decode cX1_isWhole 14 = .ok (.ifCond .ne 7, 3) := by decide +kernel
theorem dX1_isWhole_17 : decode cX1_isWhole 17 = .ok (.iconst 1, 1) := by decide +kernel
theorem dX1_isWhole_18 : decode cX1_isWhole 18 = .ok (.goto 4, 3) := by decide +kernel
theorem dX1_isWhole_21 : decode cX1_isWhole 21 = .ok (.iconst 0, 1) := by decide +kernel
theorem dX1_isWhole_22 : decode cX1_isWhole 22 = .ok (.ireturn, 1) := by decide +kernel
theorem dX1_isWhole_23 : decode cX1_isWhole 23 = .ok (.lload_n 0, 1) := by decide +kernel
theorem dX1_isWhole_24 : decode cX1_isWhole 24 = .ok (.lload_n 0, 1) := by decide +kernel
theorem dX1_isWhole_25 : decode cX1_isWhole 25 = .ok (.invokestatic 243, 3) := by decide +kernel
theorem dX1_isWhole_28 : decode cX1_isWhole 28 = .ok (.land, 1) := by decide +kernel
theorem dX1_isWhole_29 : decode cX1_isWhole 29 = .ok (.lconst 0, 1) := by decide +kernel
theorem dX1_isWhole_30 : decode cX1_isWhole 30 = .ok (.lcmp, 1) := by decide +kernel
theorem dX1_isWhole_31 : decode cX1_isWhole 31 = .ok (.ifCond .ne 7, 3) := by decide +kernel
theorem dX1_isWhole_34 : decode cX1_isWhole 34 = .ok (.iconst 1, 1) := by decide +kernel
theorem dX1_isWhole_35 : decode cX1_isWhole 35 = .ok (.goto 4, 3) := by decide +kernel
theorem dX1_isWhole_38 : decode cX1_isWhole 38 = .ok (.iconst 0, 1) := by decide +kernel
theorem dX1_isWhole_39 : decode cX1_isWhole 39 = .ok (.ireturn, 1) := by decide +kernel
set_option maxRecDepth 20000 in
theorem ggX1_wholeToward_X1_isBelowOne : GoodIn wsX1_wholeToward wsX1_isBelowOne := goodIn_r _ [6, 7, 8] (by decide +kernel) (by decide +kernel)
set_option maxRecDepth 20000 in
theorem gX1_wholeToward_X1_isBelowOne : GoodIn wsX1_wholeToward (va_wsS RX1 239 yX1_isBelowOne wsX1_isBelowOne) := goodIn_app (goodIn_of _ (by decide +kernel)) ggX1_wholeToward_X1_isBelowOne
set_option maxRecDepth 20000 in
theorem ggX1_wholeToward_X1_partMask : GoodIn wsX1_wholeToward wsX1_partMask := goodIn_r _ [11, 7] (by decide +kernel) (by decide +kernel)
set_option maxRecDepth 20000 in
theorem gX1_wholeToward_X1_partMask : GoodIn wsX1_wholeToward (va_wsS RX1 243 yX1_partMask wsX1_partMask) := goodIn_app (goodIn_of _ (by decide +kernel)) ggX1_wholeToward_X1_partMask
theorem dX1_wholeToward_0 : decode cX1_wholeToward 0 = .ok (.lload_n 0, 1) := by decide +kernel
theorem dX1_wholeToward_1 : decode cX1_wholeToward 1 = .ok (.invokestatic 239, 3) := by decide +kernel
theorem dX1_wholeToward_4 : decode cX1_wholeToward 4 = .ok (.ifCond .eq 9, 3) := by decide +kernel
theorem dX1_wholeToward_7 : decode cX1_wholeToward 7 = .ok (.lload_n 0, 1) := by decide +kernel
theorem dX1_wholeToward_8 : decode cX1_wholeToward 8 = .ok (.ldc2_w 227, 3) := by decide +kernel
theorem dX1_wholeToward_11 : decode cX1_wholeToward 11 = .ok (.land, 1) := by decide +kernel
theorem dX1_wholeToward_12 : decode cX1_wholeToward 12 = .ok (.lreturn, 1) := by decide +kernel
theorem dX1_wholeToward_13 : decode cX1_wholeToward 13 = .ok (.lload_n 0, 1) := by decide +kernel
theorem dX1_wholeToward_14 : decode cX1_wholeToward 14 = .ok (.lload_n 0, 1) := by decide +kernel
theorem dX1_wholeToward_15 : decode cX1_wholeToward 15 = .ok (.invokestatic 243, 3) := by decide +kernel
theorem dX1_wholeToward_18 : decode cX1_wholeToward 18 = .ok (.ldc2_w 233, 3) := by decide +kernel
theorem dX1_wholeToward_21 : decode cX1_wholeToward 21 = .ok (.lxor, 1) := by decide +kernel
theorem dX1_wholeToward_22 : decode cX1_wholeToward 22 = .ok (.land, 1) := by decide +kernel
theorem dX1_wholeToward_23 : decode cX1_wholeToward 23 = .ok (.lreturn, 1) := by decide +kernel
set_option maxRecDepth 20000 in
theorem ggX1_wholeAway_X1_isWhole : GoodIn wsX1_wholeAway wsX1_isWhole := goodIn_r _ [6, 7, 8, 9, 5, 10, 2, 11, 12, 13] (by decide +kernel) (by decide +kernel)
set_option maxRecDepth 20000 in
theorem gX1_wholeAway_X1_isWhole : GoodIn wsX1_wholeAway (va_wsS RX1 246 yX1_isWhole wsX1_isWhole) := goodIn_app (goodIn_of _ (by decide +kernel)) ggX1_wholeAway_X1_isWhole
set_option maxRecDepth 20000 in
theorem ggX1_wholeAway_X1_isBelowOne : GoodIn wsX1_wholeAway wsX1_isBelowOne := goodIn_r _ [10, 7, 2] (by decide +kernel) (by decide +kernel)
set_option maxRecDepth 20000 in
theorem gX1_wholeAway_X1_isBelowOne : GoodIn wsX1_wholeAway (va_wsS RX1 239 yX1_isBelowOne wsX1_isBelowOne) := goodIn_app (goodIn_of _ (by decide +kernel)) ggX1_wholeAway_X1_isBelowOne
set_option maxRecDepth 20000 in
theorem ggX1_wholeAway_X1_wholeToward : GoodIn wsX1_wholeAway wsX1_wholeToward := goodIn_r _ [16, 1, 17, 8, 9, 5, 10, 7, 2, 11, 12, 13] (by decide +kernel) (by decide +kernel)
set_option maxRecDepth 20000 in
theorem gX1_wholeAway_X1_wholeToward : GoodIn wsX1_wholeAway (va_wsS RX1 221 yX1_wholeToward wsX1_wholeToward) := goodIn_app (goodIn_of _ (by decide +kernel)) ggX1_wholeAway_X1_wholeToward
set_option maxRecDepth 20000 in
theorem ggX1_wholeAway_X1_partMask : GoodIn wsX1_wholeAway wsX1_partMask := goodIn_r _ [13, 7] (by decide +kernel) (by decide +kernel)
set_option maxRecDepth 20000 in
theorem gX1_wholeAway_X1_partMask : GoodIn wsX1_wholeAway (va_wsS RX1 243 yX1_partMask wsX1_partMask) := goodIn_app (goodIn_of _ (by decide +kernel)) ggX1_wholeAway_X1_partMask
theorem dX1_wholeAway_0 : decode cX1_wholeAway 0 = .ok (.lload_n 0, 1) := by decide +kernel
theorem dX1_wholeAway_1 : decode cX1_wholeAway 1 = .ok (.invokestatic 246, 3) := by decide +kernel
theorem dX1_wholeAway_4 : decode cX1_wholeAway 4 = .ok (.ifCond .eq 5, 3) := by decide +kernel
theorem dX1_wholeAway_7 : decode cX1_wholeAway 7 = .ok (.lload_n 0, 1) := by decide +kernel
theorem dX1_wholeAway_8 : decode cX1_wholeAway 8 = .ok (.lreturn, 1) := by decide +kernel
theorem dX1_wholeAway_9 : decode cX1_wholeAway 9 = .ok (.lload_n 0, 1) := by decide +kernel
theorem dX1_wholeAway_10 : decode cX1_wholeAway 10 = .ok (.invokestatic 239, 3) := by decide +kernel
theorem dX1_wholeAway_13 : decode cX1_wholeAway 13 = .ok (.ifCond .eq 13, 3) := by decide +kernel
theorem dX1_wholeAway_16 : decode cX1_wholeAway 16 = .ok (.lload_n 0, 1) := by decide +kernel
theorem dX1_wholeAway_17 : decode cX1_wholeAway 17 = .ok (.ldc2_w 227, 3) := by decide +kernel
theorem dX1_wholeAway_20 : decode cX1_wholeAway 20 = .ok (.land, 1) := by decide +kernel
theorem dX1_wholeAway_21 : decode cX1_wholeAway 21 = .ok (.ldc2_w 237, 3) := by decide +kernel
theorem dX1_wholeAway_24 : decode cX1_wholeAway 24 = .ok (.lor, 1) := by decide +kernel
theorem dX1_wholeAway_25 : decode cX1_wholeAway 25 = .ok (.lreturn, 1) := by decide +kernel
theorem dX1_wholeAway_26 : decode cX1_wholeAway 26 = .ok (.lload_n 0, 1) := by decide +kernel
theorem dX1_wholeAway_27 : decode cX1_wholeAway 27 = .ok (.invokestatic 221, 3) := by decide +kernel
theorem dX1_wholeAway_30 : decode cX1_wholeAway 30 = .ok (.lload_n 0, 1) := by decide +kernel
theorem dX1_wholeAway_31 : decode cX1_wholeAway 31 = .ok (.invokestatic 243, 3) := by decide +kernel
theorem dX1_wholeAway_34 : decode cX1_wholeAway 34 = .ok (.ladd, 1) := by decide +kernel
theorem dX1_wholeAway_35 : decode cX1_wholeAway 35 = .ok (.lconst 1, 1) := by decide +kernel
theorem dX1_wholeAway_36 : decode cX1_wholeAway 36 = .ok (.ladd, 1) := by decide +kernel
theorem dX1_wholeAway_37 : decode cX1_wholeAway 37 = .ok (.lreturn, 1) := by decide +kernel
set_option maxRecDepth 20000 in
theorem ggX1_wholeNearest_X1_isBelowOne : GoodIn wsX1_wholeNearest wsX1_isBelowOne := goodIn_r _ [7, 1, 8] (by decide +kernel) (by decide +kernel)
set_option maxRecDepth 20000 in
theorem gX1_wholeNearest_X1_isBelowOne : GoodIn wsX1_wholeNearest (va_wsS RX1 239 yX1_isBelowOne wsX1_isBelowOne) := goodIn_app (goodIn_of _ (by decide +kernel)) ggX1_wholeNearest_X1_isBelowOne
set_option maxRecDepth 20000 in
theorem ggX1_wholeNearest_X1_wholeAway : GoodIn wsX1_wholeNearest wsX1_wholeAway := goodIn_r _ [11, 12, 8, 13, 14, 6, 15, 1, 4, 5, 7, 16, 17, 18, 19, 20, 21, 22] (by decide +kernel) (by decide +kernel)
set_option maxRecDepth 20000 in
theorem gX1_wholeNearest_X1_wholeAway : GoodIn wsX1_wholeNearest (va_wsS RX1 217 yX1_wholeAway wsX1_wholeAway) := goodIn_app (goodIn_of _ (by decide +kernel)) ggX1_wholeNearest_X1_wholeAway
set_option maxRecDepth 20000 in
theorem ggX1_wholeNearest_X1_wholeToward : GoodIn wsX1_wholeNearest wsX1_wholeToward := goodIn_r _ [21, 12, 22, 4, 5, 6, 7, 1, 8, 16, 17, 18] (by decide +kernel) (by decide +kernel)
set_option maxRecDepth 20000 in
theorem gX1_wholeNearest_X1_wholeToward : GoodIn wsX1_wholeNearest (va_wsS RX1 221 yX1_wholeToward wsX1_wholeToward) := goodIn_app (goodIn_of _ (by decide +kernel)) ggX1_wholeNearest_X1_wholeToward
set_option maxRecDepth 20000 in
theorem ggX1_wholeNearest_X1_partMask : GoodIn wsX1_wholeNearest wsX1_partMask := goodIn_r _ [18, 1] (by decide +kernel) (by decide +kernel)
set_option maxRecDepth 20000 in
theorem gX1_wholeNearest_X1_partMask : GoodIn wsX1_wholeNearest (va_wsS RX1 243 yX1_partMask wsX1_partMask) := goodIn_app (goodIn_of _ (by decide +kernel)) ggX1_wholeNearest_X1_partMask
set_option maxRecDepth 20000 in
theorem ggX1_wholeNearest_X1_roundsAway : GoodIn wsX1_wholeNearest wsX1_roundsAway := goodIn_r _ [25] (by decide +kernel) (by decide +kernel)
set_option maxRecDepth 20000 in
theorem gX1_wholeNearest_X1_roundsAway : GoodIn wsX1_wholeNearest (va_wsS RX1 253 yX1_roundsAway wsX1_roundsAway) := goodIn_app (goodIn_of _ (by decide +kernel)) ggX1_wholeNearest_X1_roundsAway
theorem dX1_wholeNearest_0 : decode cX1_wholeNearest 0 = .ok (.lload_n 0, 1) := by decide +kernel
theorem dX1_wholeNearest_1 : decode cX1_wholeNearest 1 = .ok (.invokestatic 239, 3) := by decide +kernel
theorem dX1_wholeNearest_4 : decode cX1_wholeNearest 4 = .ok (.ifCond .eq 27, 3) := by decide +kernel
theorem dX1_wholeNearest_7 : decode cX1_wholeNearest 7 = .ok (.lload_n 0, 1) := by decide +kernel
theorem dX1_wholeNearest_8 : decode cX1_wholeNearest 8 = .ok (.ldc2_w 167, 3) := by decide +kernel
theorem dX1_wholeNearest_11 : decode cX1_wholeNearest 11 = .ok (.land, 1) := by decide +kernel
theorem dX1_wholeNearest_12 : decode cX1_wholeNearest 12 = .ok (.ldc2_w 249, 3) := by decide +kernel
theorem dX1_wholeNearest_15 : decode cX1_wholeNearest 15 = .ok (.lcmp, 1) := by decide +kernel
theorem dX1_wholeNearest_16 : decode cX1_wholeNearest 16 = .ok (.ifCond .le 10, 3) := by decide +kernel
theorem dX1_wholeNearest_19 : decode cX1_wholeNearest 19 = .ok (.lload_n 0, 1) := by decide +kernel
theorem dX1_wholeNearest_20 : decode cX1_wholeNearest 20 = .ok (.invokestatic 217, 3) := by decide +kernel
theorem dX1_wholeNearest_23 : decode cX1_wholeNearest 23 = .ok (.goto 7, 3) := by decide +kernel
theorem dX1_wholeNearest_26 : decode cX1_wholeNearest 26 = .ok (.lload_n 0, 1) := by decide +kernel
theorem dX1_wholeNearest_27 : decode cX1_wholeNearest 27 = .ok (.invokestatic 221, 3) := by decide +kernel
theorem dX1_wholeNearest_30 : decode cX1_wholeNearest 30 = .ok (.lreturn, 1) := by decide +kernel
theorem dX1_wholeNearest_31 : decode cX1_wholeNearest 31 = .ok (.ldc2_w 251, 3) := by decide +kernel
theorem dX1_wholeNearest_34 : decode cX1_wholeNearest 34 = .ok (.lstore_n 2, 1) := by decide +kernel
theorem dX1_wholeNearest_35 : decode cX1_wholeNearest 35 = .ok (.lload_n 0, 1) := by decide +kernel
theorem dX1_wholeNearest_36 : decode cX1_wholeNearest 36 = .ok (.lload_n 2, 1) := by decide +kernel
theorem dX1_wholeNearest_37 : decode cX1_wholeNearest 37 = .ok (.lconst 1, 1) := by decide +kernel
theorem dX1_wholeNearest_38 : decode cX1_wholeNearest 38 = .ok (.lsub, 1) := by decide +kernel
theorem dX1_wholeNearest_39 : decode cX1_wholeNearest 39 = .ok (.land, 1) := by decide +kernel
theorem dX1_wholeNearest_40 : decode cX1_wholeNearest 40 = .ok (.lload_n 2, 1) := by decide +kernel
theorem dX1_wholeNearest_41 : decode cX1_wholeNearest 41 = .ok (.lor, 1) := by decide +kernel
theorem dX1_wholeNearest_42 : decode cX1_wholeNearest 42 = .ok (.lstore 4, 2) := by decide +kernel
theorem dX1_wholeNearest_44 : decode cX1_wholeNearest 44 = .ok (.lload 4, 2) := by decide +kernel
theorem dX1_wholeNearest_46 : decode cX1_wholeNearest 46 = .ok (.lload_n 0, 1) := by decide +kernel
theorem dX1_wholeNearest_47 : decode cX1_wholeNearest 47 = .ok (.invokestatic 243, 3) := by decide +kernel
theorem dX1_wholeNearest_50 : decode cX1_wholeNearest 50 = .ok (.invokestatic 253, 3) := by decide +kernel
theorem dX1_wholeNearest_53 : decode cX1_wholeNearest 53 = .ok (.ifCond .eq 10, 3) := by decide +kernel
theorem dX1_wholeNearest_56 : decode cX1_wholeNearest 56 = .ok (.lload_n 0, 1) := by decide +kernel
theorem dX1_wholeNearest_57 : decode cX1_wholeNearest 57 = .ok (.invokestatic 217, 3) := by decide +kernel
theorem dX1_wholeNearest_60 : decode cX1_wholeNearest 60 = .ok (.goto 7, 3) := by decide +kernel
theorem dX1_wholeNearest_63 : decode cX1_wholeNearest 63 = .ok (.lload_n 0, 1) := by decide +kernel
theorem dX1_wholeNearest_64 : decode cX1_wholeNearest 64 = .ok (.invokestatic 221, 3) := by decide +kernel
theorem dX1_wholeNearest_67 : decode cX1_wholeNearest 67 = .ok (.lreturn, 1) := by decide +kernel
theorem dX1_roundsAway_0 : decode cX1_roundsAway 0 = .ok (.lload_n 0, 1) := by decide +kernel
theorem dX1_roundsAway_1 : decode cX1_roundsAway 1 = .ok (.lload_n 2, 1) := by decide +kernel
theorem dX1_roundsAway_2 : decode cX1_roundsAway 2 = .ok (.land, 1) := by decide +kernel
theorem dX1_roundsAway_3 : decode cX1_roundsAway 3 = .ok (.lstore 4, 2) := by decide +kernel
theorem dX1_roundsAway_5 : decode cX1_roundsAway 5 = .ok (.lload_n 2, 1) := by decide +kernel
theorem dX1_roundsAway_6 : decode cX1_roundsAway 6 = .ok (.iconst 1, 1) := by decide +kernel
theorem dX1_roundsAway_7 : decode cX1_roundsAway 7 = .ok (.lushr, 1) := by decide +kernel
theorem dX1_roundsAway_8 : decode cX1_roundsAway 8 = .ok (.lconst 1, 1) := by decide +kernel
theorem dX1_roundsAway_9 : decode cX1_roundsAway 9 = .ok (.ladd, 1) := by decide +kernel
theorem dX1_roundsAway_10 : decode cX1_roundsAway 10 = .ok (.lstore 6, 2) := by decide +kernel
theorem dX1_roundsAway_12 : decode cX1_roundsAway 12 = .ok (.lload_n 0, 1) := by decide +kernel
theorem dX1_roundsAway_13 : decode cX1_roundsAway 13 = .ok (.lload_n 2, 1) := by decide +kernel
theorem dX1_roundsAway_14 : decode cX1_roundsAway 14 = .ok (.lconst 1, 1) := by decide +kernel
theorem dX1_roundsAway_15 : decode cX1_roundsAway 15 = .ok (.ladd, 1) := by decide +kernel
theorem dX1_roundsAway_16 : decode cX1_roundsAway 16 = .ok (.land, 1) := by decide +kernel
theorem dX1_roundsAway_17 : decode cX1_roundsAway 17 = .ok (.lconst 0, 1) := by decide +kernel
theorem dX1_roundsAway_18 : decode cX1_roundsAway 18 = .ok (.lcmp, 1) := by decide +kernel
theorem dX1_roundsAway_19 : decode cX1_roundsAway 19 = .ok (.ifCond .eq 7, 3) := by decide +kernel
theorem dX1_roundsAway_22 : decode cX1_roundsAway 22 = .ok (.iconst 1, 1) := by decide +kernel
theorem dX1_roundsAway_23 : decode cX1_roundsAway 23 = .ok (.goto 4, 3) := by decide +kernel
theorem dX1_roundsAway_26 : decode cX1_roundsAway 26 = .ok (.iconst 0, 1) := by decide +kernel
theorem dX1_roundsAway_27 : decode cX1_roundsAway 27 = .ok (.istore 8, 2) := by decide +kernel
theorem dX1_roundsAway_29 : decode cX1_roundsAway 29 = .ok (.lload 4, 2) := by decide +kernel
theorem dX1_roundsAway_31 : decode cX1_roundsAway 31 = .ok (.lload 6, 2) := by decide +kernel
theorem dX1_roundsAway_33 : decode cX1_roundsAway 33 = .ok (.lcmp, 1) := by decide +kernel
theorem dX1_roundsAway_34 : decode cX1_roundsAway 34 = .ok (.ifCond .gt 16, 3) := by decide +kernel
theorem dX1_roundsAway_37 : decode cX1_roundsAway 37 = .ok (.lload 4, 2) := by decide +kernel
theorem dX1_roundsAway_39 : decode cX1_roundsAway 39 = .ok (.lload 6, 2) := by decide +kernel
theorem dX1_roundsAway_41 : decode cX1_roundsAway 41 = .ok (.lcmp, 1) := by decide +kernel
theorem dX1_roundsAway_42 : decode cX1_roundsAway 42 = .ok (.ifCond .ne 12, 3) := by decide +kernel
theorem dX1_roundsAway_45 : decode cX1_roundsAway 45 = .ok (.iload 8, 2) := by decide +kernel
theorem dX1_roundsAway_47 : decode cX1_roundsAway 47 = .ok (.ifCond .eq 7, 3) := by decide +kernel
theorem dX1_roundsAway_50 : decode cX1_roundsAway 50 = .ok (.iconst 1, 1) := by decide +kernel
theorem dX1_roundsAway_51 : decode cX1_roundsAway 51 = .ok (.goto 4, 3) := by decide +kernel
theorem dX1_roundsAway_54 : decode cX1_roundsAway 54 = .ok (.iconst 0, 1) := by decide +kernel
theorem dX1_roundsAway_55 : decode cX1_roundsAway 55 = .ok (.ireturn, 1) := by decide +kernel
theorem dX1_canHandOn_0 : decode cX1_canHandOn 0 = .ok (.iload_n 0, 1) := by decide +kernel
theorem dX1_canHandOn_1 : decode cX1_canHandOn 1 = .ok (.iload_n 1, 1) := by decide +kernel
theorem dX1_canHandOn_2 : decode cX1_canHandOn 2 = .ok (.if_icmp .gt 7, 3) := by decide +kernel
theorem dX1_canHandOn_5 : decode cX1_canHandOn 5 = .ok (.iconst 1, 1) := by decide +kernel
theorem dX1_canHandOn_6 : decode cX1_canHandOn 6 = .ok (.goto 4, 3) := by decide +kernel
theorem dX1_canHandOn_9 : decode cX1_canHandOn 9 = .ok (.iconst 0, 1) := by decide +kernel
theorem dX1_canHandOn_10 : decode cX1_canHandOn 10 = .ok (.ireturn, 1) := by decide +kernel
set_option maxRecDepth 20000 in
theorem ggX1_handedOn_X1_singleAsDouble : GoodIn wsX1_handedOn wsX1_singleAsDouble := goodIn_r _ [4, 5, 6, 7, 3, 8, 9, 10, 11, 12, 13, 14, 15, 16, 17, 18, 19, 20, 21, 22, 23, 24, 25, 26, 27, 28, 29, 30, 31, 32] (by decide +kernel) (by decide +kernel)
set_option maxRecDepth 20000 in
theorem gX1_handedOn_X1_singleAsDouble : GoodIn wsX1_handedOn (va_wsS RX1 257 yX1_singleAsDouble wsX1_singleAsDouble) := goodIn_app (goodIn_of _ (by decide +kernel)) ggX1_handedOn_X1_singleAsDouble
set_option maxRecDepth 20000 in
theorem ggX1_handedOn_X1_wholeAsReal : GoodIn wsX1_handedOn wsX1_wholeAsReal := goodIn_r _ [15, 16, 17, 3, 18, 19, 20, 21, 22, 23, 24, 25, 26, 27, 28, 29, 30, 31, 32] (by decide +kernel) (by decide +kernel)
set_option maxRecDepth 20000 in
theorem gX1_handedOn_X1_wholeAsReal : GoodIn wsX1_handedOn (va_wsS RX1 260 yX1_wholeAsReal wsX1_wholeAsReal) := goodIn_app (goodIn_of _ (by decide +kernel)) ggX1_handedOn_X1_wholeAsReal
theorem dX1_handedOn_0 : decode cX1_handedOn 0 = .ok (.iload_n 2, 1) := by decide +kernel
theorem dX1_handedOn_1 : decode cX1_handedOn 1 = .ok (.iload_n 3, 1) := by decide +kernel
theorem dX1_handedOn_2 : decode cX1_handedOn 2 = .ok (.if_icmp .eq 8, 3) := by decide +kernel
theorem dX1_handedOn_5 : decode cX1_handedOn 5 = .ok (.iload_n 3, 1) := by decide +kernel
theorem dX1_handedOn_6 : decode cX1_handedOn 6 = .ok (.iconst 1, 1) := by decide +kernel
theorem dX1_handedOn_7 : decode cX1_handedOn 7 = .ok (.if_icmp .ne 5, 3) := by decide +kernel
theorem dX1_handedOn_10 : decode cX1_handedOn 10 = .ok (.lload_n 0, 1) := by decide +kernel
theorem dX1_handedOn_11 : decode cX1_handedOn 11 = .ok (.lreturn, 1) := by decide +kernel
theorem dX1_handedOn_12 : decode cX1_handedOn 12 = .ok (.iload_n 2, 1) := by decide +kernel
theorem dX1_handedOn_13 : decode cX1_handedOn 13 = .ok (.iconst 2, 1) := by decide +kernel
theorem dX1_handedOn_14 : decode cX1_handedOn 14 = .ok (.if_icmp .ne 8, 3) := by decide +kernel
theorem dX1_handedOn_17 : decode cX1_handedOn 17 = .ok (.lload_n 0, 1) := by decide +kernel
theorem dX1_handedOn_18 : decode cX1_handedOn 18 = .ok (.invokestatic 257, 3) := by decide +kernel
theorem dX1_handedOn_21 : decode cX1_handedOn 21 = .ok (.lreturn, 1) := by decide +kernel
theorem dX1_handedOn_22 : decode cX1_handedOn 22 = .ok (.iload_n 3, 1) := by decide +kernel
theorem dX1_handedOn_23 : decode cX1_handedOn 23 = .ok (.iconst 2, 1) := by decide +kernel
theorem dX1_handedOn_24 : decode cX1_handedOn 24 = .ok (.if_icmp .ne 13, 3) := by decide +kernel
theorem dX1_handedOn_27 : decode cX1_handedOn 27 = .ok (.lload_n 0, 1) := by decide +kernel
theorem dX1_handedOn_28 : decode cX1_handedOn 28 = .ok (.bipush 23, 2) := by decide +kernel
theorem dX1_handedOn_30 : decode cX1_handedOn 30 = .ok (.bipush 127, 2) := by decide +kernel
theorem dX1_handedOn_32 : decode cX1_handedOn 32 = .ok (.iconst 2, 1) := by decide +kernel
theorem dX1_handedOn_33 : decode cX1_handedOn 33 = .ok (.invokestatic 260, 3) := by decide +kernel
theorem dX1_handedOn_36 : decode cX1_handedOn 36 = .ok (.lreturn, 1) := by decide +kernel
theorem dX1_handedOn_37 : decode cX1_handedOn 37 = .ok (.lload_n 0, 1) := by decide +kernel
theorem dX1_handedOn_38 : decode cX1_handedOn 38 = .ok (.bipush 52, 2) := by decide +kernel
theorem dX1_handedOn_40 : decode cX1_handedOn 40 = .ok (.sipush 1023, 3) := by decide +kernel
theorem dX1_handedOn_43 : decode cX1_handedOn 43 = .ok (.iconst 3, 1) := by decide +kernel
theorem dX1_handedOn_44 : decode cX1_handedOn 44 = .ok (.invokestatic 260, 3) := by decide +kernel
theorem dX1_handedOn_47 : decode cX1_handedOn 47 = .ok (.lreturn, 1) := by decide +kernel
set_option maxRecDepth 20000 in
theorem ggX1_wholeAsReal_X1_highestBit : GoodIn wsX1_wholeAsReal wsX1_highestBit := goodIn_r _ [4] (by decide +kernel) (by decide +kernel)
set_option maxRecDepth 20000 in
theorem gX1_wholeAsReal_X1_highestBit : GoodIn wsX1_wholeAsReal (va_wsS RX1 264 yX1_highestBit wsX1_highestBit) := goodIn_app (goodIn_of _ (by decide +kernel)) ggX1_wholeAsReal_X1_highestBit
set_option maxRecDepth 20000 in
theorem ggX1_wholeAsReal_X1_cutTo : GoodIn wsX1_wholeAsReal wsX1_cutTo := goodIn_r _ [7, 8, 9, 3, 10] (by decide +kernel) (by decide +kernel)
set_option maxRecDepth 20000 in
theorem gX1_wholeAsReal_X1_cutTo : GoodIn wsX1_wholeAsReal (va_wsS RX1 267 yX1_cutTo wsX1_cutTo) := goodIn_app (goodIn_of _ (by decide +kernel)) ggX1_wholeAsReal_X1_cutTo
set_option maxRecDepth 20000 in
theorem ggX1_wholeAsReal_X1_withSign : GoodIn wsX1_wholeAsReal wsX1_withSign := goodIn_r _ [13, 14, 15, 3, 16, 17, 18] (by decide +kernel) (by decide +kernel)
set_option maxRecDepth 20000 in
theorem gX1_wholeAsReal_X1_withSign : GoodIn wsX1_wholeAsReal (va_wsS RX1 213 yX1_withSign wsX1_withSign) := goodIn_app (goodIn_of _ (by decide +kernel)) ggX1_wholeAsReal_X1_withSign
theorem dX1_wholeAsReal_0 : decode cX1_wholeAsReal 0 = .ok (.lload_n 0, 1) := by decide +kernel
theorem dX1_wholeAsReal_1 : decode cX1_wholeAsReal 1 = .ok (.lconst 0, 1) := by decide +kernel
theorem dX1_wholeAsReal_2 : decode cX1_wholeAsReal 2 = .ok (.lcmp, 1) := by decide +kernel
theorem dX1_wholeAsReal_3 : decode cX1_wholeAsReal 3 = .ok (.ifCond .ne 5, 3) := by decide +kernel
theorem dX1_wholeAsReal_6 : decode cX1_wholeAsReal 6 = .ok (.lconst 0, 1) := by decide +kernel
theorem dX1_wholeAsReal_7 : decode cX1_wholeAsReal 7 = .ok (.lreturn, 1) := by decide +kernel
theorem dX1_wholeAsReal_8 : decode cX1_wholeAsReal 8 = .ok (.lload_n 0, 1) := by decide +kernel
theorem dX1_wholeAsReal_9 : decode cX1_wholeAsReal 9 = .ok (.lconst 0, 1) := by decide +kernel
theorem dX1_wholeAsReal_10 : decode cX1_wholeAsReal 10 = .ok (.lcmp, 1) := by decide +kernel
theorem dX1_wholeAsReal_11 : decode cX1_wholeAsReal 11 = .ok (.ifCond .ge 8, 3) := by decide +kernel
theorem dX1_wholeAsReal_14 : decode cX1_wholeAsReal 14 = .ok (.lload_n 0, 1) := by decide +kernel
theorem dX1_wholeAsReal_15 : decode cX1_wholeAsReal 15 = .ok (.lneg, 1) := by decide +kernel
theorem dX1_wholeAsReal_16 : decode cX1_wholeAsReal 16 = .ok (.goto 4, 3) := by decide +kernel
theorem dX1_wholeAsReal_19 : decode cX1_wholeAsReal 19 = .ok (.lload_n 0, 1) := by decide +kernel
theorem dX1_wholeAsReal_20 : decode cX1_wholeAsReal 20 = .ok (.lstore 5, 2) := by decide +kernel
theorem dX1_wholeAsReal_22 : decode cX1_wholeAsReal 22 = .ok (.lload 5, 2) := by decide +kernel
theorem dX1_wholeAsReal_24 : decode cX1_wholeAsReal 24 = .ok (.invokestatic 264, 3) := by decide +kernel
theorem dX1_wholeAsReal_27 : decode cX1_wholeAsReal 27 = .ok (.istore 7, 2) := by decide +kernel
theorem dX1_wholeAsReal_29 : decode cX1_wholeAsReal 29 = .ok (.lload 5, 2) := by decide +kernel
theorem dX1_wholeAsReal_31 : decode cX1_wholeAsReal 31 = .ok (.iload 7, 2) := by decide +kernel
theorem dX1_wholeAsReal_33 : decode cX1_wholeAsReal 33 = .ok (.iload_n 2, 1) := by decide +kernel
theorem dX1_wholeAsReal_34 : decode cX1_wholeAsReal 34 = .ok (.isub, 1) := by decide +kernel
theorem dX1_wholeAsReal_35 : decode cX1_wholeAsReal 35 = .ok (.invokestatic 267, 3) := by decide +kernel
theorem dX1_wholeAsReal_38 : decode cX1_wholeAsReal 38 = .ok (.lstore 8, 2) := by decide +kernel
theorem dX1_wholeAsReal_40 : decode cX1_wholeAsReal 40 = .ok (.lconst 1, 1) := by decide +kernel
theorem dX1_wholeAsReal_41 : decode cX1_wholeAsReal 41 = .ok (.iload_n 2, 1) := by decide +kernel
theorem dX1_wholeAsReal_42 : decode cX1_wholeAsReal 42 = .ok (.lshl, 1) := by decide +kernel
theorem dX1_wholeAsReal_43 : decode cX1_wholeAsReal 43 = .ok (.lstore 10, 2) := by decide +kernel
theorem dX1_wholeAsReal_45 : decode cX1_wholeAsReal 45 = .ok (.iload 7, 2) := by decide +kernel
theorem dX1_wholeAsReal_47 : decode cX1_wholeAsReal 47 = .ok (.iload_n 3, 1) := by decide +kernel
theorem dX1_wholeAsReal_48 : decode cX1_wholeAsReal 48 = .ok (.iadd, 1) := by decide +kernel
theorem dX1_wholeAsReal_49 : decode cX1_wholeAsReal 49 = .ok (.i2l, 1) := by decide +kernel
theorem dX1_wholeAsReal_50 : decode cX1_wholeAsReal 50 = .ok (.iload_n 2, 1) := by decide +kernel
theorem dX1_wholeAsReal_51 : decode cX1_wholeAsReal 51 = .ok (.lshl, 1) := by decide +kernel
theorem dX1_wholeAsReal_52 : decode cX1_wholeAsReal 52 = .ok (.lload 8, 2) := by decide +kernel
theorem dX1_wholeAsReal_54 : decode cX1_wholeAsReal 54 = .ok (.lload 10, 2) := by decide +kernel
theorem dX1_wholeAsReal_56 : decode cX1_wholeAsReal 56 = .ok (.lsub, 1) := by decide +kernel
theorem dX1_wholeAsReal_57 : decode cX1_wholeAsReal 57 = .ok (.ladd, 1) := by decide +kernel
theorem dX1_wholeAsReal_58 : decode cX1_wholeAsReal 58 = .ok (.lstore 12, 2) := by decide +kernel
theorem dX1_wholeAsReal_60 : decode cX1_wholeAsReal 60 = .ok (.lload 12, 2) := by decide +kernel
theorem dX1_wholeAsReal_62 : decode cX1_wholeAsReal 62 = .ok (.lload_n 0, 1) := by decide +kernel
theorem dX1_wholeAsReal_63 : decode cX1_wholeAsReal 63 = .ok (.lconst 0, 1) := by decide +kernel
theorem dX1_wholeAsReal_64 : decode cX1_wholeAsReal 64 = .ok (.lcmp, 1) := by decide +kernel
theorem dX1_wholeAsReal_65 : decode cX1_wholeAsReal 65 = .ok (.ifCond .ge 7, 3) := by decide +kernel
theorem dX1_wholeAsReal_68 : decode cX1_wholeAsReal 68 = .ok (.iconst 1, 1) := by decide +kernel
theorem dX1_wholeAsReal_69 : decode cX1_wholeAsReal 69 = .ok (.goto 4, 3) := by decide +kernel
theorem dX1_wholeAsReal_72 : decode cX1_wholeAsReal 72 = .ok (.iconst 0, 1) := by decide +kernel
theorem dX1_wholeAsReal_73 : decode cX1_wholeAsReal 73 = .ok (.iload 4, 2) := by decide +kernel
theorem dX1_wholeAsReal_75 : decode cX1_wholeAsReal 75 = .ok (.invokestatic 213, 3) := by decide +kernel
theorem dX1_wholeAsReal_78 : decode cX1_wholeAsReal 78 = .ok (.lreturn, 1) := by decide +kernel
theorem dX1_highestBit_0 : decode cX1_highestBit 0 = .ok (.bipush 63, 2) := by decide +kernel
theorem dX1_highestBit_2 : decode cX1_highestBit 2 = .ok (.istore_n 2, 1) := by decide +kernel
theorem dX1_highestBit_3 : decode cX1_highestBit 3 = .ok (.iload_n 2, 1) := by decide +kernel
theorem dX1_highestBit_4 : decode cX1_highestBit 4 = .ok (.ifCond .le 17, 3) := by decide +kernel
theorem dX1_highestBit_7 : decode cX1_highestBit 7 = .ok (.lload_n 0, 1) := by decide +kernel
theorem dX1_highestBit_8 : decode cX1_highestBit 8 = .ok (.iload_n 2, 1) := by decide +kernel
theorem dX1_highestBit_9 : decode cX1_highestBit 9 = .ok (.lushr, 1) := by decide +kernel
theorem dX1_highestBit_10 : decode cX1_highestBit 10 = .ok (.lconst 0, 1) := by decide +kernel
theorem dX1_highestBit_11 : decode cX1_highestBit 11 = .ok (.lcmp, 1) := by decide +kernel
theorem dX1_highestBit_12 : decode cX1_highestBit 12 = .ok (.ifCond .ne 9, 3) := by decide +kernel
theorem dX1_highestBit_15 : decode cX1_highestBit 15 = .ok (.iinc 2 (-1), 3) := by decide +kernel
theorem dX1_highestBit_18 : decode cX1_highestBit 18 = .ok (.goto (-15), 3) := by decide +kernel
theorem dX1_highestBit_21 : decode cX1_highestBit 21 = .ok (.iload_n 2, 1) := by decide +kernel
theorem dX1_highestBit_22 : decode cX1_highestBit 22 = .ok (.ireturn, 1) := by decide +kernel
set_option maxRecDepth 20000 in
theorem ggX1_cutTo_X1_roundsAway : GoodIn wsX1_cutTo wsX1_roundsAway := goodIn_r _ [4] (by decide +kernel) (by decide +kernel)
set_option maxRecDepth 20000 in
theorem gX1_cutTo_X1_roundsAway : GoodIn wsX1_cutTo (va_wsS RX1 253 yX1_roundsAway wsX1_roundsAway) := goodIn_app (goodIn_of _ (by decide +kernel)) ggX1_cutTo_X1_roundsAway
theorem dX1_cutTo_0 : decode cX1_cutTo 0 = .ok (.iload_n 2, 1) := by decide +kernel
theorem dX1_cutTo_1 : decode cX1_cutTo 1 = .ok (.ifCond .gt 8, 3) := by decide +kernel
theorem dX1_cutTo_4 : decode cX1_cutTo 4 = .ok (.lload_n 0, 1) := by decide +kernel
theorem dX1_cutTo_5 : decode cX1_cutTo 5 = .ok (.iload_n 2, 1) := by decide +kernel
theorem dX1_cutTo_6 : decode cX1_cutTo 6 = .ok (.ineg, 1) := by decide +kernel
theorem dX1_cutTo_7 : decode cX1_cutTo 7 = .ok (.lshl, 1) := by decide +kernel
theorem dX1_cutTo_8 : decode cX1_cutTo 8 = .ok (.lreturn, 1) := by decide +kernel
theorem dX1_cutTo_9 : decode cX1_cutTo 9 = .ok (.lload_n 0, 1) := by decide +kernel
theorem dX1_cutTo_10 : decode cX1_cutTo 10 = .ok (.iload_n 2, 1) := by decide +kernel
theorem dX1_cutTo_11 : decode cX1_cutTo 11 = .ok (.lushr, 1) := by decide +kernel
theorem dX1_cutTo_12 : decode cX1_cutTo 12 = .ok (.lstore_n 3, 1) := by decide +kernel
theorem dX1_cutTo_13 : decode cX1_cutTo 13 = .ok (.lload_n 0, 1) := by decide +kernel
theorem dX1_cutTo_14 : decode cX1_cutTo 14 = .ok (.lconst 1, 1) := by decide +kernel
theorem dX1_cutTo_15 : decode cX1_cutTo 15 = .ok (.iload_n 2, 1) := by decide +kernel
theorem dX1_cutTo_16 : decode cX1_cutTo 16 = .ok (.lshl, 1) := by decide +kernel
theorem dX1_cutTo_17 : decode cX1_cutTo 17 = .ok (.lconst 1, 1) := by decide +kernel
theorem dX1_cutTo_18 : decode cX1_cutTo 18 = .ok (.lsub, 1) := by decide +kernel
theorem dX1_cutTo_19 : decode cX1_cutTo 19 = .ok (.invokestatic 253, 3) := by decide +kernel
theorem dX1_cutTo_22 : decode cX1_cutTo 22 = .ok (.ifCond .eq 9, 3) := by decide +kernel
theorem dX1_cutTo_25 : decode cX1_cutTo 25 = .ok (.lload_n 3, 1) := by decide +kernel
theorem dX1_cutTo_26 : decode cX1_cutTo 26 = .ok (.lconst 1, 1) := by decide +kernel
theorem dX1_cutTo_27 : decode cX1_cutTo 27 = .ok (.ladd, 1) := by decide +kernel
theorem dX1_cutTo_28 : decode cX1_cutTo 28 = .ok (.goto 4, 3) := by decide +kernel
theorem dX1_cutTo_31 : decode cX1_cutTo 31 = .ok (.lload_n 3, 1) := by decide +kernel
theorem dX1_cutTo_32 : decode cX1_cutTo 32 = .ok (.lreturn, 1) := by decide +kernel
set_option maxRecDepth 20000 in
theorem ggX1_singleAsDouble_X1_sizeAsDouble : GoodIn wsX1_singleAsDouble wsX1_sizeAsDouble := goodIn_r _ [5, 6, 7, 8, 9, 10, 11, 4, 12, 13, 14, 15, 16, 17, 18, 19, 20, 21, 22, 23, 24, 25, 26, 27, 28, 29] (by decide +kernel) (by decide +kernel)
set_option maxRecDepth 20000 in
theorem gX1_singleAsDouble_X1_sizeAsDouble : GoodIn wsX1_singleAsDouble (va_wsS RX1 270 yX1_sizeAsDouble wsX1_sizeAsDouble) := goodIn_app (goodIn_of _ (by decide +kernel)) ggX1_singleAsDouble_X1_sizeAsDouble
set_option maxRecDepth 20000 in
theorem ggX1_singleAsDouble_X1_withSign : GoodIn wsX1_singleAsDouble wsX1_withSign := goodIn_r _ [24, 25, 26, 4, 27, 28, 29] (by decide +kernel) (by decide +kernel)
set_option maxRecDepth 20000 in
theorem gX1_singleAsDouble_X1_withSign : GoodIn wsX1_singleAsDouble (va_wsS RX1 213 yX1_withSign wsX1_withSign) := goodIn_app (goodIn_of _ (by decide +kernel)) ggX1_singleAsDouble_X1_withSign
theorem dX1_singleAsDouble_0 : decode cX1_singleAsDouble 0 = .ok (.lload_n 0, 1) := by decide +kernel
theorem dX1_singleAsDouble_1 : decode cX1_singleAsDouble 1 = .ok (.ldc2_w 173, 3) := by decide +kernel
theorem dX1_singleAsDouble_4 : decode cX1_singleAsDouble 4 = .ok (.land, 1) := by decide +kernel
theorem dX1_singleAsDouble_5 : decode cX1_singleAsDouble 5 = .ok (.invokestatic 270, 3) := by decide +kernel
theorem dX1_singleAsDouble_8 : decode cX1_singleAsDouble 8 = .ok (.lload_n 0, 1) := by decide +kernel
theorem dX1_singleAsDouble_9 : decode cX1_singleAsDouble 9 = .ok (.lconst 0, 1) := by decide +kernel
theorem dX1_singleAsDouble_10 : decode cX1_singleAsDouble 10 = .ok (.lcmp, 1) := by decide +kernel
theorem dX1_singleAsDouble_11 : decode cX1_singleAsDouble 11 = .ok (.ifCond .ge 7, 3) := by decide +kernel
theorem dX1_singleAsDouble_14 : decode cX1_singleAsDouble 14 = .ok (.iconst 1, 1) := by decide +kernel
theorem dX1_singleAsDouble_15 : decode cX1_singleAsDouble 15 = .ok (.goto 4, 3) := by decide +kernel
theorem dX1_singleAsDouble_18 : decode cX1_singleAsDouble 18 = .ok (.iconst 0, 1) := by decide +kernel
theorem dX1_singleAsDouble_19 : decode cX1_singleAsDouble 19 = .ok (.iconst 3, 1) := by decide +kernel
theorem dX1_singleAsDouble_20 : decode cX1_singleAsDouble 20 = .ok (.invokestatic 213, 3) := by decide +kernel
theorem dX1_singleAsDouble_23 : decode cX1_singleAsDouble 23 = .ok (.lreturn, 1) := by decide +kernel
set_option maxRecDepth 20000 in
theorem ggX1_sizeAsDouble_X1_wholeAsReal : GoodIn wsX1_sizeAsDouble wsX1_wholeAsReal := goodIn_r _ [8, 9, 10, 7, 11, 12, 13, 14, 15, 16, 17, 18, 19, 20, 21, 22, 23, 24, 25] (by decide +kernel) (by decide +kernel)
set_option maxRecDepth 20000 in
theorem gX1_sizeAsDouble_X1_wholeAsReal : GoodIn wsX1_sizeAsDouble (va_wsS RX1 260 yX1_wholeAsReal wsX1_wholeAsReal) := goodIn_app (goodIn_of _ (by decide +kernel)) ggX1_sizeAsDouble_X1_wholeAsReal
theorem dX1_sizeAsDouble_0 : decode cX1_sizeAsDouble 0 = .ok (.lload_n 0, 1) := by decide +kernel
theorem dX1_sizeAsDouble_1 : decode cX1_sizeAsDouble 1 = .ok (.lconst 0, 1) := by decide +kernel
theorem dX1_sizeAsDouble_2 : decode cX1_sizeAsDouble 2 = .ok (.lcmp, 1) := by decide +kernel
theorem dX1_sizeAsDouble_3 : decode cX1_sizeAsDouble 3 = .ok (.ifCond .ne 5, 3) := by decide +kernel
theorem dX1_sizeAsDouble_6 : decode cX1_sizeAsDouble 6 = .ok (.lconst 0, 1) := by decide +kernel
theorem dX1_sizeAsDouble_7 : decode cX1_sizeAsDouble 7 = .ok (.lreturn, 1) := by decide +kernel
theorem dX1_sizeAsDouble_8 : decode cX1_sizeAsDouble 8 = .ok (.lload_n 0, 1) := by decide +kernel
theorem dX1_sizeAsDouble_9 : decode cX1_sizeAsDouble 9 = .ok (.ldc2_w 175, 3) := by decide +kernel
theorem dX1_sizeAsDouble_12 : decode cX1_sizeAsDouble 12 = .ok (.lcmp, 1) := by decide +kernel
theorem dX1_sizeAsDouble_13 : decode cX1_sizeAsDouble 13 = .ok (.ifCond .ne 7, 3) := by decide +kernel
theorem dX1_sizeAsDouble_16 : decode cX1_sizeAsDouble 16 = .ok (.ldc2_w 169, 3) := by decide +kernel
theorem dX1_sizeAsDouble_19 : decode cX1_sizeAsDouble 19 = .ok (.lreturn, 1) := by decide +kernel
theorem dX1_sizeAsDouble_20 : decode cX1_sizeAsDouble 20 = .ok (.lload_n 0, 1) := by decide +kernel
theorem dX1_sizeAsDouble_21 : decode cX1_sizeAsDouble 21 = .ok (.bipush 23, 2) := by decide +kernel
theorem dX1_sizeAsDouble_23 : decode cX1_sizeAsDouble 23 = .ok (.lushr, 1) := by decide +kernel
theorem dX1_sizeAsDouble_24 : decode cX1_sizeAsDouble 24 = .ok (.lconst 0, 1) := by decide +kernel
theorem dX1_sizeAsDouble_25 : decode cX1_sizeAsDouble 25 = .ok (.lcmp, 1) := by decide +kernel
theorem dX1_sizeAsDouble_26 : decode cX1_sizeAsDouble 26 = .ok (.ifCond .ne 20, 3) := by decide +kernel
theorem dX1_sizeAsDouble_29 : decode cX1_sizeAsDouble 29 = .ok (.lload_n 0, 1) := by decide +kernel
theorem dX1_sizeAsDouble_30 : decode cX1_sizeAsDouble 30 = .ok (.bipush 52, 2) := by decide +kernel
theorem dX1_sizeAsDouble_32 : decode cX1_sizeAsDouble 32 = .ok (.sipush 1023, 3) := by decide +kernel
theorem dX1_sizeAsDouble_35 : decode cX1_sizeAsDouble 35 = .ok (.iconst 3, 1) := by decide +kernel
theorem dX1_sizeAsDouble_36 : decode cX1_sizeAsDouble 36 = .ok (.invokestatic 260, 3) := by decide +kernel
theorem dX1_sizeAsDouble_39 : decode cX1_sizeAsDouble 39 = .ok (.lstore_n 2, 1) := by decide +kernel
theorem dX1_sizeAsDouble_40 : decode cX1_sizeAsDouble 40 = .ok (.lload_n 2, 1) := by decide +kernel
theorem dX1_sizeAsDouble_41 : decode cX1_sizeAsDouble 41 = .ok (.ldc2_w 273, 3) := by decide +kernel
theorem dX1_sizeAsDouble_44 : decode cX1_sizeAsDouble 44 = .ok (.lsub, 1) := by decide +kernel
theorem dX1_sizeAsDouble_45 : decode cX1_sizeAsDouble 45 = .ok (.lreturn, 1) := by decide +kernel
theorem dX1_sizeAsDouble_46 : decode cX1_sizeAsDouble 46 = .ok (.lload_n 0, 1) := by decide +kernel
theorem dX1_sizeAsDouble_47 : decode cX1_sizeAsDouble 47 = .ok (.bipush 29, 2) := by decide +kernel
theorem dX1_sizeAsDouble_49 : decode cX1_sizeAsDouble 49 = .ok (.lshl, 1) := by decide +kernel
theorem dX1_sizeAsDouble_50 : decode cX1_sizeAsDouble 50 = .ok (.lstore_n 2, 1) := by decide +kernel
theorem dX1_sizeAsDouble_51 : decode cX1_sizeAsDouble 51 = .ok (.lload_n 2, 1) := by decide +kernel
theorem dX1_sizeAsDouble_52 : decode cX1_sizeAsDouble 52 = .ok (.ldc2_w 275, 3) := by decide +kernel
theorem dX1_sizeAsDouble_55 : decode cX1_sizeAsDouble 55 = .ok (.ladd, 1) := by decide +kernel
theorem dX1_sizeAsDouble_56 : decode cX1_sizeAsDouble 56 = .ok (.lreturn, 1) := by decide +kernel
end
section
theorem dX2_init_0 : decode cX2_init 0 = .ok (.aload_n 0, 1) := by decide +kernel
theorem dX2_init_1 : decode cX2_init 1 = .ok (.invokespecial 1, 3) := by decide +kernel
theorem dX2_init_4 : decode cX2_init 4 = .ok (.aload_n 0, 1) := by decide +kernel
theorem dX2_init_5 : decode cX2_init 5 = .ok (.bipush 12, 2) := by decide +kernel
theorem dX2_init_7 : decode cX2_init 7 = .ok (.newarray .boolean, 2) := by decide +kernel
theorem dX2_init_9 : decode cX2_init 9 = .ok (.putfield 7, 3) := by decide +kernel
theorem dX2_init_12 : decode cX2_init 12 = .ok (.aload_n 0, 1) := by decide +kernel
theorem dX2_init_13 : decode cX2_init 13 = .ok (.bipush 12, 2) := by decide +kernel
theorem dX2_init_15 : decode cX2_init 15 = .ok (.newarray .int, 2) := by decide +kernel
theorem dX2_init_17 : decode cX2_init 17 = .ok (.putfield 13, 3) := by decide +kernel
theorem dX2_init_20 : decode cX2_init 20 = .ok (.aload_n 0, 1) := by decide +kernel
theorem dX2_init_21 : decode cX2_init 21 = .ok (.bipush 12, 2) := by decide +kernel
theorem dX2_init_23 : decode cX2_init 23 = .ok (.newarray .long, 2) := by decide +kernel
theorem dX2_init_25 : decode cX2_init 25 = .ok (.putfield 17, 3) := by decide +kernel
theorem dX2_init_28 : decode cX2_init 28 = .ok (.aload_n 0, 1) := by decide +kernel
theorem dX2_init_29 : decode cX2_init 29 = .ok (.bipush 12, 2) := by decide +kernel
theorem dX2_init_31 : decode cX2_init 31 = .ok (.newarray .int, 2) := by decide +kernel
theorem dX2_init_33 : decode cX2_init 33 = .ok (.putfield 21, 3) := by decide +kernel
theorem dX2_init_36 : decode cX2_init 36 = .ok (.aload_n 0, 1) := by decide +kernel
theorem dX2_init_37 : decode cX2_init 37 = .ok (.bipush 12, 2) := by decide +kernel
theorem dX2_init_39 : decode cX2_init 39 = .ok (.newarray .int, 2) := by decide +kernel
theorem dX2_init_41 : decode cX2_init 41 = .ok (.putfield 24, 3) := by decide +kernel
theorem dX2_init_44 : decode cX2_init 44 = .ok (.aload_n 0, 1) := by decide +kernel
theorem dX2_init_45 : decode cX2_init 45 = .ok (.bipush 12, 2) := by decide +kernel
theorem dX2_init_47 : decode cX2_init 47 = .ok (.newarray .int, 2) := by decide +kernel
theorem dX2_init_49 : decode cX2_init 49 = .ok (.putfield 27, 3) := by decide +kernel
theorem dX2_init_52 : decode cX2_init 52 = .ok (.aload_n 0, 1) := by decide +kernel
theorem dX2_init_53 : decode cX2_init 53 = .ok (.bipush 12, 2) := by decide +kernel
theorem dX2_init_55 : decode cX2_init 55 = .ok (.newarray .boolean, 2) := by decide +kernel
theorem dX2_init_57 : decode cX2_init 57 = .ok (.putfield 30, 3) := by decide +kernel
theorem dX2_init_60 : decode cX2_init 60 = .ok (.aload_n 0, 1) := by decide +kernel
theorem dX2_init_61 : decode cX2_init 61 = .ok (.bipush 12, 2) := by decide +kernel
theorem dX2_init_63 : decode cX2_init 63 = .ok (.newarray .long, 2) := by decide +kernel
theorem dX2_init_65 : decode cX2_init 65 = .ok (.putfield 33, 3) := by decide +kernel
theorem dX2_init_68 : decode cX2_init 68 = .ok (.aload_n 0, 1) := by decide +kernel
theorem dX2_init_69 : decode cX2_init 69 = .ok (.bipush 12, 2) := by decide +kernel
theorem dX2_init_71 : decode cX2_init 71 = .ok (.newarray .long, 2) := by decide +kernel
theorem dX2_init_73 : decode cX2_init 73 = .ok (.putfield 36, 3) := by decide +kernel
theorem dX2_init_76 : decode cX2_init 76 = .ok (.aload_n 0, 1) := by decide +kernel
theorem dX2_init_77 : decode cX2_init 77 = .ok (.bipush 96, 2) := by decide +kernel
theorem dX2_init_79 : decode cX2_init 79 = .ok (.newarray .int, 2) := by decide +kernel
theorem dX2_init_81 : decode cX2_init 81 = .ok (.putfield 39, 3) := by decide +kernel
theorem dX2_init_84 : decode cX2_init 84 = .ok (.aload_n 0, 1) := by decide +kernel
theorem dX2_init_85 : decode cX2_init 85 = .ok (.bipush 96, 2) := by decide +kernel
theorem dX2_init_87 : decode cX2_init 87 = .ok (.newarray .int, 2) := by decide +kernel
theorem dX2_init_89 : decode cX2_init 89 = .ok (.putfield 42, 3) := by decide +kernel
theorem dX2_init_92 : decode cX2_init 92 = .ok (.aload_n 0, 1) := by decide +kernel
theorem dX2_init_93 : decode cX2_init 93 = .ok (.bipush 96, 2) := by decide +kernel
theorem dX2_init_95 : decode cX2_init 95 = .ok (.newarray .long, 2) := by decide +kernel
theorem dX2_init_97 : decode cX2_init 97 = .ok (.putfield 45, 3) := by decide +kernel
theorem dX2_init_100 : decode cX2_init 100 = .ok (.aload_n 0, 1) := by decide +kernel
theorem dX2_init_101 : decode cX2_init 101 = .ok (.bipush 96, 2) := by decide +kernel
theorem dX2_init_103 : decode cX2_init 103 = .ok (.newarray .int, 2) := by decide +kernel
theorem dX2_init_105 : decode cX2_init 105 = .ok (.putfield 48, 3) := by decide +kernel
theorem dX2_init_108 : decode cX2_init 108 = .ok (.return_, 1) := by decide +kernel
theorem dX2_thrown_0 : decode cX2_thrown 0 = .ok (.aload_n 0, 1) := by decide +kernel
theorem dX2_thrown_1 : decode cX2_thrown 1 = .ok (.getfield 51, 3) := by decide +kernel
theorem dX2_thrown_4 : decode cX2_thrown 4 = .ok (.ireturn, 1) := by decide +kernel
theorem dX2_isThere_0 : decode cX2_isThere 0 = .ok (.iload_n 1, 1) := by decide +kernel
theorem dX2_isThere_1 : decode cX2_isThere 1 = .ok (.ifCond .lt 22, 3) := by decide +kernel
theorem dX2_isThere_4 : decode cX2_isThere 4 = .ok (.iload_n 1, 1) := by decide +kernel
theorem dX2_isThere_5 : decode cX2_isThere 5 = .ok (.bipush 12, 2) := by decide +kernel
theorem dX2_isThere_7 : decode cX2_isThere 7 = .ok (.if_icmp .ge 16, 3) := by decide +kernel
theorem dX2_isThere_10 : decode cX2_isThere 10 = .ok (.aload_n 0, 1) := by decide +kernel
theorem dX2_isThere_11 : decode cX2_isThere 11 = .ok (.getfield 7, 3) := by decide +kernel
theorem dX2_isThere_14 : decode cX2_isThere 14 = .ok (.iload_n 1, 1) := by decide +kernel
theorem dX2_isThere_15 : decode cX2_isThere 15 = .ok (.baload, 1) := by decide +kernel
theorem dX2_isThere_16 : decode cX2_isThere 16 = .ok (.ifCond .eq 7, 3) := by decide +kernel
theorem dX2_isThere_19 : decode cX2_isThere 19 = .ok (.iconst 1, 1) := by decide +kernel
theorem dX2_isThere_20 : decode cX2_isThere 20 = .ok (.goto 4, 3) := by decide +kernel
theorem dX2_isThere_23 : decode cX2_isThere 23 = .ok (.iconst 0, 1) := by decide +kernel
theorem dX2_isThere_24 : decode cX2_isThere 24 = .ok (.ireturn, 1) := by decide +kernel
theorem dX2_isNone_0 : decode cX2_isNone 0 = .ok (.iload_n 2, 1) := by decide +kernel
theorem dX2_isNone_1 : decode cX2_isNone 1 = .ok (.iconst 2, 1) := by decide +kernel
theorem dX2_isNone_2 : decode cX2_isNone 2 = .ok (.if_icmp .ne 21, 3) := by decide +kernel
theorem dX2_isNone_5 : decode cX2_isNone 5 = .ok (.lload_n 0, 1) := by decide +kernel
theorem dX2_isNone_6 : decode cX2_isNone 6 = .ok (.ldc2_w 55, 3) := by decide +kernel
theorem dX2_isNone_9 : decode cX2_isNone 9 = .ok (.land, 1) := by decide +kernel
theorem dX2_isNone_10 : decode cX2_isNone 10 = .ok (.ldc2_w 57, 3) := by decide +kernel
theorem dX2_isNone_13 : decode cX2_isNone 13 = .ok (.lcmp, 1) := by decide +kernel
theorem dX2_isNone_14 : decode cX2_isNone 14 = .ok (.ifCond .le 7, 3) := by decide +kernel
theorem dX2_isNone_17 : decode cX2_isNone 17 = .ok (.iconst 1, 1) := by decide +kernel
theorem dX2_isNone_18 : decode cX2_isNone 18 = .ok (.goto 4, 3) := by decide +kernel
theorem dX2_isNone_21 : decode cX2_isNone 21 = .ok (.iconst 0, 1) := by decide +kernel
theorem dX2_isNone_22 : decode cX2_isNone 22 = .ok (.ireturn, 1) := by decide +kernel
theorem dX2_isNone_23 : decode cX2_isNone 23 = .ok (.iload_n 2, 1) := by decide +kernel
theorem dX2_isNone_24 : decode cX2_isNone 24 = .ok (.iconst 3, 1) := by decide +kernel
theorem dX2_isNone_25 : decode cX2_isNone 25 = .ok (.if_icmp .ne 19, 3) := by decide +kernel
theorem dX2_isNone_28 : decode cX2_isNone 28 = .ok (.lload_n 0, 1) := by decide +kernel
theorem dX2_isNone_29 : decode cX2_isNone 29 = .ok (.ldc2_w 59, 3) := by decide +kernel
theorem dX2_isNone_32 : decode cX2_isNone 32 = .ok (.land, 1) := by decide +kernel
theorem dX2_isNone_33 : decode cX2_isNone 33 = .ok (.ldc2_w 61, 3) := by decide +kernel
theorem dX2_isNone_36 : decode cX2_isNone 36 = .ok (.lcmp, 1) := by decide +kernel
theorem dX2_isNone_37 : decode cX2_isNone 37 = .ok (.ifCond .le 7, 3) := by decide +kernel
theorem dX2_isNone_40 : decode cX2_isNone 40 = .ok (.iconst 1, 1) := by decide +kernel
theorem dX2_isNone_41 : decode cX2_isNone 41 = .ok (.goto 4, 3) := by decide +kernel
theorem dX2_isNone_44 : decode cX2_isNone 44 = .ok (.iconst 0, 1) := by decide +kernel
theorem dX2_isNone_45 : decode cX2_isNone 45 = .ok (.ireturn, 1) := by decide +kernel
set_option maxRecDepth 20000 in
theorem ggX2_isGood_X2_isNone : GoodIn wsX2_isGood wsX2_isNone := goodIn_r _ [6, 2, 7, 8, 9] (by decide +kernel) (by decide +kernel)
set_option maxRecDepth 20000 in
theorem gX2_isGood_X2_isNone : GoodIn wsX2_isGood (va_wsS RX2 65 yX2_isNone wsX2_isNone) := goodIn_app (goodIn_of _ (by decide +kernel)) ggX2_isGood_X2_isNone
theorem dX2_isGood_0 : decode cX2_isGood 0 = .ok (.iload_n 2, 1) := by decide +kernel
theorem dX2_isGood_1 : decode cX2_isGood 1 = .ok (.ifCond .eq 8, 3) := by decide +kernel
theorem dX2_isGood_4 : decode cX2_isGood 4 = .ok (.iload_n 2, 1) := by decide +kernel
theorem dX2_isGood_5 : decode cX2_isGood 5 = .ok (.iconst 2, 1) := by decide +kernel
theorem dX2_isGood_6 : decode cX2_isGood 6 = .ok (.if_icmp .ne 21, 3) := by decide +kernel
theorem dX2_isGood_9 : decode cX2_isGood 9 = .ok (.lload_n 0, 1) := by decide +kernel
theorem dX2_isGood_10 : decode cX2_isGood 10 = .ok (.ldc2_w 63, 3) := by decide +kernel
theorem dX2_isGood_13 : decode cX2_isGood 13 = .ok (.lcmp, 1) := by decide +kernel
theorem dX2_isGood_14 : decode cX2_isGood 14 = .ok (.ifCond .lt 11, 3) := by decide +kernel
theorem dX2_isGood_17 : decode cX2_isGood 17 = .ok (.lload_n 0, 1) := by decide +kernel
theorem dX2_isGood_18 : decode cX2_isGood 18 = .ok (.ldc2_w 55, 3) := by decide +kernel
theorem dX2_isGood_21 : decode cX2_isGood 21 = .ok (.lcmp, 1) := by decide +kernel
theorem dX2_isGood_22 : decode cX2_isGood 22 = .ok (.ifCond .le 5, 3) := by decide +kernel
theorem dX2_isGood_25 : decode cX2_isGood 25 = .ok (.iconst 0, 1) := by decide +kernel
theorem dX2_isGood_26 : decode cX2_isGood 26 = .ok (.ireturn, 1) := by decide +kernel
theorem dX2_isGood_27 : decode cX2_isGood 27 = .ok (.lload_n 0, 1) := by decide +kernel
theorem dX2_isGood_28 : decode cX2_isGood 28 = .ok (.iload_n 2, 1) := by decide +kernel
theorem dX2_isGood_29 : decode cX2_isGood 29 = .ok (.invokestatic 65, 3) := by decide +kernel
theorem dX2_isGood_32 : decode cX2_isGood 32 = .ok (.ifCond .ne 7, 3) := by decide +kernel
theorem dX2_isGood_35 : decode cX2_isGood 35 = .ok (.iconst 1, 1) := by decide +kernel
theorem dX2_isGood_36 : decode cX2_isGood 36 = .ok (.goto 4, 3) := by decide +kernel
theorem dX2_isGood_39 : decode cX2_isGood 39 = .ok (.iconst 0, 1) := by decide +kernel
theorem dX2_isGood_40 : decode cX2_isGood 40 = .ok (.ireturn, 1) := by decide +kernel
theorem dX2_keyOf_0 : decode cX2_keyOf 0 = .ok (.iload_n 2, 1) := by decide +kernel
theorem dX2_keyOf_1 : decode cX2_keyOf 1 = .ok (.iconst 2, 1) := by decide +kernel
theorem dX2_keyOf_2 : decode cX2_keyOf 2 = .ok (.if_icmp .lt 9, 3) := by decide +kernel
theorem dX2_keyOf_5 : decode cX2_keyOf 5 = .ok (.lload_n 0, 1) := by decide +kernel
theorem dX2_keyOf_6 : decode cX2_keyOf 6 = .ok (.lconst 0, 1) := by decide +kernel
theorem dX2_keyOf_7 : decode cX2_keyOf 7 = .ok (.lcmp, 1) := by decide +kernel
theorem dX2_keyOf_8 : decode cX2_keyOf 8 = .ok (.ifCond .lt 5, 3) := by decide +kernel
theorem dX2_keyOf_11 : decode cX2_keyOf 11 = .ok (.lload_n 0, 1) := by decide +kernel
theorem dX2_keyOf_12 : decode cX2_keyOf 12 = .ok (.lreturn, 1) := by decide +kernel
theorem dX2_keyOf_13 : decode cX2_keyOf 13 = .ok (.iload_n 2, 1) := by decide +kernel
theorem dX2_keyOf_14 : decode cX2_keyOf 14 = .ok (.iconst 2, 1) := by decide +kernel
theorem dX2_keyOf_15 : decode cX2_keyOf 15 = .ok (.if_icmp .ne 11, 3) := by decide +kernel
theorem dX2_keyOf_18 : decode cX2_keyOf 18 = .ok (.lload_n 0, 1) := by decide +kernel
theorem dX2_keyOf_19 : decode cX2_keyOf 19 = .ok (.ldc2_w 55, 3) := by decide +kernel
theorem dX2_keyOf_22 : decode cX2_keyOf 22 = .ok (.lxor, 1) := by decide +kernel
theorem dX2_keyOf_23 : decode cX2_keyOf 23 = .ok (.goto 8, 3) := by decide +kernel
theorem dX2_keyOf_26 : decode cX2_keyOf 26 = .ok (.lload_n 0, 1) := by decide +kernel
theorem dX2_keyOf_27 : decode cX2_keyOf 27 = .ok (.ldc2_w 59, 3) := by decide +kernel
theorem dX2_keyOf_30 : decode cX2_keyOf 30 = .ok (.lxor, 1) := by decide +kernel
theorem dX2_keyOf_31 : decode cX2_keyOf 31 = .ok (.lreturn, 1) := by decide +kernel
set_option maxRecDepth 20000 in
theorem ggX2_isAbove_X2_keyOf : GoodIn wsX2_isAbove wsX2_keyOf := goodIn_r _ [4, 5, 6] (by decide +kernel) (by decide +kernel)
set_option maxRecDepth 20000 in
theorem gX2_isAbove_X2_keyOf : GoodIn wsX2_isAbove (va_wsS RX2 69 yX2_keyOf wsX2_keyOf) := goodIn_app (goodIn_of _ (by decide +kernel)) ggX2_isAbove_X2_keyOf
theorem dX2_isAbove_0 : decode cX2_isAbove 0 = .ok (.lload_n 0, 1) := by decide +kernel
theorem dX2_isAbove_1 : decode cX2_isAbove 1 = .ok (.iload 4, 2) := by decide +kernel
theorem dX2_isAbove_3 : decode cX2_isAbove 3 = .ok (.invokestatic 69, 3) := by decide +kernel
theorem dX2_isAbove_6 : decode cX2_isAbove 6 = .ok (.lload_n 2, 1) := by decide +kernel
theorem dX2_isAbove_7 : decode cX2_isAbove 7 = .ok (.iload 4, 2) := by decide +kernel
theorem dX2_isAbove_9 : decode cX2_isAbove 9 = .ok (.invokestatic 69, 3) := by decide +kernel
theorem dX2_isAbove_12 : decode cX2_isAbove 12 = .ok (.lcmp, 1) := by decide +kernel
theorem dX2_isAbove_13 : decode cX2_isAbove 13 = .ok (.ifCond .le 7, 3) := by decide +kernel
theorem dX2_isAbove_16 : decode cX2_isAbove 16 = .ok (.iconst 1, 1) := by decide +kernel
theorem dX2_isAbove_17 : decode cX2_isAbove 17 = .ok (.goto 4, 3) := by decide +kernel
theorem dX2_isAbove_20 : decode cX2_isAbove 20 = .ok (.iconst 0, 1) := by decide +kernel
theorem dX2_isAbove_21 : decode cX2_isAbove 21 = .ok (.ireturn, 1) := by decide +kernel
theorem dX2_isZero_0 : decode cX2_isZero 0 = .ok (.lload_n 0, 1) := by decide +kernel
theorem dX2_isZero_1 : decode cX2_isZero 1 = .ok (.iload_n 2, 1) := by decide +kernel
theorem dX2_isZero_2 : decode cX2_isZero 2 = .ok (.iconst 2, 1) := by decide +kernel
theorem dX2_isZero_3 : decode cX2_isZero 3 = .ok (.if_icmp .ne 9, 3) := by decide +kernel
theorem dX2_isZero_6 : decode cX2_isZero 6 = .ok (.ldc2_w 55, 3) := by decide +kernel
theorem dX2_isZero_9 : decode cX2_isZero 9 = .ok (.goto 6, 3) := by decide +kernel
theorem dX2_isZero_12 : decode cX2_isZero 12 = .ok (.ldc2_w 59, 3) := by decide +kernel
theorem dX2_isZero_15 : decode cX2_isZero 15 = .ok (.land, 1) := by decide +kernel
theorem dX2_isZero_16 : decode cX2_isZero 16 = .ok (.lconst 0, 1) := by decide +kernel
theorem dX2_isZero_17 : decode cX2_isZero 17 = .ok (.lcmp, 1) := by decide +kernel
theorem dX2_isZero_18 : decode cX2_isZero 18 = .ok (.ifCond .ne 7, 3) := by decide +kernel
theorem dX2_isZero_21 : decode cX2_isZero 21 = .ok (.iconst 1, 1) := by decide +kernel
theorem dX2_isZero_22 : decode cX2_isZero 22 = .ok (.goto 4, 3) := by decide +kernel
theorem dX2_isZero_25 : decode cX2_isZero 25 = .ok (.iconst 0, 1) := by decide +kernel
theorem dX2_isZero_26 : decode cX2_isZero 26 = .ok (.ireturn, 1) := by decide +kernel
theorem dX2_has_0 : decode cX2_has 0 = .ok (.iload_n 1, 1) := by decide +kernel
theorem dX2_has_1 : decode cX2_has 1 = .ok (.ifCond .lt 31, 3) := by decide +kernel
theorem dX2_has_4 : decode cX2_has 4 = .ok (.iload_n 1, 1) := by decide +kernel
theorem dX2_has_5 : decode cX2_has 5 = .ok (.iload_n 0, 1) := by decide +kernel
theorem dX2_has_6 : decode cX2_has 6 = .ok (.iconst 2, 1) := by decide +kernel
theorem dX2_has_7 : decode cX2_has 7 = .ok (.if_icmp .ge 7, 3) := by decide +kernel
theorem dX2_has_10 : decode cX2_has 10 = .ok (.iconst 2, 1) := by decide +kernel
theorem dX2_has_11 : decode cX2_has 11 = .ok (.goto 14, 3) := by decide +kernel
theorem dX2_has_14 : decode cX2_has 14 = .ok (.iload_n 0, 1) := by decide +kernel
theorem dX2_has_15 : decode cX2_has 15 = .ok (.iconst 2, 1) := by decide +kernel
theorem dX2_has_16 : decode cX2_has 16 = .ok (.if_icmp .ne 7, 3) := by decide +kernel
theorem dX2_has_19 : decode cX2_has 19 = .ok (.iconst 4, 1) := by decide +kernel
theorem dX2_has_20 : decode cX2_has 20 = .ok (.goto 5, 3) := by decide +kernel
theorem dX2_has_23 : decode cX2_has 23 = .ok (.bipush 7, 2) := by decide +kernel
theorem dX2_has_25 : decode cX2_has 25 = .ok (.if_icmp .gt 7, 3) := by decide +kernel
theorem dX2_has_28 : decode cX2_has 28 = .ok (.iconst 1, 1) := by decide +kernel
theorem dX2_has_29 : decode cX2_has 29 = .ok (.goto 4, 3) := by decide +kernel
theorem dX2_has_32 : decode cX2_has 32 = .ok (.iconst 0, 1) := by decide +kernel
theorem dX2_has_33 : decode cX2_has 33 = .ok (.ireturn, 1) := by decide +kernel
theorem dX2_wants_0 : decode cX2_wants 0 = .ok (.iload_n 0, 1) := by decide +kernel
theorem dX2_wants_1 : decode cX2_wants 1 = .ok (.iconst 1, 1) := by decide +kernel
theorem dX2_wants_2 : decode cX2_wants 2 = .ok (.if_icmp .eq 13, 3) := by decide +kernel
theorem dX2_wants_5 : decode cX2_wants 5 = .ok (.iload_n 0, 1) := by decide +kernel
theorem dX2_wants_6 : decode cX2_wants 6 = .ok (.iconst 2, 1) := by decide +kernel
theorem dX2_wants_7 : decode cX2_wants 7 = .ok (.if_icmp .eq 8, 3) := by decide +kernel
theorem dX2_wants_10 : decode cX2_wants 10 = .ok (.iload_n 0, 1) := by decide +kernel
theorem dX2_wants_11 : decode cX2_wants 11 = .ok (.iconst 4, 1) := by decide +kernel
theorem dX2_wants_12 : decode cX2_wants 12 = .ok (.if_icmp .ne 7, 3) := by decide +kernel
theorem dX2_wants_15 : decode cX2_wants 15 = .ok (.iconst 1, 1) := by decide +kernel
theorem dX2_wants_16 : decode cX2_wants 16 = .ok (.goto 4, 3) := by decide +kernel
theorem dX2_wants_19 : decode cX2_wants 19 = .ok (.iconst 0, 1) := by decide +kernel
theorem dX2_wants_20 : decode cX2_wants 20 = .ok (.ireturn, 1) := by decide +kernel
theorem dX2_sizeOf_0 : decode cX2_sizeOf 0 = .ok (.iload_n 2, 1) := by decide +kernel
theorem dX2_sizeOf_1 : decode cX2_sizeOf 1 = .ok (.tableswitch 67 0 2 #[27, 48, 61], 27) := by decide +kernel
theorem dX2_sizeOf_28 : decode cX2_sizeOf 28 = .ok (.lload_n 0, 1) := by decide +kernel
theorem dX2_sizeOf_29 : decode cX2_sizeOf 29 = .ok (.lconst 0, 1) := by decide +kernel
theorem dX2_sizeOf_30 : decode cX2_sizeOf 30 = .ok (.lcmp, 1) := by decide +kernel
theorem dX2_sizeOf_31 : decode cX2_sizeOf 31 = .ok (.ifCond .ge 16, 3) := by decide +kernel
theorem dX2_sizeOf_34 : decode cX2_sizeOf 34 = .ok (.lload_n 0, 1) := by decide +kernel
theorem dX2_sizeOf_35 : decode cX2_sizeOf 35 = .ok (.ldc2_w 63, 3) := by decide +kernel
theorem dX2_sizeOf_38 : decode cX2_sizeOf 38 = .ok (.lcmp, 1) := by decide +kernel
theorem dX2_sizeOf_39 : decode cX2_sizeOf 39 = .ok (.ifCond .eq 8, 3) := by decide +kernel
theorem dX2_sizeOf_42 : decode cX2_sizeOf 42 = .ok (.lload_n 0, 1) := by decide +kernel
theorem dX2_sizeOf_43 : decode cX2_sizeOf 43 = .ok (.lneg, 1) := by decide +kernel
theorem dX2_sizeOf_44 : decode cX2_sizeOf 44 = .ok (.goto 4, 3) := by decide +kernel
theorem dX2_sizeOf_47 : decode cX2_sizeOf 47 = .ok (.lload_n 0, 1) := by decide +kernel
theorem dX2_sizeOf_48 : decode cX2_sizeOf 48 = .ok (.lreturn, 1) := by decide +kernel
theorem dX2_sizeOf_49 : decode cX2_sizeOf 49 = .ok (.lload_n 0, 1) := by decide +kernel
theorem dX2_sizeOf_50 : decode cX2_sizeOf 50 = .ok (.lconst 0, 1) := by decide +kernel
theorem dX2_sizeOf_51 : decode cX2_sizeOf 51 = .ok (.lcmp, 1) := by decide +kernel
theorem dX2_sizeOf_52 : decode cX2_sizeOf 52 = .ok (.ifCond .ge 8, 3) := by decide +kernel
theorem dX2_sizeOf_55 : decode cX2_sizeOf 55 = .ok (.lload_n 0, 1) := by decide +kernel
theorem dX2_sizeOf_56 : decode cX2_sizeOf 56 = .ok (.lneg, 1) := by decide +kernel
theorem dX2_sizeOf_57 : decode cX2_sizeOf 57 = .ok (.goto 4, 3) := by decide +kernel
theorem dX2_sizeOf_60 : decode cX2_sizeOf 60 = .ok (.lload_n 0, 1) := by decide +kernel
theorem dX2_sizeOf_61 : decode cX2_sizeOf 61 = .ok (.lreturn, 1) := by decide +kernel
theorem dX2_sizeOf_62 : decode cX2_sizeOf 62 = .ok (.lload_n 0, 1) := by decide +kernel
theorem dX2_sizeOf_63 : decode cX2_sizeOf 63 = .ok (.ldc2_w 55, 3) := by decide +kernel
theorem dX2_sizeOf_66 : decode cX2_sizeOf 66 = .ok (.land, 1) := by decide +kernel
theorem dX2_sizeOf_67 : decode cX2_sizeOf 67 = .ok (.lreturn, 1) := by decide +kernel
theorem dX2_sizeOf_68 : decode cX2_sizeOf 68 = .ok (.lload_n 0, 1) := by decide +kernel
theorem dX2_sizeOf_69 : decode cX2_sizeOf 69 = .ok (.ldc2_w 59, 3) := by decide +kernel
theorem dX2_sizeOf_72 : decode cX2_sizeOf 72 = .ok (.land, 1) := by decide +kernel
theorem dX2_sizeOf_73 : decode cX2_sizeOf 73 = .ok (.lreturn, 1) := by decide +kernel
set_option maxRecDepth 20000 in
theorem ggX2_shown_X2_isZero : GoodIn wsX2_shown wsX2_isZero := goodIn_r _ [8, 9, 10] (by decide +kernel) (by decide +kernel)
set_option maxRecDepth 20000 in
theorem gX2_shown_X2_isZero : GoodIn wsX2_shown (va_wsS RX2 73 yX2_isZero wsX2_isZero) := goodIn_app (goodIn_of _ (by decide +kernel)) ggX2_shown_X2_isZero
theorem dX2_shown_0 : decode cX2_shown 0 = .ok (.lload_n 0, 1) := by decide +kernel
theorem dX2_shown_1 : decode cX2_shown 1 = .ok (.iload_n 2, 1) := by decide +kernel
theorem dX2_shown_2 : decode cX2_shown 2 = .ok (.invokestatic 73, 3) := by decide +kernel
theorem dX2_shown_5 : decode cX2_shown 5 = .ok (.ifCond .eq 5, 3) := by decide +kernel
theorem dX2_shown_8 : decode cX2_shown 8 = .ok (.lload_n 0, 1) := by decide +kernel
theorem dX2_shown_9 : decode cX2_shown 9 = .ok (.lreturn, 1) := by decide +kernel
theorem dX2_shown_10 : decode cX2_shown 10 = .ok (.iload_n 2, 1) := by decide +kernel
theorem dX2_shown_11 : decode cX2_shown 11 = .ok (.iconst 2, 1) := by decide +kernel
theorem dX2_shown_12 : decode cX2_shown 12 = .ok (.if_icmp .ne 19, 3) := by decide +kernel
theorem dX2_shown_15 : decode cX2_shown 15 = .ok (.lload_n 0, 1) := by decide +kernel
theorem dX2_shown_16 : decode cX2_shown 16 = .ok (.lconst 0, 1) := by decide +kernel
theorem dX2_shown_17 : decode cX2_shown 17 = .ok (.lcmp, 1) := by decide +kernel
theorem dX2_shown_18 : decode cX2_shown 18 = .ok (.ifCond .ge 9, 3) := by decide +kernel
theorem dX2_shown_21 : decode cX2_shown 21 = .ok (.ldc2_w 76, 3) := by decide +kernel
theorem dX2_shown_24 : decode cX2_shown 24 = .ok (.goto 6, 3) := by decide +kernel
theorem dX2_shown_27 : decode cX2_shown 27 = .ok (.ldc2_w 78, 3) := by decide +kernel
theorem dX2_shown_30 : decode cX2_shown 30 = .ok (.lreturn, 1) := by decide +kernel
theorem dX2_shown_31 : decode cX2_shown 31 = .ok (.lload_n 0, 1) := by decide +kernel
theorem dX2_shown_32 : decode cX2_shown 32 = .ok (.lconst 0, 1) := by decide +kernel
theorem dX2_shown_33 : decode cX2_shown 33 = .ok (.lcmp, 1) := by decide +kernel
theorem dX2_shown_34 : decode cX2_shown 34 = .ok (.ifCond .ge 9, 3) := by decide +kernel
theorem dX2_shown_37 : decode cX2_shown 37 = .ok (.ldc2_w 80, 3) := by decide +kernel
theorem dX2_shown_40 : decode cX2_shown 40 = .ok (.goto 6, 3) := by decide +kernel
theorem dX2_shown_43 : decode cX2_shown 43 = .ok (.ldc2_w 82, 3) := by decide +kernel
theorem dX2_shown_46 : decode cX2_shown 46 = .ok (.lreturn, 1) := by decide +kernel
set_option maxRecDepth 20000 in
theorem ggX2_like_X2_sizeOf : GoodIn wsX2_like wsX2_sizeOf := goodIn_r _ [6, 7, 8, 9] (by decide +kernel) (by decide +kernel)
set_option maxRecDepth 20000 in
theorem gX2_like_X2_sizeOf : GoodIn wsX2_like (va_wsS RX2 84 yX2_sizeOf wsX2_sizeOf) := goodIn_app (goodIn_of _ (by decide +kernel)) ggX2_like_X2_sizeOf
theorem dX2_like_0 : decode cX2_like 0 = .ok (.lload_n 0, 1) := by decide +kernel
theorem dX2_like_1 : decode cX2_like 1 = .ok (.iload 4, 2) := by decide +kernel
theorem dX2_like_3 : decode cX2_like 3 = .ok (.invokestatic 84, 3) := by decide +kernel
theorem dX2_like_6 : decode cX2_like 6 = .ok (.lstore 5, 2) := by decide +kernel
theorem dX2_like_8 : decode cX2_like 8 = .ok (.lload_n 2, 1) := by decide +kernel
theorem dX2_like_9 : decode cX2_like 9 = .ok (.lconst 0, 1) := by decide +kernel
theorem dX2_like_10 : decode cX2_like 10 = .ok (.lcmp, 1) := by decide +kernel
theorem dX2_like_11 : decode cX2_like 11 = .ok (.ifCond .lt 6, 3) := by decide +kernel
theorem dX2_like_14 : decode cX2_like 14 = .ok (.lload 5, 2) := by decide +kernel
theorem dX2_like_16 : decode cX2_like 16 = .ok (.lreturn, 1) := by decide +kernel
theorem dX2_like_17 : decode cX2_like 17 = .ok (.iload 4, 2) := by decide +kernel
theorem dX2_like_19 : decode cX2_like 19 = .ok (.iconst 2, 1) := by decide +kernel
theorem dX2_like_20 : decode cX2_like 20 = .ok (.if_icmp .ne 12, 3) := by decide +kernel
theorem dX2_like_23 : decode cX2_like 23 = .ok (.lload 5, 2) := by decide +kernel
theorem dX2_like_25 : decode cX2_like 25 = .ok (.ldc2_w 87, 3) := by decide +kernel
theorem dX2_like_28 : decode cX2_like 28 = .ok (.lsub, 1) := by decide +kernel
theorem dX2_like_29 : decode cX2_like 29 = .ok (.goto 9, 3) := by decide +kernel
theorem dX2_like_32 : decode cX2_like 32 = .ok (.lload 5, 2) := by decide +kernel
theorem dX2_like_34 : decode cX2_like 34 = .ok (.ldc2_w 89, 3) := by decide +kernel
theorem dX2_like_37 : decode cX2_like 37 = .ok (.lor, 1) := by decide +kernel
theorem dX2_like_38 : decode cX2_like 38 = .ok (.lreturn, 1) := by decide +kernel
theorem dX2_wholeOf_0 : decode cX2_wholeOf 0 = .ok (.lload_n 0, 1) := by decide +kernel
theorem dX2_wholeOf_1 : decode cX2_wholeOf 1 = .ok (.lconst 0, 1) := by decide +kernel
theorem dX2_wholeOf_2 : decode cX2_wholeOf 2 = .ok (.lcmp, 1) := by decide +kernel
theorem dX2_wholeOf_3 : decode cX2_wholeOf 3 = .ok (.ifCond .ge 7, 3) := by decide +kernel
theorem dX2_wholeOf_6 : decode cX2_wholeOf 6 = .ok (.iconst 1, 1) := by decide +kernel
theorem dX2_wholeOf_7 : decode cX2_wholeOf 7 = .ok (.goto 4, 3) := by decide +kernel
theorem dX2_wholeOf_10 : decode cX2_wholeOf 10 = .ok (.iconst 0, 1) := by decide +kernel
theorem dX2_wholeOf_11 : decode cX2_wholeOf 11 = .ok (.istore_n 3, 1) := by decide +kernel
theorem dX2_wholeOf_12 : decode cX2_wholeOf 12 = .ok (.lload_n 0, 1) := by decide +kernel
theorem dX2_wholeOf_13 : decode cX2_wholeOf 13 = .ok (.ldc2_w 59, 3) := by decide +kernel
theorem dX2_wholeOf_16 : decode cX2_wholeOf 16 = .ok (.land, 1) := by decide +kernel
theorem dX2_wholeOf_17 : decode cX2_wholeOf 17 = .ok (.lstore 4, 2) := by decide +kernel
theorem dX2_wholeOf_19 : decode cX2_wholeOf 19 = .ok (.lload 4, 2) := by decide +kernel
theorem dX2_wholeOf_21 : decode cX2_wholeOf 21 = .ok (.bipush 52, 2) := by decide +kernel
theorem dX2_wholeOf_23 : decode cX2_wholeOf 23 = .ok (.lshr, 1) := by decide +kernel
theorem dX2_wholeOf_24 : decode cX2_wholeOf 24 = .ok (.l2i, 1) := by decide +kernel
theorem dX2_wholeOf_25 : decode cX2_wholeOf 25 = .ok (.sipush 1023, 3) := by decide +kernel
theorem dX2_wholeOf_28 : decode cX2_wholeOf 28 = .ok (.isub, 1) := by decide +kernel
theorem dX2_wholeOf_29 : decode cX2_wholeOf 29 = .ok (.istore 6, 2) := by decide +kernel
theorem dX2_wholeOf_31 : decode cX2_wholeOf 31 = .ok (.lload 4, 2) := by decide +kernel
theorem dX2_wholeOf_33 : decode cX2_wholeOf 33 = .ok (.lconst 0, 1) := by decide +kernel
theorem dX2_wholeOf_34 : decode cX2_wholeOf 34 = .ok (.lcmp, 1) := by decide +kernel
theorem dX2_wholeOf_35 : decode cX2_wholeOf 35 = .ok (.ifCond .eq 10, 3) := by decide +kernel
theorem dX2_wholeOf_38 : decode cX2_wholeOf 38 = .ok (.iload 6, 2) := by decide +kernel
theorem dX2_wholeOf_40 : decode cX2_wholeOf 40 = .ok (.bipush 52, 2) := by decide +kernel
theorem dX2_wholeOf_42 : decode cX2_wholeOf 42 = .ok (.if_icmp .lt 5, 3) := by decide +kernel
theorem dX2_wholeOf_45 : decode cX2_wholeOf 45 = .ok (.lload_n 0, 1) := by decide +kernel
theorem dX2_wholeOf_46 : decode cX2_wholeOf 46 = .ok (.lreturn, 1) := by decide +kernel
theorem dX2_wholeOf_47 : decode cX2_wholeOf 47 = .ok (.iload_n 3, 1) := by decide +kernel
theorem dX2_wholeOf_48 : decode cX2_wholeOf 48 = .ok (.ifCond .eq 9, 3) := by decide +kernel
theorem dX2_wholeOf_51 : decode cX2_wholeOf 51 = .ok (.ldc2_w 89, 3) := by decide +kernel
theorem dX2_wholeOf_54 : decode cX2_wholeOf 54 = .ok (.goto 4, 3) := by decide +kernel
theorem dX2_wholeOf_57 : decode cX2_wholeOf 57 = .ok (.lconst 0, 1) := by decide +kernel
theorem dX2_wholeOf_58 : decode cX2_wholeOf 58 = .ok (.lstore 7, 2) := by decide +kernel
theorem dX2_wholeOf_60 : decode cX2_wholeOf 60 = .ok (.iload 6, 2) := by decide +kernel
theorem dX2_wholeOf_62 : decode cX2_wholeOf 62 = .ok (.ifCond .ge 63, 3) := by decide +kernel
theorem dX2_wholeOf_65 : decode cX2_wholeOf 65 = .ok (.iload_n 2, 1) := by decide +kernel
theorem dX2_wholeOf_66 : decode cX2_wholeOf 66 = .ok (.iconst 5, 1) := by decide +kernel
theorem dX2_wholeOf_67 : decode cX2_wholeOf 67 = .ok (.if_icmp .ne 7, 3) := by decide +kernel
theorem dX2_wholeOf_70 : decode cX2_wholeOf 70 = .ok (.iload_n 3, 1) := by decide +kernel
theorem dX2_wholeOf_71 : decode cX2_wholeOf 71 = .ok (.goto 35, 3) := by decide +kernel
theorem dX2_wholeOf_74 : decode cX2_wholeOf 74 = .ok (.iload_n 2, 1) := by decide +kernel
theorem dX2_wholeOf_75 : decode cX2_wholeOf 75 = .ok (.bipush 6, 2) := by decide +kernel
theorem dX2_wholeOf_77 : decode cX2_wholeOf 77 = .ok (.if_icmp .ne 15, 3) := by decide +kernel
theorem dX2_wholeOf_80 : decode cX2_wholeOf 80 = .ok (.iload_n 3, 1) := by decide +kernel
theorem dX2_wholeOf_81 : decode cX2_wholeOf 81 = .ok (.ifCond .ne 7, 3) := by decide +kernel
theorem dX2_wholeOf_84 : decode cX2_wholeOf 84 = .ok (.iconst 1, 1) := by decide +kernel
theorem dX2_wholeOf_85 : decode cX2_wholeOf 85 = .ok (.goto 21, 3) := by decide +kernel
theorem dX2_wholeOf_88 : decode cX2_wholeOf 88 = .ok (.iconst 0, 1) := by decide +kernel
theorem dX2_wholeOf_89 : decode cX2_wholeOf 89 = .ok (.goto 17, 3) := by decide +kernel
theorem dX2_wholeOf_92 : decode cX2_wholeOf 92 = .ok (.lload 4, 2) := by decide +kernel
theorem dX2_wholeOf_94 : decode cX2_wholeOf 94 = .ok (.ldc2_w 91, 3) := by decide +kernel
theorem dX2_wholeOf_97 : decode cX2_wholeOf 97 = .ok (.lcmp, 1) := by decide +kernel
theorem dX2_wholeOf_98 : decode cX2_wholeOf 98 = .ok (.ifCond .le 7, 3) := by decide +kernel
theorem dX2_wholeOf_101 : decode cX2_wholeOf 101 = .ok (.iconst 1, 1) := by decide +kernel
theorem dX2_wholeOf_102 : decode cX2_wholeOf 102 = .ok (.goto 4, 3) := by decide +kernel
theorem dX2_wholeOf_105 : decode cX2_wholeOf 105 = .ok (.iconst 0, 1) := by decide +kernel
theorem dX2_wholeOf_106 : decode cX2_wholeOf 106 = .ok (.istore 9, 2) := by decide +kernel
theorem dX2_wholeOf_108 : decode cX2_wholeOf 108 = .ok (.iload 9, 2) := by decide +kernel
theorem dX2_wholeOf_110 : decode cX2_wholeOf 110 = .ok (.ifCond .eq 12, 3) := by decide +kernel
theorem dX2_wholeOf_113 : decode cX2_wholeOf 113 = .ok (.lload 7, 2) := by decide +kernel
theorem dX2_wholeOf_115 : decode cX2_wholeOf 115 = .ok (.ldc2_w 82, 3) := by decide +kernel
theorem dX2_wholeOf_118 : decode cX2_wholeOf 118 = .ok (.lor, 1) := by decide +kernel
theorem dX2_wholeOf_119 : decode cX2_wholeOf 119 = .ok (.goto 5, 3) := by decide +kernel
theorem dX2_wholeOf_122 : decode cX2_wholeOf 122 = .ok (.lload 7, 2) := by decide +kernel
theorem dX2_wholeOf_124 : decode cX2_wholeOf 124 = .ok (.lreturn, 1) := by decide +kernel
theorem dX2_wholeOf_125 : decode cX2_wholeOf 125 = .ok (.lconst 1, 1) := by decide +kernel
theorem dX2_wholeOf_126 : decode cX2_wholeOf 126 = .ok (.bipush 52, 2) := by decide +kernel
theorem dX2_wholeOf_128 : decode cX2_wholeOf 128 = .ok (.iload 6, 2) := by decide +kernel
theorem dX2_wholeOf_130 : decode cX2_wholeOf 130 = .ok (.isub, 1) := by decide +kernel
theorem dX2_wholeOf_131 : decode cX2_wholeOf 131 = .ok (.lshl, 1) := by decide +kernel
theorem dX2_wholeOf_132 : decode cX2_wholeOf 132 = .ok (.lstore 9, 2) := by decide +kernel
theorem dX2_wholeOf_134 : decode cX2_wholeOf 134 = .ok (.lload 4, 2) := by decide +kernel
theorem dX2_wholeOf_136 : decode cX2_wholeOf 136 = .ok (.lload 9, 2) := by decide +kernel
theorem dX2_wholeOf_138 : decode cX2_wholeOf 138 = .ok (.lconst 1, 1) := by decide +kernel
theorem dX2_wholeOf_139 : decode cX2_wholeOf 139 = .ok (.lsub, 1) := by decide +kernel
theorem dX2_wholeOf_140 : decode cX2_wholeOf 140 = .ok (.land, 1) := by decide +kernel
theorem dX2_wholeOf_141 : decode cX2_wholeOf 141 = .ok (.lstore 11, 2) := by decide +kernel
theorem dX2_wholeOf_143 : decode cX2_wholeOf 143 = .ok (.lload 11, 2) := by decide +kernel
theorem dX2_wholeOf_145 : decode cX2_wholeOf 145 = .ok (.lconst 0, 1) := by decide +kernel
theorem dX2_wholeOf_146 : decode cX2_wholeOf 146 = .ok (.lcmp, 1) := by decide +kernel
theorem dX2_wholeOf_147 : decode cX2_wholeOf 147 = .ok (.ifCond .ne 5, 3) := by decide +kernel
theorem dX2_wholeOf_150 : decode cX2_wholeOf 150 = .ok (.lload_n 0, 1) := by decide +kernel
theorem dX2_wholeOf_151 : decode cX2_wholeOf 151 = .ok (.lreturn, 1) := by decide +kernel
theorem dX2_wholeOf_152 : decode cX2_wholeOf 152 = .ok (.lload 4, 2) := by decide +kernel
theorem dX2_wholeOf_154 : decode cX2_wholeOf 154 = .ok (.lload 11, 2) := by decide +kernel
theorem dX2_wholeOf_156 : decode cX2_wholeOf 156 = .ok (.lsub, 1) := by decide +kernel
theorem dX2_wholeOf_157 : decode cX2_wholeOf 157 = .ok (.lstore 13, 2) := by decide +kernel
theorem dX2_wholeOf_159 : decode cX2_wholeOf 159 = .ok (.lload 13, 2) := by decide +kernel
theorem dX2_wholeOf_161 : decode cX2_wholeOf 161 = .ok (.lload 9, 2) := by decide +kernel
theorem dX2_wholeOf_163 : decode cX2_wholeOf 163 = .ok (.land, 1) := by decide +kernel
theorem dX2_wholeOf_164 : decode cX2_wholeOf 164 = .ok (.lconst 0, 1) := by decide +kernel
theorem dX2_wholeOf_165 : decode cX2_wholeOf 165 = .ok (.lcmp, 1) := by decide +kernel
theorem dX2_wholeOf_166 : decode cX2_wholeOf 166 = .ok (.ifCond .eq 7, 3) := by decide +kernel
theorem dX2_wholeOf_169 : decode cX2_wholeOf 169 = .ok (.iconst 1, 1) := by decide +kernel
theorem dX2_wholeOf_170 : decode cX2_wholeOf 170 = .ok (.goto 4, 3) := by decide +kernel
theorem dX2_wholeOf_173 : decode cX2_wholeOf 173 = .ok (.iconst 0, 1) := by decide +kernel
theorem dX2_wholeOf_174 : decode cX2_wholeOf 174 = .ok (.istore 15, 2) := by decide +kernel
theorem dX2_wholeOf_176 : decode cX2_wholeOf 176 = .ok (.iload_n 2, 1) := by decide +kernel
theorem dX2_wholeOf_177 : decode cX2_wholeOf 177 = .ok (.iconst 5, 1) := by decide +kernel
theorem dX2_wholeOf_178 : decode cX2_wholeOf 178 = .ok (.if_icmp .ne 7, 3) := by decide +kernel
theorem dX2_wholeOf_181 : decode cX2_wholeOf 181 = .ok (.iload_n 3, 1) := by decide +kernel
theorem dX2_wholeOf_182 : decode cX2_wholeOf 182 = .ok (.goto 55, 3) := by decide +kernel
theorem dX2_wholeOf_185 : decode cX2_wholeOf 185 = .ok (.iload_n 2, 1) := by decide +kernel
theorem dX2_wholeOf_186 : decode cX2_wholeOf 186 = .ok (.bipush 6, 2) := by decide +kernel
theorem dX2_wholeOf_188 : decode cX2_wholeOf 188 = .ok (.if_icmp .ne 15, 3) := by decide +kernel
theorem dX2_wholeOf_191 : decode cX2_wholeOf 191 = .ok (.iload_n 3, 1) := by decide +kernel
theorem dX2_wholeOf_192 : decode cX2_wholeOf 192 = .ok (.ifCond .ne 7, 3) := by decide +kernel
theorem dX2_wholeOf_195 : decode cX2_wholeOf 195 = .ok (.iconst 1, 1) := by decide +kernel
theorem dX2_wholeOf_196 : decode cX2_wholeOf 196 = .ok (.goto 41, 3) := by decide +kernel
theorem dX2_wholeOf_199 : decode cX2_wholeOf 199 = .ok (.iconst 0, 1) := by decide +kernel
theorem dX2_wholeOf_200 : decode cX2_wholeOf 200 = .ok (.goto 37, 3) := by decide +kernel
theorem dX2_wholeOf_203 : decode cX2_wholeOf 203 = .ok (.lload 11, 2) := by decide +kernel
theorem dX2_wholeOf_205 : decode cX2_wholeOf 205 = .ok (.lload 9, 2) := by decide +kernel
theorem dX2_wholeOf_207 : decode cX2_wholeOf 207 = .ok (.ldc2_w 93, 3) := by decide +kernel
theorem dX2_wholeOf_210 : decode cX2_wholeOf 210 = .ok (.ldiv, 1) := by decide +kernel
theorem dX2_wholeOf_211 : decode cX2_wholeOf 211 = .ok (.lcmp, 1) := by decide +kernel
theorem dX2_wholeOf_212 : decode cX2_wholeOf 212 = .ok (.ifCond .gt 20, 3) := by decide +kernel
theorem dX2_wholeOf_215 : decode cX2_wholeOf 215 = .ok (.lload 11, 2) := by decide +kernel
theorem dX2_wholeOf_217 : decode cX2_wholeOf 217 = .ok (.lload 9, 2) := by decide +kernel
theorem dX2_wholeOf_219 : decode cX2_wholeOf 219 = .ok (.ldc2_w 93, 3) := by decide +kernel
theorem dX2_wholeOf_222 : decode cX2_wholeOf 222 = .ok (.ldiv, 1) := by decide +kernel
theorem dX2_wholeOf_223 : decode cX2_wholeOf 223 = .ok (.lcmp, 1) := by decide +kernel
theorem dX2_wholeOf_224 : decode cX2_wholeOf 224 = .ok (.ifCond .ne 12, 3) := by decide +kernel
theorem dX2_wholeOf_227 : decode cX2_wholeOf 227 = .ok (.iload 15, 2) := by decide +kernel
theorem dX2_wholeOf_229 : decode cX2_wholeOf 229 = .ok (.ifCond .eq 7, 3) := by decide +kernel
theorem dX2_wholeOf_232 : decode cX2_wholeOf 232 = .ok (.iconst 1, 1) := by decide +kernel
theorem dX2_wholeOf_233 : decode cX2_wholeOf 233 = .ok (.goto 4, 3) := by decide +kernel
theorem dX2_wholeOf_236 : decode cX2_wholeOf 236 = .ok (.iconst 0, 1) := by decide +kernel
theorem dX2_wholeOf_237 : decode cX2_wholeOf 237 = .ok (.istore 16, 2) := by decide +kernel
theorem dX2_wholeOf_239 : decode cX2_wholeOf 239 = .ok (.lload 7, 2) := by decide +kernel
theorem dX2_wholeOf_241 : decode cX2_wholeOf 241 = .ok (.iload 16, 2) := by decide +kernel
theorem dX2_wholeOf_243 : decode cX2_wholeOf 243 = .ok (.ifCond .eq 11, 3) := by decide +kernel
theorem dX2_wholeOf_246 : decode cX2_wholeOf 246 = .ok (.lload 13, 2) := by decide +kernel
theorem dX2_wholeOf_248 : decode cX2_wholeOf 248 = .ok (.lload 9, 2) := by decide +kernel
theorem dX2_wholeOf_250 : decode cX2_wholeOf 250 = .ok (.ladd, 1) := by decide +kernel
theorem dX2_wholeOf_251 : decode cX2_wholeOf 251 = .ok (.goto 5, 3) := by decide +kernel
theorem dX2_wholeOf_254 : decode cX2_wholeOf 254 = .ok (.lload 13, 2) := by decide +kernel
theorem dX2_wholeOf_256 : decode cX2_wholeOf 256 = .ok (.lor, 1) := by decide +kernel
theorem dX2_wholeOf_257 : decode cX2_wholeOf 257 = .ok (.lreturn, 1) := by decide +kernel
set_option maxRecDepth 20000 in
theorem ggX2_done_X2_sizeOf : GoodIn wsX2_done wsX2_sizeOf := goodIn_r _ [10, 11, 12, 13] (by decide +kernel) (by decide +kernel)
set_option maxRecDepth 20000 in
theorem gX2_done_X2_sizeOf : GoodIn wsX2_done (va_wsS RX2 84 yX2_sizeOf wsX2_sizeOf) := goodIn_app (goodIn_of _ (by decide +kernel)) ggX2_done_X2_sizeOf
set_option maxRecDepth 20000 in
theorem ggX2_done_X2_isAbove : GoodIn wsX2_done wsX2_isAbove := goodIn_r _ [16, 17, 18, 9, 19, 12, 13] (by decide +kernel) (by decide +kernel)
set_option maxRecDepth 20000 in
theorem gX2_done_X2_isAbove : GoodIn wsX2_done (va_wsS RX2 95 yX2_isAbove wsX2_isAbove) := goodIn_app (goodIn_of _ (by decide +kernel)) ggX2_done_X2_isAbove
set_option maxRecDepth 20000 in
theorem ggX2_done_X2_shown : GoodIn wsX2_done wsX2_shown := goodIn_r _ [22, 23, 24, 25, 26, 27, 28, 9, 29, 12, 13] (by decide +kernel) (by decide +kernel)
set_option maxRecDepth 20000 in
theorem gX2_done_X2_shown : GoodIn wsX2_done (va_wsS RX2 99 yX2_shown wsX2_shown) := goodIn_app (goodIn_of _ (by decide +kernel)) ggX2_done_X2_shown
set_option maxRecDepth 20000 in
theorem ggX2_done_X2_like : GoodIn wsX2_done wsX2_like := goodIn_r _ [32, 33, 34, 7, 8, 9, 10, 11, 12, 13] (by decide +kernel) (by decide +kernel)
set_option maxRecDepth 20000 in
theorem gX2_done_X2_like : GoodIn wsX2_done (va_wsS RX2 102 yX2_like wsX2_like) := goodIn_app (goodIn_of _ (by decide +kernel)) ggX2_done_X2_like
set_option maxRecDepth 20000 in
theorem ggX2_done_X2_wholeOf : GoodIn wsX2_done wsX2_wholeOf := goodIn_r _ [37, 13, 34, 38, 26, 39] (by decide +kernel) (by decide +kernel)
set_option maxRecDepth 20000 in
theorem gX2_done_X2_wholeOf : GoodIn wsX2_done (va_wsS RX2 106 yX2_wholeOf wsX2_wholeOf) := goodIn_app (goodIn_of _ (by decide +kernel)) ggX2_done_X2_wholeOf
theorem dX2_done_0 : decode cX2_done 0 = .ok (.bipush 8, 2) := by decide +kernel
theorem dX2_done_2 : decode cX2_done 2 = .ok (.iload_n 1, 1) := by decide +kernel
theorem dX2_done_3 : decode cX2_done 3 = .ok (.imul, 1) := by decide +kernel
theorem dX2_done_4 : decode cX2_done 4 = .ok (.iload_n 2, 1) := by decide +kernel
theorem dX2_done_5 : decode cX2_done 5 = .ok (.iadd, 1) := by decide +kernel
theorem dX2_done_6 : decode cX2_done 6 = .ok (.istore 5, 2) := by decide +kernel
theorem dX2_done_8 : decode cX2_done 8 = .ok (.aload_n 0, 1) := by decide +kernel
theorem dX2_done_9 : decode cX2_done 9 = .ok (.getfield 42, 3) := by decide +kernel
theorem dX2_done_12 : decode cX2_done 12 = .ok (.iload 5, 2) := by decide +kernel
theorem dX2_done_14 : decode cX2_done 14 = .ok (.iaload, 1) := by decide +kernel
theorem dX2_done_15 : decode cX2_done 15 = .ok (.iconst 1, 1) := by decide +kernel
theorem dX2_done_16 : decode cX2_done 16 = .ok (.if_icmp .ne 13, 3) := by decide +kernel
theorem dX2_done_19 : decode cX2_done 19 = .ok (.aload_n 0, 1) := by decide +kernel
theorem dX2_done_20 : decode cX2_done 20 = .ok (.getfield 45, 3) := by decide +kernel
theorem dX2_done_23 : decode cX2_done 23 = .ok (.iload 5, 2) := by decide +kernel
theorem dX2_done_25 : decode cX2_done 25 = .ok (.laload, 1) := by decide +kernel
theorem dX2_done_26 : decode cX2_done 26 = .ok (.goto 30, 3) := by decide +kernel
theorem dX2_done_29 : decode cX2_done 29 = .ok (.aload_n 0, 1) := by decide +kernel
theorem dX2_done_30 : decode cX2_done 30 = .ok (.getfield 42, 3) := by decide +kernel
theorem dX2_done_33 : decode cX2_done 33 = .ok (.iload 5, 2) := by decide +kernel
theorem dX2_done_35 : decode cX2_done 35 = .ok (.iaload, 1) := by decide +kernel
theorem dX2_done_36 : decode cX2_done 36 = .ok (.iconst 2, 1) := by decide +kernel
theorem dX2_done_37 : decode cX2_done 37 = .ok (.if_icmp .ne 18, 3) := by decide +kernel
theorem dX2_done_40 : decode cX2_done 40 = .ok (.aload_n 0, 1) := by decide +kernel
theorem dX2_done_41 : decode cX2_done 41 = .ok (.getfield 17, 3) := by decide +kernel
theorem dX2_done_44 : decode cX2_done 44 = .ok (.aload_n 0, 1) := by decide +kernel
theorem dX2_done_45 : decode cX2_done 45 = .ok (.getfield 48, 3) := by decide +kernel
theorem dX2_done_48 : decode cX2_done 48 = .ok (.iload 5, 2) := by decide +kernel
theorem dX2_done_50 : decode cX2_done 50 = .ok (.iaload, 1) := by decide +kernel
theorem dX2_done_51 : decode cX2_done 51 = .ok (.laload, 1) := by decide +kernel
theorem dX2_done_52 : decode cX2_done 52 = .ok (.goto 4, 3) := by decide +kernel
theorem dX2_done_55 : decode cX2_done 55 = .ok (.lconst 0, 1) := by decide +kernel
theorem dX2_done_56 : decode cX2_done 56 = .ok (.lstore 6, 2) := by decide +kernel
theorem dX2_done_58 : decode cX2_done 58 = .ok (.aload_n 0, 1) := by decide +kernel
theorem dX2_done_59 : decode cX2_done 59 = .ok (.getfield 39, 3) := by decide +kernel
theorem dX2_done_62 : decode cX2_done 62 = .ok (.iload 5, 2) := by decide +kernel
theorem dX2_done_64 : decode cX2_done 64 = .ok (.iaload, 1) := by decide +kernel
theorem dX2_done_65 : decode cX2_done 65 = .ok (.tableswitch 114 0 4 #[35, 46, 68, 90, 101], 35) := by decide +kernel
theorem dX2_done_100 : decode cX2_done 100 = .ok (.lload_n 3, 1) := by decide +kernel
theorem dX2_done_101 : decode cX2_done 101 = .ok (.aload_n 0, 1) := by decide +kernel
theorem dX2_done_102 : decode cX2_done 102 = .ok (.getfield 13, 3) := by decide +kernel
theorem dX2_done_105 : decode cX2_done 105 = .ok (.iload_n 1, 1) := by decide +kernel
theorem dX2_done_106 : decode cX2_done 106 = .ok (.iaload, 1) := by decide +kernel
theorem dX2_done_107 : decode cX2_done 107 = .ok (.invokestatic 84, 3) := by decide +kernel
theorem dX2_done_110 : decode cX2_done 110 = .ok (.lreturn, 1) := by decide +kernel
theorem dX2_done_111 : decode cX2_done 111 = .ok (.lload 6, 2) := by decide +kernel
theorem dX2_done_113 : decode cX2_done 113 = .ok (.lload_n 3, 1) := by decide +kernel
theorem dX2_done_114 : decode cX2_done 114 = .ok (.aload_n 0, 1) := by decide +kernel
theorem dX2_done_115 : decode cX2_done 115 = .ok (.getfield 13, 3) := by decide +kernel
theorem dX2_done_118 : decode cX2_done 118 = .ok (.iload_n 1, 1) := by decide +kernel
theorem dX2_done_119 : decode cX2_done 119 = .ok (.iaload, 1) := by decide +kernel
theorem dX2_done_120 : decode cX2_done 120 = .ok (.invokestatic 95, 3) := by decide +kernel
theorem dX2_done_123 : decode cX2_done 123 = .ok (.ifCond .eq 8, 3) := by decide +kernel
theorem dX2_done_126 : decode cX2_done 126 = .ok (.lload 6, 2) := by decide +kernel
theorem dX2_done_128 : decode cX2_done 128 = .ok (.goto 4, 3) := by decide +kernel
theorem dX2_done_131 : decode cX2_done 131 = .ok (.lload_n 3, 1) := by decide +kernel
theorem dX2_done_132 : decode cX2_done 132 = .ok (.lreturn, 1) := by decide +kernel
theorem dX2_done_133 : decode cX2_done 133 = .ok (.lload_n 3, 1) := by decide +kernel
theorem dX2_done_134 : decode cX2_done 134 = .ok (.lload 6, 2) := by decide +kernel
theorem dX2_done_136 : decode cX2_done 136 = .ok (.aload_n 0, 1) := by decide +kernel
theorem dX2_done_137 : decode cX2_done 137 = .ok (.getfield 13, 3) := by decide +kernel
theorem dX2_done_140 : decode cX2_done 140 = .ok (.iload_n 1, 1) := by decide +kernel
theorem dX2_done_141 : decode cX2_done 141 = .ok (.iaload, 1) := by decide +kernel
theorem dX2_done_142 : decode cX2_done 142 = .ok (.invokestatic 95, 3) := by decide +kernel
theorem dX2_done_145 : decode cX2_done 145 = .ok (.ifCond .eq 8, 3) := by decide +kernel
theorem dX2_done_148 : decode cX2_done 148 = .ok (.lload 6, 2) := by decide +kernel
theorem dX2_done_150 : decode cX2_done 150 = .ok (.goto 4, 3) := by decide +kernel
theorem dX2_done_153 : decode cX2_done 153 = .ok (.lload_n 3, 1) := by decide +kernel
theorem dX2_done_154 : decode cX2_done 154 = .ok (.lreturn, 1) := by decide +kernel
theorem dX2_done_155 : decode cX2_done 155 = .ok (.lload_n 3, 1) := by decide +kernel
theorem dX2_done_156 : decode cX2_done 156 = .ok (.aload_n 0, 1) := by decide +kernel
theorem dX2_done_157 : decode cX2_done 157 = .ok (.getfield 13, 3) := by decide +kernel
theorem dX2_done_160 : decode cX2_done 160 = .ok (.iload_n 1, 1) := by decide +kernel
theorem dX2_done_161 : decode cX2_done 161 = .ok (.iaload, 1) := by decide +kernel
theorem dX2_done_162 : decode cX2_done 162 = .ok (.invokestatic 99, 3) := by decide +kernel
theorem dX2_done_165 : decode cX2_done 165 = .ok (.lreturn, 1) := by decide +kernel
theorem dX2_done_166 : decode cX2_done 166 = .ok (.lload_n 3, 1) := by decide +kernel
theorem dX2_done_167 : decode cX2_done 167 = .ok (.lload 6, 2) := by decide +kernel
theorem dX2_done_169 : decode cX2_done 169 = .ok (.aload_n 0, 1) := by decide +kernel
theorem dX2_done_170 : decode cX2_done 170 = .ok (.getfield 13, 3) := by decide +kernel
theorem dX2_done_173 : decode cX2_done 173 = .ok (.iload_n 1, 1) := by decide +kernel
theorem dX2_done_174 : decode cX2_done 174 = .ok (.iaload, 1) := by decide +kernel
theorem dX2_done_175 : decode cX2_done 175 = .ok (.invokestatic 102, 3) := by decide +kernel
theorem dX2_done_178 : decode cX2_done 178 = .ok (.lreturn, 1) := by decide +kernel
theorem dX2_done_179 : decode cX2_done 179 = .ok (.lload_n 3, 1) := by decide +kernel
theorem dX2_done_180 : decode cX2_done 180 = .ok (.aload_n 0, 1) := by decide +kernel
theorem dX2_done_181 : decode cX2_done 181 = .ok (.getfield 39, 3) := by decide +kernel
theorem dX2_done_184 : decode cX2_done 184 = .ok (.iload 5, 2) := by decide +kernel
theorem dX2_done_186 : decode cX2_done 186 = .ok (.iaload, 1) := by decide +kernel
theorem dX2_done_187 : decode cX2_done 187 = .ok (.invokestatic 106, 3) := by decide +kernel
theorem dX2_done_190 : decode cX2_done 190 = .ok (.lreturn, 1) := by decide +kernel
set_option maxRecDepth 20000 in
theorem ggX2_comes_X2_done : GoodIn wsX2_comes wsX2_done := goodIn_r _ [13, 14, 15, 3, 16, 17, 7, 18, 19, 12, 20, 21, 22, 23, 24, 25, 26, 27, 28, 29, 30, 31, 32, 33, 34, 35, 36, 37, 38, 39, 40, 41, 42, 43, 44, 45, 46, 47, 48, 49, 50, 51, 52, 53, 54, 55, 56, 57, 58, 59, 60, 61, 62, 63] (by decide +kernel) (by decide +kernel)
set_option maxRecDepth 20000 in
theorem gX2_comes_X2_done : GoodIn wsX2_comes (wsV RX2 109 RX2 yX2_done wsX2_done) := goodIn_app (goodIn_of _ (by decide +kernel)) ggX2_comes_X2_done
set_option maxRecDepth 20000 in
theorem ggX2_comes_X2_isAbove : GoodIn wsX2_comes wsX2_isAbove := goodIn_r _ [26, 27, 28, 12, 29, 22, 23] (by decide +kernel) (by decide +kernel)
set_option maxRecDepth 20000 in
theorem gX2_comes_X2_isAbove : GoodIn wsX2_comes (va_wsS RX2 95 yX2_isAbove wsX2_isAbove) := goodIn_app (goodIn_of _ (by decide +kernel)) ggX2_comes_X2_isAbove
theorem dX2_comes_0 : decode cX2_comes 0 = .ok (.lload_n 2, 1) := by decide +kernel
theorem dX2_comes_1 : decode cX2_comes 1 = .ok (.lstore 4, 2) := by decide +kernel
theorem dX2_comes_3 : decode cX2_comes 3 = .ok (.iconst 0, 1) := by decide +kernel
theorem dX2_comes_4 : decode cX2_comes 4 = .ok (.istore 6, 2) := by decide +kernel
theorem dX2_comes_6 : decode cX2_comes 6 = .ok (.iload 6, 2) := by decide +kernel
theorem dX2_comes_8 : decode cX2_comes 8 = .ok (.aload_n 0, 1) := by decide +kernel
theorem dX2_comes_9 : decode cX2_comes 9 = .ok (.getfield 21, 3) := by decide +kernel
theorem dX2_comes_12 : decode cX2_comes 12 = .ok (.iload_n 1, 1) := by decide +kernel
theorem dX2_comes_13 : decode cX2_comes 13 = .ok (.iaload, 1) := by decide +kernel
theorem dX2_comes_14 : decode cX2_comes 14 = .ok (.if_icmp .ge 20, 3) := by decide +kernel
theorem dX2_comes_17 : decode cX2_comes 17 = .ok (.aload_n 0, 1) := by decide +kernel
theorem dX2_comes_18 : decode cX2_comes 18 = .ok (.iload_n 1, 1) := by decide +kernel
theorem dX2_comes_19 : decode cX2_comes 19 = .ok (.iload 6, 2) := by decide +kernel
theorem dX2_comes_21 : decode cX2_comes 21 = .ok (.lload 4, 2) := by decide +kernel
theorem dX2_comes_23 : decode cX2_comes 23 = .ok (.invokevirtual 109, 3) := by decide +kernel
theorem dX2_comes_26 : decode cX2_comes 26 = .ok (.lstore 4, 2) := by decide +kernel
theorem dX2_comes_28 : decode cX2_comes 28 = .ok (.iinc 6 1, 3) := by decide +kernel
theorem dX2_comes_31 : decode cX2_comes 31 = .ok (.goto (-25), 3) := by decide +kernel
theorem dX2_comes_34 : decode cX2_comes 34 = .ok (.aload_n 0, 1) := by decide +kernel
theorem dX2_comes_35 : decode cX2_comes 35 = .ok (.getfield 24, 3) := by decide +kernel
theorem dX2_comes_38 : decode cX2_comes 38 = .ok (.iload_n 1, 1) := by decide +kernel
theorem dX2_comes_39 : decode cX2_comes 39 = .ok (.dup2, 1) := by decide +kernel
theorem dX2_comes_40 : decode cX2_comes 40 = .ok (.iaload, 1) := by decide +kernel
theorem dX2_comes_41 : decode cX2_comes 41 = .ok (.iconst 1, 1) := by decide +kernel
theorem dX2_comes_42 : decode cX2_comes 42 = .ok (.iadd, 1) := by decide +kernel
theorem dX2_comes_43 : decode cX2_comes 43 = .ok (.iastore, 1) := by decide +kernel
theorem dX2_comes_44 : decode cX2_comes 44 = .ok (.lload 4, 2) := by decide +kernel
theorem dX2_comes_46 : decode cX2_comes 46 = .ok (.lconst 0, 1) := by decide +kernel
theorem dX2_comes_47 : decode cX2_comes 47 = .ok (.lcmp, 1) := by decide +kernel
theorem dX2_comes_48 : decode cX2_comes 48 = .ok (.ifCond .ge 7, 3) := by decide +kernel
theorem dX2_comes_51 : decode cX2_comes 51 = .ok (.iconst 1, 1) := by decide +kernel
theorem dX2_comes_52 : decode cX2_comes 52 = .ok (.goto 4, 3) := by decide +kernel
theorem dX2_comes_55 : decode cX2_comes 55 = .ok (.iconst 0, 1) := by decide +kernel
theorem dX2_comes_56 : decode cX2_comes 56 = .ok (.aload_n 0, 1) := by decide +kernel
theorem dX2_comes_57 : decode cX2_comes 57 = .ok (.getfield 17, 3) := by decide +kernel
theorem dX2_comes_60 : decode cX2_comes 60 = .ok (.iload_n 1, 1) := by decide +kernel
theorem dX2_comes_61 : decode cX2_comes 61 = .ok (.laload, 1) := by decide +kernel
theorem dX2_comes_62 : decode cX2_comes 62 = .ok (.lconst 0, 1) := by decide +kernel
theorem dX2_comes_63 : decode cX2_comes 63 = .ok (.lcmp, 1) := by decide +kernel
theorem dX2_comes_64 : decode cX2_comes 64 = .ok (.ifCond .ge 7, 3) := by decide +kernel
theorem dX2_comes_67 : decode cX2_comes 67 = .ok (.iconst 1, 1) := by decide +kernel
theorem dX2_comes_68 : decode cX2_comes 68 = .ok (.goto 4, 3) := by decide +kernel
theorem dX2_comes_71 : decode cX2_comes 71 = .ok (.iconst 0, 1) := by decide +kernel
theorem dX2_comes_72 : decode cX2_comes 72 = .ok (.if_icmp .eq 13, 3) := by decide +kernel
theorem dX2_comes_75 : decode cX2_comes 75 = .ok (.aload_n 0, 1) := by decide +kernel
theorem dX2_comes_76 : decode cX2_comes 76 = .ok (.getfield 27, 3) := by decide +kernel
theorem dX2_comes_79 : decode cX2_comes 79 = .ok (.iload_n 1, 1) := by decide +kernel
theorem dX2_comes_80 : decode cX2_comes 80 = .ok (.dup2, 1) := by decide +kernel
theorem dX2_comes_81 : decode cX2_comes 81 = .ok (.iaload, 1) := by decide +kernel
theorem dX2_comes_82 : decode cX2_comes 82 = .ok (.iconst 1, 1) := by decide +kernel
theorem dX2_comes_83 : decode cX2_comes 83 = .ok (.iadd, 1) := by decide +kernel
theorem dX2_comes_84 : decode cX2_comes 84 = .ok (.iastore, 1) := by decide +kernel
theorem dX2_comes_85 : decode cX2_comes 85 = .ok (.aload_n 0, 1) := by decide +kernel
theorem dX2_comes_86 : decode cX2_comes 86 = .ok (.getfield 17, 3) := by decide +kernel
theorem dX2_comes_89 : decode cX2_comes 89 = .ok (.iload_n 1, 1) := by decide +kernel
theorem dX2_comes_90 : decode cX2_comes 90 = .ok (.lload 4, 2) := by decide +kernel
theorem dX2_comes_92 : decode cX2_comes 92 = .ok (.lastore, 1) := by decide +kernel
theorem dX2_comes_93 : decode cX2_comes 93 = .ok (.aload_n 0, 1) := by decide +kernel
theorem dX2_comes_94 : decode cX2_comes 94 = .ok (.getfield 30, 3) := by decide +kernel
theorem dX2_comes_97 : decode cX2_comes 97 = .ok (.iload_n 1, 1) := by decide +kernel
theorem dX2_comes_98 : decode cX2_comes 98 = .ok (.baload, 1) := by decide +kernel
theorem dX2_comes_99 : decode cX2_comes 99 = .ok (.ifCond .eq 23, 3) := by decide +kernel
theorem dX2_comes_102 : decode cX2_comes 102 = .ok (.lload 4, 2) := by decide +kernel
theorem dX2_comes_104 : decode cX2_comes 104 = .ok (.aload_n 0, 1) := by decide +kernel
theorem dX2_comes_105 : decode cX2_comes 105 = .ok (.getfield 33, 3) := by decide +kernel
theorem dX2_comes_108 : decode cX2_comes 108 = .ok (.iload_n 1, 1) := by decide +kernel
theorem dX2_comes_109 : decode cX2_comes 109 = .ok (.laload, 1) := by decide +kernel
theorem dX2_comes_110 : decode cX2_comes 110 = .ok (.aload_n 0, 1) := by decide +kernel
theorem dX2_comes_111 : decode cX2_comes 111 = .ok (.getfield 13, 3) := by decide +kernel
theorem dX2_comes_114 : decode cX2_comes 114 = .ok (.iload_n 1, 1) := by decide +kernel
theorem dX2_comes_115 : decode cX2_comes 115 = .ok (.iaload, 1) := by decide +kernel
theorem dX2_comes_116 : decode cX2_comes 116 = .ok (.invokestatic 95, 3) := by decide +kernel
theorem dX2_comes_119 : decode cX2_comes 119 = .ok (.ifCond .eq 11, 3) := by decide +kernel
theorem dX2_comes_122 : decode cX2_comes 122 = .ok (.aload_n 0, 1) := by decide +kernel
theorem dX2_comes_123 : decode cX2_comes 123 = .ok (.getfield 33, 3) := by decide +kernel
theorem dX2_comes_126 : decode cX2_comes 126 = .ok (.iload_n 1, 1) := by decide +kernel
theorem dX2_comes_127 : decode cX2_comes 127 = .ok (.lload 4, 2) := by decide +kernel
theorem dX2_comes_129 : decode cX2_comes 129 = .ok (.lastore, 1) := by decide +kernel
theorem dX2_comes_130 : decode cX2_comes 130 = .ok (.aload_n 0, 1) := by decide +kernel
theorem dX2_comes_131 : decode cX2_comes 131 = .ok (.getfield 30, 3) := by decide +kernel
theorem dX2_comes_134 : decode cX2_comes 134 = .ok (.iload_n 1, 1) := by decide +kernel
theorem dX2_comes_135 : decode cX2_comes 135 = .ok (.baload, 1) := by decide +kernel
theorem dX2_comes_136 : decode cX2_comes 136 = .ok (.ifCond .eq 23, 3) := by decide +kernel
theorem dX2_comes_139 : decode cX2_comes 139 = .ok (.aload_n 0, 1) := by decide +kernel
theorem dX2_comes_140 : decode cX2_comes 140 = .ok (.getfield 36, 3) := by decide +kernel
theorem dX2_comes_143 : decode cX2_comes 143 = .ok (.iload_n 1, 1) := by decide +kernel
theorem dX2_comes_144 : decode cX2_comes 144 = .ok (.laload, 1) := by decide +kernel
theorem dX2_comes_145 : decode cX2_comes 145 = .ok (.lload 4, 2) := by decide +kernel
theorem dX2_comes_147 : decode cX2_comes 147 = .ok (.aload_n 0, 1) := by decide +kernel
theorem dX2_comes_148 : decode cX2_comes 148 = .ok (.getfield 13, 3) := by decide +kernel
theorem dX2_comes_151 : decode cX2_comes 151 = .ok (.iload_n 1, 1) := by decide +kernel
theorem dX2_comes_152 : decode cX2_comes 152 = .ok (.iaload, 1) := by decide +kernel
theorem dX2_comes_153 : decode cX2_comes 153 = .ok (.invokestatic 95, 3) := by decide +kernel
theorem dX2_comes_156 : decode cX2_comes 156 = .ok (.ifCond .eq 11, 3) := by decide +kernel
theorem dX2_comes_159 : decode cX2_comes 159 = .ok (.aload_n 0, 1) := by decide +kernel
theorem dX2_comes_160 : decode cX2_comes 160 = .ok (.getfield 36, 3) := by decide +kernel
theorem dX2_comes_163 : decode cX2_comes 163 = .ok (.iload_n 1, 1) := by decide +kernel
theorem dX2_comes_164 : decode cX2_comes 164 = .ok (.lload 4, 2) := by decide +kernel
theorem dX2_comes_166 : decode cX2_comes 166 = .ok (.lastore, 1) := by decide +kernel
theorem dX2_comes_167 : decode cX2_comes 167 = .ok (.aload_n 0, 1) := by decide +kernel
theorem dX2_comes_168 : decode cX2_comes 168 = .ok (.getfield 30, 3) := by decide +kernel
theorem dX2_comes_171 : decode cX2_comes 171 = .ok (.iload_n 1, 1) := by decide +kernel
theorem dX2_comes_172 : decode cX2_comes 172 = .ok (.iconst 1, 1) := by decide +kernel
theorem dX2_comes_173 : decode cX2_comes 173 = .ok (.bastore, 1) := by decide +kernel
theorem dX2_comes_174 : decode cX2_comes 174 = .ok (.lload 4, 2) := by decide +kernel
theorem dX2_comes_176 : decode cX2_comes 176 = .ok (.lreturn, 1) := by decide +kernel
theorem dX2_top_0 : decode cX2_top 0 = .ok (.bipush 63, 2) := by decide +kernel
theorem dX2_top_2 : decode cX2_top 2 = .ok (.istore_n 2, 1) := by decide +kernel
theorem dX2_top_3 : decode cX2_top 3 = .ok (.iload_n 2, 1) := by decide +kernel
theorem dX2_top_4 : decode cX2_top 4 = .ok (.ifCond .le 19, 3) := by decide +kernel
theorem dX2_top_7 : decode cX2_top 7 = .ok (.lload_n 0, 1) := by decide +kernel
theorem dX2_top_8 : decode cX2_top 8 = .ok (.iload_n 2, 1) := by decide +kernel
theorem dX2_top_9 : decode cX2_top 9 = .ok (.lushr, 1) := by decide +kernel
theorem dX2_top_10 : decode cX2_top 10 = .ok (.lconst 1, 1) := by decide +kernel
theorem dX2_top_11 : decode cX2_top 11 = .ok (.land, 1) := by decide +kernel
theorem dX2_top_12 : decode cX2_top 12 = .ok (.lconst 0, 1) := by decide +kernel
theorem dX2_top_13 : decode cX2_top 13 = .ok (.lcmp, 1) := by decide +kernel
theorem dX2_top_14 : decode cX2_top 14 = .ok (.ifCond .ne 9, 3) := by decide +kernel
theorem dX2_top_17 : decode cX2_top 17 = .ok (.iinc 2 (-1), 3) := by decide +kernel
theorem dX2_top_20 : decode cX2_top 20 = .ok (.goto (-17), 3) := by decide +kernel
theorem dX2_top_23 : decode cX2_top 23 = .ok (.iload_n 2, 1) := by decide +kernel
theorem dX2_top_24 : decode cX2_top 24 = .ok (.ireturn, 1) := by decide +kernel
set_option maxRecDepth 20000 in
theorem ggX2_nearest_X2_top : GoodIn wsX2_nearest wsX2_top := goodIn_r _ [4] (by decide +kernel) (by decide +kernel)
set_option maxRecDepth 20000 in
theorem gX2_nearest_X2_top : GoodIn wsX2_nearest (va_wsS RX2 113 yX2_top wsX2_top) := goodIn_app (goodIn_of _ (by decide +kernel)) ggX2_nearest_X2_top
theorem dX2_nearest_0 : decode cX2_nearest 0 = .ok (.lload_n 0, 1) := by decide +kernel
theorem dX2_nearest_1 : decode cX2_nearest 1 = .ok (.lconst 0, 1) := by decide +kernel
theorem dX2_nearest_2 : decode cX2_nearest 2 = .ok (.lcmp, 1) := by decide +kernel
theorem dX2_nearest_3 : decode cX2_nearest 3 = .ok (.ifCond .ne 5, 3) := by decide +kernel
theorem dX2_nearest_6 : decode cX2_nearest 6 = .ok (.lconst 0, 1) := by decide +kernel
theorem dX2_nearest_7 : decode cX2_nearest 7 = .ok (.lreturn, 1) := by decide +kernel
theorem dX2_nearest_8 : decode cX2_nearest 8 = .ok (.lload_n 0, 1) := by decide +kernel
theorem dX2_nearest_9 : decode cX2_nearest 9 = .ok (.invokestatic 113, 3) := by decide +kernel
theorem dX2_nearest_12 : decode cX2_nearest 12 = .ok (.istore 4, 2) := by decide +kernel
theorem dX2_nearest_14 : decode cX2_nearest 14 = .ok (.iload 4, 2) := by decide +kernel
theorem dX2_nearest_16 : decode cX2_nearest 16 = .ok (.iload_n 2, 1) := by decide +kernel
theorem dX2_nearest_17 : decode cX2_nearest 17 = .ok (.if_icmp .gt 22, 3) := by decide +kernel
theorem dX2_nearest_20 : decode cX2_nearest 20 = .ok (.iload 4, 2) := by decide +kernel
theorem dX2_nearest_22 : decode cX2_nearest 22 = .ok (.iload_n 3, 1) := by decide +kernel
theorem dX2_nearest_23 : decode cX2_nearest 23 = .ok (.iadd, 1) := by decide +kernel
theorem dX2_nearest_24 : decode cX2_nearest 24 = .ok (.i2l, 1) := by decide +kernel
theorem dX2_nearest_25 : decode cX2_nearest 25 = .ok (.iload_n 2, 1) := by decide +kernel
theorem dX2_nearest_26 : decode cX2_nearest 26 = .ok (.lshl, 1) := by decide +kernel
theorem dX2_nearest_27 : decode cX2_nearest 27 = .ok (.lload_n 0, 1) := by decide +kernel
theorem dX2_nearest_28 : decode cX2_nearest 28 = .ok (.iload_n 2, 1) := by decide +kernel
theorem dX2_nearest_29 : decode cX2_nearest 29 = .ok (.iload 4, 2) := by decide +kernel
theorem dX2_nearest_31 : decode cX2_nearest 31 = .ok (.isub, 1) := by decide +kernel
theorem dX2_nearest_32 : decode cX2_nearest 32 = .ok (.lshl, 1) := by decide +kernel
theorem dX2_nearest_33 : decode cX2_nearest 33 = .ok (.ladd, 1) := by decide +kernel
theorem dX2_nearest_34 : decode cX2_nearest 34 = .ok (.lconst 1, 1) := by decide +kernel
theorem dX2_nearest_35 : decode cX2_nearest 35 = .ok (.iload_n 2, 1) := by decide +kernel
theorem dX2_nearest_36 : decode cX2_nearest 36 = .ok (.lshl, 1) := by decide +kernel
theorem dX2_nearest_37 : decode cX2_nearest 37 = .ok (.lsub, 1) := by decide +kernel
theorem dX2_nearest_38 : decode cX2_nearest 38 = .ok (.lreturn, 1) := by decide +kernel
theorem dX2_nearest_39 : decode cX2_nearest 39 = .ok (.iload 4, 2) := by decide +kernel
theorem dX2_nearest_41 : decode cX2_nearest 41 = .ok (.iload_n 2, 1) := by decide +kernel
theorem dX2_nearest_42 : decode cX2_nearest 42 = .ok (.isub, 1) := by decide +kernel
theorem dX2_nearest_43 : decode cX2_nearest 43 = .ok (.istore 5, 2) := by decide +kernel
theorem dX2_nearest_45 : decode cX2_nearest 45 = .ok (.lload_n 0, 1) := by decide +kernel
theorem dX2_nearest_46 : decode cX2_nearest 46 = .ok (.iload 5, 2) := by decide +kernel
theorem dX2_nearest_48 : decode cX2_nearest 48 = .ok (.lushr, 1) := by decide +kernel
theorem dX2_nearest_49 : decode cX2_nearest 49 = .ok (.lstore 6, 2) := by decide +kernel
theorem dX2_nearest_51 : decode cX2_nearest 51 = .ok (.lload_n 0, 1) := by decide +kernel
theorem dX2_nearest_52 : decode cX2_nearest 52 = .ok (.lload 6, 2) := by decide +kernel
theorem dX2_nearest_54 : decode cX2_nearest 54 = .ok (.iload 5, 2) := by decide +kernel
theorem dX2_nearest_56 : decode cX2_nearest 56 = .ok (.lshl, 1) := by decide +kernel
theorem dX2_nearest_57 : decode cX2_nearest 57 = .ok (.lsub, 1) := by decide +kernel
theorem dX2_nearest_58 : decode cX2_nearest 58 = .ok (.lstore 8, 2) := by decide +kernel
theorem dX2_nearest_60 : decode cX2_nearest 60 = .ok (.lconst 1, 1) := by decide +kernel
theorem dX2_nearest_61 : decode cX2_nearest 61 = .ok (.iload 5, 2) := by decide +kernel
theorem dX2_nearest_63 : decode cX2_nearest 63 = .ok (.iconst 1, 1) := by decide +kernel
theorem dX2_nearest_64 : decode cX2_nearest 64 = .ok (.isub, 1) := by decide +kernel
theorem dX2_nearest_65 : decode cX2_nearest 65 = .ok (.lshl, 1) := by decide +kernel
theorem dX2_nearest_66 : decode cX2_nearest 66 = .ok (.lstore 10, 2) := by decide +kernel
theorem dX2_nearest_68 : decode cX2_nearest 68 = .ok (.lload 8, 2) := by decide +kernel
theorem dX2_nearest_70 : decode cX2_nearest 70 = .ok (.lload 10, 2) := by decide +kernel
theorem dX2_nearest_72 : decode cX2_nearest 72 = .ok (.lcmp, 1) := by decide +kernel
theorem dX2_nearest_73 : decode cX2_nearest 73 = .ok (.ifCond .gt 20, 3) := by decide +kernel
theorem dX2_nearest_76 : decode cX2_nearest 76 = .ok (.lload 8, 2) := by decide +kernel
theorem dX2_nearest_78 : decode cX2_nearest 78 = .ok (.lload 10, 2) := by decide +kernel
theorem dX2_nearest_80 : decode cX2_nearest 80 = .ok (.lcmp, 1) := by decide +kernel
theorem dX2_nearest_81 : decode cX2_nearest 81 = .ok (.ifCond .ne 18, 3) := by decide +kernel
theorem dX2_nearest_84 : decode cX2_nearest 84 = .ok (.lload 6, 2) := by decide +kernel
theorem dX2_nearest_86 : decode cX2_nearest 86 = .ok (.lconst 1, 1) := by decide +kernel
theorem dX2_nearest_87 : decode cX2_nearest 87 = .ok (.land, 1) := by decide +kernel
theorem dX2_nearest_88 : decode cX2_nearest 88 = .ok (.lconst 1, 1) := by decide +kernel
theorem dX2_nearest_89 : decode cX2_nearest 89 = .ok (.lcmp, 1) := by decide +kernel
theorem dX2_nearest_90 : decode cX2_nearest 90 = .ok (.ifCond .ne 9, 3) := by decide +kernel
theorem dX2_nearest_93 : decode cX2_nearest 93 = .ok (.lload 6, 2) := by decide +kernel
theorem dX2_nearest_95 : decode cX2_nearest 95 = .ok (.lconst 1, 1) := by decide +kernel
theorem dX2_nearest_96 : decode cX2_nearest 96 = .ok (.ladd, 1) := by decide +kernel
theorem dX2_nearest_97 : decode cX2_nearest 97 = .ok (.lstore 6, 2) := by decide +kernel
theorem dX2_nearest_99 : decode cX2_nearest 99 = .ok (.iload 4, 2) := by decide +kernel
theorem dX2_nearest_101 : decode cX2_nearest 101 = .ok (.iload_n 3, 1) := by decide +kernel
theorem dX2_nearest_102 : decode cX2_nearest 102 = .ok (.iadd, 1) := by decide +kernel
theorem dX2_nearest_103 : decode cX2_nearest 103 = .ok (.i2l, 1) := by decide +kernel
theorem dX2_nearest_104 : decode cX2_nearest 104 = .ok (.iload_n 2, 1) := by decide +kernel
theorem dX2_nearest_105 : decode cX2_nearest 105 = .ok (.lshl, 1) := by decide +kernel
theorem dX2_nearest_106 : decode cX2_nearest 106 = .ok (.lload 6, 2) := by decide +kernel
theorem dX2_nearest_108 : decode cX2_nearest 108 = .ok (.ladd, 1) := by decide +kernel
theorem dX2_nearest_109 : decode cX2_nearest 109 = .ok (.lconst 1, 1) := by decide +kernel
theorem dX2_nearest_110 : decode cX2_nearest 110 = .ok (.iload_n 2, 1) := by decide +kernel
theorem dX2_nearest_111 : decode cX2_nearest 111 = .ok (.lshl, 1) := by decide +kernel
theorem dX2_nearest_112 : decode cX2_nearest 112 = .ok (.lsub, 1) := by decide +kernel
theorem dX2_nearest_113 : decode cX2_nearest 113 = .ok (.lreturn, 1) := by decide +kernel
set_option maxRecDepth 20000 in
theorem ggX2_asSingle_X2_nearest : GoodIn wsX2_asSingle wsX2_nearest := goodIn_r _ [5, 6, 7, 4, 8] (by decide +kernel) (by decide +kernel)
set_option maxRecDepth 20000 in
theorem gX2_asSingle_X2_nearest : GoodIn wsX2_asSingle (va_wsS RX2 117 yX2_nearest wsX2_nearest) := goodIn_app (goodIn_of _ (by decide +kernel)) ggX2_asSingle_X2_nearest
theorem dX2_asSingle_0 : decode cX2_asSingle 0 = .ok (.lload_n 0, 1) := by decide +kernel
theorem dX2_asSingle_1 : decode cX2_asSingle 1 = .ok (.lconst 0, 1) := by decide +kernel
theorem dX2_asSingle_2 : decode cX2_asSingle 2 = .ok (.lcmp, 1) := by decide +kernel
theorem dX2_asSingle_3 : decode cX2_asSingle 3 = .ok (.ifCond .ge 8, 3) := by decide +kernel
theorem dX2_asSingle_6 : decode cX2_asSingle 6 = .ok (.lload_n 0, 1) := by decide +kernel
theorem dX2_asSingle_7 : decode cX2_asSingle 7 = .ok (.lneg, 1) := by decide +kernel
theorem dX2_asSingle_8 : decode cX2_asSingle 8 = .ok (.goto 4, 3) := by decide +kernel
theorem dX2_asSingle_11 : decode cX2_asSingle 11 = .ok (.lload_n 0, 1) := by decide +kernel
theorem dX2_asSingle_12 : decode cX2_asSingle 12 = .ok (.bipush 23, 2) := by decide +kernel
theorem dX2_asSingle_14 : decode cX2_asSingle 14 = .ok (.bipush 127, 2) := by decide +kernel
theorem dX2_asSingle_16 : decode cX2_asSingle 16 = .ok (.invokestatic 117, 3) := by decide +kernel
theorem dX2_asSingle_19 : decode cX2_asSingle 19 = .ok (.lstore_n 2, 1) := by decide +kernel
theorem dX2_asSingle_20 : decode cX2_asSingle 20 = .ok (.lload_n 0, 1) := by decide +kernel
theorem dX2_asSingle_21 : decode cX2_asSingle 21 = .ok (.lconst 0, 1) := by decide +kernel
theorem dX2_asSingle_22 : decode cX2_asSingle 22 = .ok (.lcmp, 1) := by decide +kernel
theorem dX2_asSingle_23 : decode cX2_asSingle 23 = .ok (.ifCond .ge 11, 3) := by decide +kernel
theorem dX2_asSingle_26 : decode cX2_asSingle 26 = .ok (.lload_n 2, 1) := by decide +kernel
theorem dX2_asSingle_27 : decode cX2_asSingle 27 = .ok (.ldc2_w 87, 3) := by decide +kernel
theorem dX2_asSingle_30 : decode cX2_asSingle 30 = .ok (.lsub, 1) := by decide +kernel
theorem dX2_asSingle_31 : decode cX2_asSingle 31 = .ok (.goto 4, 3) := by decide +kernel
theorem dX2_asSingle_34 : decode cX2_asSingle 34 = .ok (.lload_n 2, 1) := by decide +kernel
theorem dX2_asSingle_35 : decode cX2_asSingle 35 = .ok (.lreturn, 1) := by decide +kernel
set_option maxRecDepth 20000 in
theorem ggX2_asDouble_X2_nearest : GoodIn wsX2_asDouble wsX2_nearest := goodIn_r _ [5, 6, 7, 4, 8] (by decide +kernel) (by decide +kernel)
set_option maxRecDepth 20000 in
theorem gX2_asDouble_X2_nearest : GoodIn wsX2_asDouble (va_wsS RX2 117 yX2_nearest wsX2_nearest) := goodIn_app (goodIn_of _ (by decide +kernel)) ggX2_asDouble_X2_nearest
theorem dX2_asDouble_0 : decode cX2_asDouble 0 = .ok (.lload_n 0, 1) := by decide +kernel
theorem dX2_asDouble_1 : decode cX2_asDouble 1 = .ok (.lconst 0, 1) := by decide +kernel
theorem dX2_asDouble_2 : decode cX2_asDouble 2 = .ok (.lcmp, 1) := by decide +kernel
theorem dX2_asDouble_3 : decode cX2_asDouble 3 = .ok (.ifCond .ge 8, 3) := by decide +kernel
theorem dX2_asDouble_6 : decode cX2_asDouble 6 = .ok (.lload_n 0, 1) := by decide +kernel
theorem dX2_asDouble_7 : decode cX2_asDouble 7 = .ok (.lneg, 1) := by decide +kernel
theorem dX2_asDouble_8 : decode cX2_asDouble 8 = .ok (.goto 4, 3) := by decide +kernel
theorem dX2_asDouble_11 : decode cX2_asDouble 11 = .ok (.lload_n 0, 1) := by decide +kernel
theorem dX2_asDouble_12 : decode cX2_asDouble 12 = .ok (.bipush 52, 2) := by decide +kernel
theorem dX2_asDouble_14 : decode cX2_asDouble 14 = .ok (.sipush 1023, 3) := by decide +kernel
theorem dX2_asDouble_17 : decode cX2_asDouble 17 = .ok (.invokestatic 117, 3) := by decide +kernel
theorem dX2_asDouble_20 : decode cX2_asDouble 20 = .ok (.lstore_n 2, 1) := by decide +kernel
theorem dX2_asDouble_21 : decode cX2_asDouble 21 = .ok (.lload_n 0, 1) := by decide +kernel
theorem dX2_asDouble_22 : decode cX2_asDouble 22 = .ok (.lconst 0, 1) := by decide +kernel
theorem dX2_asDouble_23 : decode cX2_asDouble 23 = .ok (.lcmp, 1) := by decide +kernel
theorem dX2_asDouble_24 : decode cX2_asDouble 24 = .ok (.ifCond .ge 11, 3) := by decide +kernel
theorem dX2_asDouble_27 : decode cX2_asDouble 27 = .ok (.lload_n 2, 1) := by decide +kernel
theorem dX2_asDouble_28 : decode cX2_asDouble 28 = .ok (.ldc2_w 89, 3) := by decide +kernel
theorem dX2_asDouble_31 : decode cX2_asDouble 31 = .ok (.lor, 1) := by decide +kernel
theorem dX2_asDouble_32 : decode cX2_asDouble 32 = .ok (.goto 4, 3) := by decide +kernel
theorem dX2_asDouble_35 : decode cX2_asDouble 35 = .ok (.lload_n 2, 1) := by decide +kernel
theorem dX2_asDouble_36 : decode cX2_asDouble 36 = .ok (.lreturn, 1) := by decide +kernel
set_option maxRecDepth 20000 in
theorem ggX2_widened_X2_top : GoodIn wsX2_widened wsX2_top := goodIn_r _ [11] (by decide +kernel) (by decide +kernel)
set_option maxRecDepth 20000 in
theorem gX2_widened_X2_top : GoodIn wsX2_widened (va_wsS RX2 113 yX2_top wsX2_top) := goodIn_app (goodIn_of _ (by decide +kernel)) ggX2_widened_X2_top
theorem dX2_widened_0 : decode cX2_widened 0 = .ok (.lload_n 0, 1) := by decide +kernel
theorem dX2_widened_1 : decode cX2_widened 1 = .ok (.ldc2_w 55, 3) := by decide +kernel
theorem dX2_widened_4 : decode cX2_widened 4 = .ok (.land, 1) := by decide +kernel
theorem dX2_widened_5 : decode cX2_widened 5 = .ok (.lstore_n 2, 1) := by decide +kernel
theorem dX2_widened_6 : decode cX2_widened 6 = .ok (.lload_n 0, 1) := by decide +kernel
theorem dX2_widened_7 : decode cX2_widened 7 = .ok (.lconst 0, 1) := by decide +kernel
theorem dX2_widened_8 : decode cX2_widened 8 = .ok (.lcmp, 1) := by decide +kernel
theorem dX2_widened_9 : decode cX2_widened 9 = .ok (.ifCond .ge 9, 3) := by decide +kernel
theorem dX2_widened_12 : decode cX2_widened 12 = .ok (.ldc2_w 89, 3) := by decide +kernel
theorem dX2_widened_15 : decode cX2_widened 15 = .ok (.goto 4, 3) := by decide +kernel
theorem dX2_widened_18 : decode cX2_widened 18 = .ok (.lconst 0, 1) := by decide +kernel
theorem dX2_widened_19 : decode cX2_widened 19 = .ok (.lstore 4, 2) := by decide +kernel
theorem dX2_widened_21 : decode cX2_widened 21 = .ok (.lload_n 2, 1) := by decide +kernel
theorem dX2_widened_22 : decode cX2_widened 22 = .ok (.bipush 23, 2) := by decide +kernel
theorem dX2_widened_24 : decode cX2_widened 24 = .ok (.lshr, 1) := by decide +kernel
theorem dX2_widened_25 : decode cX2_widened 25 = .ok (.lstore 6, 2) := by decide +kernel
theorem dX2_widened_27 : decode cX2_widened 27 = .ok (.lload_n 2, 1) := by decide +kernel
theorem dX2_widened_28 : decode cX2_widened 28 = .ok (.ldc2_w 121, 3) := by decide +kernel
theorem dX2_widened_31 : decode cX2_widened 31 = .ok (.land, 1) := by decide +kernel
theorem dX2_widened_32 : decode cX2_widened 32 = .ok (.lstore 8, 2) := by decide +kernel
theorem dX2_widened_34 : decode cX2_widened 34 = .ok (.lload 6, 2) := by decide +kernel
theorem dX2_widened_36 : decode cX2_widened 36 = .ok (.ldc2_w 123, 3) := by decide +kernel
theorem dX2_widened_39 : decode cX2_widened 39 = .ok (.lcmp, 1) := by decide +kernel
theorem dX2_widened_40 : decode cX2_widened 40 = .ok (.ifCond .ne 10, 3) := by decide +kernel
theorem dX2_widened_43 : decode cX2_widened 43 = .ok (.lload 4, 2) := by decide +kernel
theorem dX2_widened_45 : decode cX2_widened 45 = .ok (.ldc2_w 61, 3) := by decide +kernel
theorem dX2_widened_48 : decode cX2_widened 48 = .ok (.lor, 1) := by decide +kernel
theorem dX2_widened_49 : decode cX2_widened 49 = .ok (.lreturn, 1) := by decide +kernel
theorem dX2_widened_50 : decode cX2_widened 50 = .ok (.lload_n 2, 1) := by decide +kernel
theorem dX2_widened_51 : decode cX2_widened 51 = .ok (.lconst 0, 1) := by decide +kernel
theorem dX2_widened_52 : decode cX2_widened 52 = .ok (.lcmp, 1) := by decide +kernel
theorem dX2_widened_53 : decode cX2_widened 53 = .ok (.ifCond .ne 6, 3) := by decide +kernel
theorem dX2_widened_56 : decode cX2_widened 56 = .ok (.lload 4, 2) := by decide +kernel
theorem dX2_widened_58 : decode cX2_widened 58 = .ok (.lreturn, 1) := by decide +kernel
theorem dX2_widened_59 : decode cX2_widened 59 = .ok (.lload 6, 2) := by decide +kernel
theorem dX2_widened_61 : decode cX2_widened 61 = .ok (.lconst 0, 1) := by decide +kernel
theorem dX2_widened_62 : decode cX2_widened 62 = .ok (.lcmp, 1) := by decide +kernel
theorem dX2_widened_63 : decode cX2_widened 63 = .ok (.ifCond .le 22, 3) := by decide +kernel
theorem dX2_widened_66 : decode cX2_widened 66 = .ok (.lload 4, 2) := by decide +kernel
theorem dX2_widened_68 : decode cX2_widened 68 = .ok (.lload 6, 2) := by decide +kernel
theorem dX2_widened_70 : decode cX2_widened 70 = .ok (.ldc2_w 125, 3) := by decide +kernel
theorem dX2_widened_73 : decode cX2_widened 73 = .ok (.ladd, 1) := by decide +kernel
theorem dX2_widened_74 : decode cX2_widened 74 = .ok (.bipush 52, 2) := by decide +kernel
theorem dX2_widened_76 : decode cX2_widened 76 = .ok (.lshl, 1) := by decide +kernel
theorem dX2_widened_77 : decode cX2_widened 77 = .ok (.lload 8, 2) := by decide +kernel
theorem dX2_widened_79 : decode cX2_widened 79 = .ok (.bipush 29, 2) := by decide +kernel
theorem dX2_widened_81 : decode cX2_widened 81 = .ok (.lshl, 1) := by decide +kernel
theorem dX2_widened_82 : decode cX2_widened 82 = .ok (.ladd, 1) := by decide +kernel
theorem dX2_widened_83 : decode cX2_widened 83 = .ok (.lor, 1) := by decide +kernel
theorem dX2_widened_84 : decode cX2_widened 84 = .ok (.lreturn, 1) := by decide +kernel
theorem dX2_widened_85 : decode cX2_widened 85 = .ok (.lload 8, 2) := by decide +kernel
theorem dX2_widened_87 : decode cX2_widened 87 = .ok (.invokestatic 113, 3) := by decide +kernel
theorem dX2_widened_90 : decode cX2_widened 90 = .ok (.istore 10, 2) := by decide +kernel
theorem dX2_widened_92 : decode cX2_widened 92 = .ok (.lload 4, 2) := by decide +kernel
theorem dX2_widened_94 : decode cX2_widened 94 = .ok (.iload 10, 2) := by decide +kernel
theorem dX2_widened_96 : decode cX2_widened 96 = .ok (.sipush 874, 3) := by decide +kernel
theorem dX2_widened_99 : decode cX2_widened 99 = .ok (.iadd, 1) := by decide +kernel
theorem dX2_widened_100 : decode cX2_widened 100 = .ok (.i2l, 1) := by decide +kernel
theorem dX2_widened_101 : decode cX2_widened 101 = .ok (.bipush 52, 2) := by decide +kernel
theorem dX2_widened_103 : decode cX2_widened 103 = .ok (.lshl, 1) := by decide +kernel
theorem dX2_widened_104 : decode cX2_widened 104 = .ok (.lload 8, 2) := by decide +kernel
theorem dX2_widened_106 : decode cX2_widened 106 = .ok (.bipush 52, 2) := by decide +kernel
theorem dX2_widened_108 : decode cX2_widened 108 = .ok (.iload 10, 2) := by decide +kernel
theorem dX2_widened_110 : decode cX2_widened 110 = .ok (.isub, 1) := by decide +kernel
theorem dX2_widened_111 : decode cX2_widened 111 = .ok (.lshl, 1) := by decide +kernel
theorem dX2_widened_112 : decode cX2_widened 112 = .ok (.ladd, 1) := by decide +kernel
theorem dX2_widened_113 : decode cX2_widened 113 = .ok (.ldc2_w 127, 3) := by decide +kernel
theorem dX2_widened_116 : decode cX2_widened 116 = .ok (.lsub, 1) := by decide +kernel
theorem dX2_widened_117 : decode cX2_widened 117 = .ok (.lor, 1) := by decide +kernel
theorem dX2_widened_118 : decode cX2_widened 118 = .ok (.lreturn, 1) := by decide +kernel
set_option maxRecDepth 20000 in
theorem ggX2_handed_X2_widened : GoodIn wsX2_handed wsX2_widened := goodIn_r _ [4, 5, 6, 7, 8, 9, 10, 11, 12, 13, 3, 14] (by decide +kernel) (by decide +kernel)
set_option maxRecDepth 20000 in
theorem gX2_handed_X2_widened : GoodIn wsX2_handed (va_wsS RX2 129 yX2_widened wsX2_widened) := goodIn_app (goodIn_of _ (by decide +kernel)) ggX2_handed_X2_widened
set_option maxRecDepth 20000 in
theorem ggX2_handed_X2_asSingle : GoodIn wsX2_handed wsX2_asSingle := goodIn_r _ [17, 18, 19, 20, 3, 21, 12, 13, 14] (by decide +kernel) (by decide +kernel)
set_option maxRecDepth 20000 in
theorem gX2_handed_X2_asSingle : GoodIn wsX2_handed (va_wsS RX2 133 yX2_asSingle wsX2_asSingle) := goodIn_app (goodIn_of _ (by decide +kernel)) ggX2_handed_X2_asSingle
set_option maxRecDepth 20000 in
theorem ggX2_handed_X2_asDouble : GoodIn wsX2_handed wsX2_asDouble := goodIn_r _ [24, 6, 19, 20, 3, 21, 12, 13, 14] (by decide +kernel) (by decide +kernel)
set_option maxRecDepth 20000 in
theorem gX2_handed_X2_asDouble : GoodIn wsX2_handed (va_wsS RX2 136 yX2_asDouble wsX2_asDouble) := goodIn_app (goodIn_of _ (by decide +kernel)) ggX2_handed_X2_asDouble
theorem dX2_handed_0 : decode cX2_handed 0 = .ok (.iload_n 2, 1) := by decide +kernel
theorem dX2_handed_1 : decode cX2_handed 1 = .ok (.iload_n 3, 1) := by decide +kernel
theorem dX2_handed_2 : decode cX2_handed 2 = .ok (.if_icmp .eq 8, 3) := by decide +kernel
theorem dX2_handed_5 : decode cX2_handed 5 = .ok (.iload_n 3, 1) := by decide +kernel
theorem dX2_handed_6 : decode cX2_handed 6 = .ok (.iconst 1, 1) := by decide +kernel
theorem dX2_handed_7 : decode cX2_handed 7 = .ok (.if_icmp .ne 5, 3) := by decide +kernel
theorem dX2_handed_10 : decode cX2_handed 10 = .ok (.lload_n 0, 1) := by decide +kernel
theorem dX2_handed_11 : decode cX2_handed 11 = .ok (.lreturn, 1) := by decide +kernel
theorem dX2_handed_12 : decode cX2_handed 12 = .ok (.iload_n 2, 1) := by decide +kernel
theorem dX2_handed_13 : decode cX2_handed 13 = .ok (.iconst 2, 1) := by decide +kernel
theorem dX2_handed_14 : decode cX2_handed 14 = .ok (.if_icmp .ne 8, 3) := by decide +kernel
theorem dX2_handed_17 : decode cX2_handed 17 = .ok (.lload_n 0, 1) := by decide +kernel
theorem dX2_handed_18 : decode cX2_handed 18 = .ok (.invokestatic 129, 3) := by decide +kernel
theorem dX2_handed_21 : decode cX2_handed 21 = .ok (.lreturn, 1) := by decide +kernel
theorem dX2_handed_22 : decode cX2_handed 22 = .ok (.iload_n 3, 1) := by decide +kernel
theorem dX2_handed_23 : decode cX2_handed 23 = .ok (.iconst 2, 1) := by decide +kernel
theorem dX2_handed_24 : decode cX2_handed 24 = .ok (.if_icmp .ne 10, 3) := by decide +kernel
theorem dX2_handed_27 : decode cX2_handed 27 = .ok (.lload_n 0, 1) := by decide +kernel
theorem dX2_handed_28 : decode cX2_handed 28 = .ok (.invokestatic 133, 3) := by decide +kernel
theorem dX2_handed_31 : decode cX2_handed 31 = .ok (.goto 7, 3) := by decide +kernel
theorem dX2_handed_34 : decode cX2_handed 34 = .ok (.lload_n 0, 1) := by decide +kernel
theorem dX2_handed_35 : decode cX2_handed 35 = .ok (.invokestatic 136, 3) := by decide +kernel
theorem dX2_handed_38 : decode cX2_handed 38 = .ok (.lreturn, 1) := by decide +kernel
set_option maxRecDepth 20000 in
theorem ggX2_fit_X2_takers : GoodIn wsX2_fit wsX2_takers := goodIn_r _ [13, 2, 14, 15, 16, 12, 17, 5, 18, 19, 24, 25, 26, 27, 28, 29, 30, 31, 32, 33, 34, 35, 36, 37] (by decide +kernel) (by decide +kernel)
set_option maxRecDepth 20000 in
theorem gX2_fit_X2_takers : GoodIn wsX2_fit (wsV RX2 139 RX2 yX2_takers wsX2_takers) := goodIn_app (goodIn_of _ (by decide +kernel)) ggX2_fit_X2_takers
set_option maxRecDepth 20000 in
theorem ggX2_fit_X2_ownTakers : GoodIn wsX2_fit wsX2_ownTakers := goodIn_r _ [23, 14, 15, 16, 12, 17, 5, 18, 19, 24, 25, 26, 27, 28, 29, 30, 31, 32, 33, 34, 35, 36, 37] (by decide +kernel) (by decide +kernel)
set_option maxRecDepth 20000 in
theorem gX2_fit_X2_ownTakers : GoodIn wsX2_fit (wsV RX2 143 RX2 yX2_ownTakers wsX2_ownTakers) := goodIn_app (goodIn_of _ (by decide +kernel)) ggX2_fit_X2_ownTakers
theorem dX2_fit_0 : decode cX2_fit 0 = .ok (.aload_n 0, 1) := by decide +kernel
theorem dX2_fit_1 : decode cX2_fit 1 = .ok (.iconst 0, 1) := by decide +kernel
theorem dX2_fit_2 : decode cX2_fit 2 = .ok (.putfield 51, 3) := by decide +kernel
theorem dX2_fit_5 : decode cX2_fit 5 = .ok (.iload_n 1, 1) := by decide +kernel
theorem dX2_fit_6 : decode cX2_fit 6 = .ok (.ifCond .lt 9, 3) := by decide +kernel
theorem dX2_fit_9 : decode cX2_fit 9 = .ok (.iload_n 1, 1) := by decide +kernel
theorem dX2_fit_10 : decode cX2_fit 10 = .ok (.bipush 11, 2) := by decide +kernel
theorem dX2_fit_12 : decode cX2_fit 12 = .ok (.if_icmp .le 10, 3) := by decide +kernel
theorem dX2_fit_15 : decode cX2_fit 15 = .ok (.aload_n 0, 1) := by decide +kernel
theorem dX2_fit_16 : decode cX2_fit 16 = .ok (.iconst 1, 1) := by decide +kernel
theorem dX2_fit_17 : decode cX2_fit 17 = .ok (.putfield 51, 3) := by decide +kernel
theorem dX2_fit_20 : decode cX2_fit 20 = .ok (.iconst 0, 1) := by decide +kernel
theorem dX2_fit_21 : decode cX2_fit 21 = .ok (.ireturn, 1) := by decide +kernel
theorem dX2_fit_22 : decode cX2_fit 22 = .ok (.iload_n 2, 1) := by decide +kernel
theorem dX2_fit_23 : decode cX2_fit 23 = .ok (.ifCond .lt 8, 3) := by decide +kernel
theorem dX2_fit_26 : decode cX2_fit 26 = .ok (.iload_n 2, 1) := by decide +kernel
theorem dX2_fit_27 : decode cX2_fit 27 = .ok (.iconst 3, 1) := by decide +kernel
theorem dX2_fit_28 : decode cX2_fit 28 = .ok (.if_icmp .le 10, 3) := by decide +kernel
theorem dX2_fit_31 : decode cX2_fit 31 = .ok (.aload_n 0, 1) := by decide +kernel
theorem dX2_fit_32 : decode cX2_fit 32 = .ok (.iconst 2, 1) := by decide +kernel
theorem dX2_fit_33 : decode cX2_fit 33 = .ok (.putfield 51, 3) := by decide +kernel
theorem dX2_fit_36 : decode cX2_fit 36 = .ok (.iconst 0, 1) := by decide +kernel
theorem dX2_fit_37 : decode cX2_fit 37 = .ok (.ireturn, 1) := by decide +kernel
theorem dX2_fit_38 : decode cX2_fit 38 = .ok (.aload_n 0, 1) := by decide +kernel
theorem dX2_fit_39 : decode cX2_fit 39 = .ok (.getfield 7, 3) := by decide +kernel
theorem dX2_fit_42 : decode cX2_fit 42 = .ok (.iload_n 1, 1) := by decide +kernel
theorem dX2_fit_43 : decode cX2_fit 43 = .ok (.baload, 1) := by decide +kernel
theorem dX2_fit_44 : decode cX2_fit 44 = .ok (.ifCond .eq 33, 3) := by decide +kernel
theorem dX2_fit_47 : decode cX2_fit 47 = .ok (.aload_n 0, 1) := by decide +kernel
theorem dX2_fit_48 : decode cX2_fit 48 = .ok (.getfield 13, 3) := by decide +kernel
theorem dX2_fit_51 : decode cX2_fit 51 = .ok (.iload_n 1, 1) := by decide +kernel
theorem dX2_fit_52 : decode cX2_fit 52 = .ok (.iaload, 1) := by decide +kernel
theorem dX2_fit_53 : decode cX2_fit 53 = .ok (.iload_n 2, 1) := by decide +kernel
theorem dX2_fit_54 : decode cX2_fit 54 = .ok (.if_icmp .eq 23, 3) := by decide +kernel
theorem dX2_fit_57 : decode cX2_fit 57 = .ok (.aload_n 0, 1) := by decide +kernel
theorem dX2_fit_58 : decode cX2_fit 58 = .ok (.iload_n 1, 1) := by decide +kernel
theorem dX2_fit_59 : decode cX2_fit 59 = .ok (.invokevirtual 139, 3) := by decide +kernel
theorem dX2_fit_62 : decode cX2_fit 62 = .ok (.aload_n 0, 1) := by decide +kernel
theorem dX2_fit_63 : decode cX2_fit 63 = .ok (.iload_n 1, 1) := by decide +kernel
theorem dX2_fit_64 : decode cX2_fit 64 = .ok (.invokevirtual 143, 3) := by decide +kernel
theorem dX2_fit_67 : decode cX2_fit 67 = .ok (.if_icmp .le 10, 3) := by decide +kernel
theorem dX2_fit_70 : decode cX2_fit 70 = .ok (.aload_n 0, 1) := by decide +kernel
theorem dX2_fit_71 : decode cX2_fit 71 = .ok (.iconst 3, 1) := by decide +kernel
theorem dX2_fit_72 : decode cX2_fit 72 = .ok (.putfield 51, 3) := by decide +kernel
theorem dX2_fit_75 : decode cX2_fit 75 = .ok (.iconst 0, 1) := by decide +kernel
theorem dX2_fit_76 : decode cX2_fit 76 = .ok (.ireturn, 1) := by decide +kernel
theorem dX2_fit_77 : decode cX2_fit 77 = .ok (.aload_n 0, 1) := by decide +kernel
theorem dX2_fit_78 : decode cX2_fit 78 = .ok (.getfield 7, 3) := by decide +kernel
theorem dX2_fit_81 : decode cX2_fit 81 = .ok (.iload_n 1, 1) := by decide +kernel
theorem dX2_fit_82 : decode cX2_fit 82 = .ok (.baload, 1) := by decide +kernel
theorem dX2_fit_83 : decode cX2_fit 83 = .ok (.istore_n 3, 1) := by decide +kernel
theorem dX2_fit_84 : decode cX2_fit 84 = .ok (.aload_n 0, 1) := by decide +kernel
theorem dX2_fit_85 : decode cX2_fit 85 = .ok (.getfield 7, 3) := by decide +kernel
theorem dX2_fit_88 : decode cX2_fit 88 = .ok (.iload_n 1, 1) := by decide +kernel
theorem dX2_fit_89 : decode cX2_fit 89 = .ok (.iconst 1, 1) := by decide +kernel
theorem dX2_fit_90 : decode cX2_fit 90 = .ok (.bastore, 1) := by decide +kernel
theorem dX2_fit_91 : decode cX2_fit 91 = .ok (.aload_n 0, 1) := by decide +kernel
theorem dX2_fit_92 : decode cX2_fit 92 = .ok (.getfield 13, 3) := by decide +kernel
theorem dX2_fit_95 : decode cX2_fit 95 = .ok (.iload_n 1, 1) := by decide +kernel
theorem dX2_fit_96 : decode cX2_fit 96 = .ok (.iload_n 2, 1) := by decide +kernel
theorem dX2_fit_97 : decode cX2_fit 97 = .ok (.iastore, 1) := by decide +kernel
theorem dX2_fit_98 : decode cX2_fit 98 = .ok (.aload_n 0, 1) := by decide +kernel
theorem dX2_fit_99 : decode cX2_fit 99 = .ok (.getfield 17, 3) := by decide +kernel
theorem dX2_fit_102 : decode cX2_fit 102 = .ok (.iload_n 1, 1) := by decide +kernel
theorem dX2_fit_103 : decode cX2_fit 103 = .ok (.lconst 0, 1) := by decide +kernel
theorem dX2_fit_104 : decode cX2_fit 104 = .ok (.lastore, 1) := by decide +kernel
theorem dX2_fit_105 : decode cX2_fit 105 = .ok (.aload_n 0, 1) := by decide +kernel
theorem dX2_fit_106 : decode cX2_fit 106 = .ok (.getfield 21, 3) := by decide +kernel
theorem dX2_fit_109 : decode cX2_fit 109 = .ok (.iload_n 1, 1) := by decide +kernel
theorem dX2_fit_110 : decode cX2_fit 110 = .ok (.iconst 0, 1) := by decide +kernel
theorem dX2_fit_111 : decode cX2_fit 111 = .ok (.iastore, 1) := by decide +kernel
theorem dX2_fit_112 : decode cX2_fit 112 = .ok (.aload_n 0, 1) := by decide +kernel
theorem dX2_fit_113 : decode cX2_fit 113 = .ok (.getfield 24, 3) := by decide +kernel
theorem dX2_fit_116 : decode cX2_fit 116 = .ok (.iload_n 1, 1) := by decide +kernel
theorem dX2_fit_117 : decode cX2_fit 117 = .ok (.iconst 0, 1) := by decide +kernel
theorem dX2_fit_118 : decode cX2_fit 118 = .ok (.iastore, 1) := by decide +kernel
theorem dX2_fit_119 : decode cX2_fit 119 = .ok (.aload_n 0, 1) := by decide +kernel
theorem dX2_fit_120 : decode cX2_fit 120 = .ok (.getfield 27, 3) := by decide +kernel
theorem dX2_fit_123 : decode cX2_fit 123 = .ok (.iload_n 1, 1) := by decide +kernel
theorem dX2_fit_124 : decode cX2_fit 124 = .ok (.iconst 0, 1) := by decide +kernel
theorem dX2_fit_125 : decode cX2_fit 125 = .ok (.iastore, 1) := by decide +kernel
theorem dX2_fit_126 : decode cX2_fit 126 = .ok (.aload_n 0, 1) := by decide +kernel
theorem dX2_fit_127 : decode cX2_fit 127 = .ok (.getfield 30, 3) := by decide +kernel
theorem dX2_fit_130 : decode cX2_fit 130 = .ok (.iload_n 1, 1) := by decide +kernel
theorem dX2_fit_131 : decode cX2_fit 131 = .ok (.iconst 0, 1) := by decide +kernel
theorem dX2_fit_132 : decode cX2_fit 132 = .ok (.bastore, 1) := by decide +kernel
theorem dX2_fit_133 : decode cX2_fit 133 = .ok (.iload_n 3, 1) := by decide +kernel
theorem dX2_fit_134 : decode cX2_fit 134 = .ok (.ireturn, 1) := by decide +kernel
theorem dX2_takersIn_0 : decode cX2_takersIn 0 = .ok (.iconst 0, 1) := by decide +kernel
theorem dX2_takersIn_1 : decode cX2_takersIn 1 = .ok (.istore_n 3, 1) := by decide +kernel
theorem dX2_takersIn_2 : decode cX2_takersIn 2 = .ok (.iconst 0, 1) := by decide +kernel
theorem dX2_takersIn_3 : decode cX2_takersIn 3 = .ok (.istore 4, 2) := by decide +kernel
theorem dX2_takersIn_5 : decode cX2_takersIn 5 = .ok (.iload 4, 2) := by decide +kernel
theorem dX2_takersIn_7 : decode cX2_takersIn 7 = .ok (.aload_n 0, 1) := by decide +kernel
theorem dX2_takersIn_8 : decode cX2_takersIn 8 = .ok (.getfield 21, 3) := by decide +kernel
theorem dX2_takersIn_11 : decode cX2_takersIn 11 = .ok (.iload_n 1, 1) := by decide +kernel
theorem dX2_takersIn_12 : decode cX2_takersIn 12 = .ok (.iaload, 1) := by decide +kernel
theorem dX2_takersIn_13 : decode cX2_takersIn 13 = .ok (.if_icmp .ge 44, 3) := by decide +kernel
theorem dX2_takersIn_16 : decode cX2_takersIn 16 = .ok (.aload_n 0, 1) := by decide +kernel
theorem dX2_takersIn_17 : decode cX2_takersIn 17 = .ok (.getfield 42, 3) := by decide +kernel
theorem dX2_takersIn_20 : decode cX2_takersIn 20 = .ok (.bipush 8, 2) := by decide +kernel
theorem dX2_takersIn_22 : decode cX2_takersIn 22 = .ok (.iload_n 1, 1) := by decide +kernel
theorem dX2_takersIn_23 : decode cX2_takersIn 23 = .ok (.imul, 1) := by decide +kernel
theorem dX2_takersIn_24 : decode cX2_takersIn 24 = .ok (.iload 4, 2) := by decide +kernel
theorem dX2_takersIn_26 : decode cX2_takersIn 26 = .ok (.iadd, 1) := by decide +kernel
theorem dX2_takersIn_27 : decode cX2_takersIn 27 = .ok (.iaload, 1) := by decide +kernel
theorem dX2_takersIn_28 : decode cX2_takersIn 28 = .ok (.iconst 2, 1) := by decide +kernel
theorem dX2_takersIn_29 : decode cX2_takersIn 29 = .ok (.if_icmp .ne 22, 3) := by decide +kernel
theorem dX2_takersIn_32 : decode cX2_takersIn 32 = .ok (.aload_n 0, 1) := by decide +kernel
theorem dX2_takersIn_33 : decode cX2_takersIn 33 = .ok (.getfield 48, 3) := by decide +kernel
theorem dX2_takersIn_36 : decode cX2_takersIn 36 = .ok (.bipush 8, 2) := by decide +kernel
theorem dX2_takersIn_38 : decode cX2_takersIn 38 = .ok (.iload_n 1, 1) := by decide +kernel
theorem dX2_takersIn_39 : decode cX2_takersIn 39 = .ok (.imul, 1) := by decide +kernel
theorem dX2_takersIn_40 : decode cX2_takersIn 40 = .ok (.iload 4, 2) := by decide +kernel
theorem dX2_takersIn_42 : decode cX2_takersIn 42 = .ok (.iadd, 1) := by decide +kernel
theorem dX2_takersIn_43 : decode cX2_takersIn 43 = .ok (.iaload, 1) := by decide +kernel
theorem dX2_takersIn_44 : decode cX2_takersIn 44 = .ok (.iload_n 2, 1) := by decide +kernel
theorem dX2_takersIn_45 : decode cX2_takersIn 45 = .ok (.if_icmp .ne 6, 3) := by decide +kernel
theorem dX2_takersIn_48 : decode cX2_takersIn 48 = .ok (.iinc 3 1, 3) := by decide +kernel
theorem dX2_takersIn_51 : decode cX2_takersIn 51 = .ok (.iinc 4 1, 3) := by decide +kernel
theorem dX2_takersIn_54 : decode cX2_takersIn 54 = .ok (.goto (-49), 3) := by decide +kernel
theorem dX2_takersIn_57 : decode cX2_takersIn 57 = .ok (.iload_n 3, 1) := by decide +kernel
theorem dX2_takersIn_58 : decode cX2_takersIn 58 = .ok (.ireturn, 1) := by decide +kernel
set_option maxRecDepth 20000 in
theorem ggX2_takers_X2_takersIn : GoodIn wsX2_takers wsX2_takersIn := goodIn_r _ [6, 7, 8, 9, 10, 11, 12, 13, 14, 15, 16, 17, 18, 19, 20, 21, 22, 23] (by decide +kernel) (by decide +kernel)
set_option maxRecDepth 20000 in
theorem gX2_takers_X2_takersIn : GoodIn wsX2_takers (wsV RX2 146 RX2 yX2_takersIn wsX2_takersIn) := goodIn_app (goodIn_of _ (by decide +kernel)) ggX2_takers_X2_takersIn
theorem dX2_takers_0 : decode cX2_takers 0 = .ok (.iconst 0, 1) := by decide +kernel
theorem dX2_takers_1 : decode cX2_takers 1 = .ok (.istore_n 2, 1) := by decide +kernel
theorem dX2_takers_2 : decode cX2_takers 2 = .ok (.iconst 0, 1) := by decide +kernel
theorem dX2_takers_3 : decode cX2_takers 3 = .ok (.istore_n 3, 1) := by decide +kernel
theorem dX2_takers_4 : decode cX2_takers 4 = .ok (.iload_n 3, 1) := by decide +kernel
theorem dX2_takers_5 : decode cX2_takers 5 = .ok (.bipush 12, 2) := by decide +kernel
theorem dX2_takers_7 : decode cX2_takers 7 = .ok (.if_icmp .ge 27, 3) := by decide +kernel
theorem dX2_takers_10 : decode cX2_takers 10 = .ok (.aload_n 0, 1) := by decide +kernel
theorem dX2_takers_11 : decode cX2_takers 11 = .ok (.getfield 7, 3) := by decide +kernel
theorem dX2_takers_14 : decode cX2_takers 14 = .ok (.iload_n 3, 1) := by decide +kernel
theorem dX2_takers_15 : decode cX2_takers 15 = .ok (.baload, 1) := by decide +kernel
theorem dX2_takers_16 : decode cX2_takers 16 = .ok (.ifCond .eq 12, 3) := by decide +kernel
theorem dX2_takers_19 : decode cX2_takers 19 = .ok (.iload_n 2, 1) := by decide +kernel
theorem dX2_takers_20 : decode cX2_takers 20 = .ok (.aload_n 0, 1) := by decide +kernel
theorem dX2_takers_21 : decode cX2_takers 21 = .ok (.iload_n 3, 1) := by decide +kernel
theorem dX2_takers_22 : decode cX2_takers 22 = .ok (.iload_n 1, 1) := by decide +kernel
theorem dX2_takers_23 : decode cX2_takers 23 = .ok (.invokevirtual 146, 3) := by decide +kernel
theorem dX2_takers_26 : decode cX2_takers 26 = .ok (.iadd, 1) := by decide +kernel
theorem dX2_takers_27 : decode cX2_takers 27 = .ok (.istore_n 2, 1) := by decide +kernel
theorem dX2_takers_28 : decode cX2_takers 28 = .ok (.iinc 3 1, 3) := by decide +kernel
theorem dX2_takers_31 : decode cX2_takers 31 = .ok (.goto (-27), 3) := by decide +kernel
theorem dX2_takers_34 : decode cX2_takers 34 = .ok (.iload_n 2, 1) := by decide +kernel
theorem dX2_takers_35 : decode cX2_takers 35 = .ok (.ireturn, 1) := by decide +kernel
set_option maxRecDepth 20000 in
theorem ggX2_ownTakers_X2_takersIn : GoodIn wsX2_ownTakers wsX2_takersIn := goodIn_r _ [5, 6, 7, 8, 9, 10, 11, 12, 13, 14, 15, 16, 17, 18, 19, 20, 21, 22] (by decide +kernel) (by decide +kernel)
set_option maxRecDepth 20000 in
theorem gX2_ownTakers_X2_takersIn : GoodIn wsX2_ownTakers (wsV RX2 146 RX2 yX2_takersIn wsX2_takersIn) := goodIn_app (goodIn_of _ (by decide +kernel)) ggX2_ownTakers_X2_takersIn
theorem dX2_ownTakers_0 : decode cX2_ownTakers 0 = .ok (.aload_n 0, 1) := by decide +kernel
theorem dX2_ownTakers_1 : decode cX2_ownTakers 1 = .ok (.iload_n 1, 1) := by decide +kernel
theorem dX2_ownTakers_2 : decode cX2_ownTakers 2 = .ok (.iload_n 1, 1) := by decide +kernel
theorem dX2_ownTakers_3 : decode cX2_ownTakers 3 = .ok (.invokevirtual 146, 3) := by decide +kernel
theorem dX2_ownTakers_6 : decode cX2_ownTakers 6 = .ok (.ireturn, 1) := by decide +kernel
theorem dX2_adds_0 : decode cX2_adds 0 = .ok (.aload_n 0, 1) := by decide +kernel
theorem dX2_adds_1 : decode cX2_adds 1 = .ok (.getfield 21, 3) := by decide +kernel
theorem dX2_adds_4 : decode cX2_adds 4 = .ok (.iload_n 1, 1) := by decide +kernel
theorem dX2_adds_5 : decode cX2_adds 5 = .ok (.iaload, 1) := by decide +kernel
theorem dX2_adds_6 : decode cX2_adds 6 = .ok (.bipush 8, 2) := by decide +kernel
theorem dX2_adds_8 : decode cX2_adds 8 = .ok (.if_icmp .ne 10, 3) := by decide +kernel
theorem dX2_adds_11 : decode cX2_adds 11 = .ok (.aload_n 0, 1) := by decide +kernel
theorem dX2_adds_12 : decode cX2_adds 12 = .ok (.iconst 3, 1) := by decide +kernel
theorem dX2_adds_13 : decode cX2_adds 13 = .ok (.putfield 51, 3) := by decide +kernel
theorem dX2_adds_16 : decode cX2_adds 16 = .ok (.iconst 0, 1) := by decide +kernel
theorem dX2_adds_17 : decode cX2_adds 17 = .ok (.ireturn, 1) := by decide +kernel
theorem dX2_adds_18 : decode cX2_adds 18 = .ok (.bipush 8, 2) := by decide +kernel
theorem dX2_adds_20 : decode cX2_adds 20 = .ok (.iload_n 1, 1) := by decide +kernel
theorem dX2_adds_21 : decode cX2_adds 21 = .ok (.imul, 1) := by decide +kernel
theorem dX2_adds_22 : decode cX2_adds 22 = .ok (.aload_n 0, 1) := by decide +kernel
theorem dX2_adds_23 : decode cX2_adds 23 = .ok (.getfield 21, 3) := by decide +kernel
theorem dX2_adds_26 : decode cX2_adds 26 = .ok (.iload_n 1, 1) := by decide +kernel
theorem dX2_adds_27 : decode cX2_adds 27 = .ok (.iaload, 1) := by decide +kernel
theorem dX2_adds_28 : decode cX2_adds 28 = .ok (.iadd, 1) := by decide +kernel
theorem dX2_adds_29 : decode cX2_adds 29 = .ok (.istore 7, 2) := by decide +kernel
theorem dX2_adds_31 : decode cX2_adds 31 = .ok (.aload_n 0, 1) := by decide +kernel
theorem dX2_adds_32 : decode cX2_adds 32 = .ok (.getfield 39, 3) := by decide +kernel
theorem dX2_adds_35 : decode cX2_adds 35 = .ok (.iload 7, 2) := by decide +kernel
theorem dX2_adds_37 : decode cX2_adds 37 = .ok (.iload_n 2, 1) := by decide +kernel
theorem dX2_adds_38 : decode cX2_adds 38 = .ok (.iastore, 1) := by decide +kernel
theorem dX2_adds_39 : decode cX2_adds 39 = .ok (.aload_n 0, 1) := by decide +kernel
theorem dX2_adds_40 : decode cX2_adds 40 = .ok (.getfield 42, 3) := by decide +kernel
theorem dX2_adds_43 : decode cX2_adds 43 = .ok (.iload 7, 2) := by decide +kernel
theorem dX2_adds_45 : decode cX2_adds 45 = .ok (.iload_n 3, 1) := by decide +kernel
theorem dX2_adds_46 : decode cX2_adds 46 = .ok (.iastore, 1) := by decide +kernel
theorem dX2_adds_47 : decode cX2_adds 47 = .ok (.aload_n 0, 1) := by decide +kernel
theorem dX2_adds_48 : decode cX2_adds 48 = .ok (.getfield 45, 3) := by decide +kernel
theorem dX2_adds_51 : decode cX2_adds 51 = .ok (.iload 7, 2) := by decide +kernel
theorem dX2_adds_53 : decode cX2_adds 53 = .ok (.lload 4, 2) := by decide +kernel
theorem dX2_adds_55 : decode cX2_adds 55 = .ok (.lastore, 1) := by decide +kernel
theorem dX2_adds_56 : decode cX2_adds 56 = .ok (.aload_n 0, 1) := by decide +kernel
theorem dX2_adds_57 : decode cX2_adds 57 = .ok (.getfield 48, 3) := by decide +kernel
theorem dX2_adds_60 : decode cX2_adds 60 = .ok (.iload 7, 2) := by decide +kernel
theorem dX2_adds_62 : decode cX2_adds 62 = .ok (.iload 6, 2) := by decide +kernel
theorem dX2_adds_64 : decode cX2_adds 64 = .ok (.iastore, 1) := by decide +kernel
theorem dX2_adds_65 : decode cX2_adds 65 = .ok (.aload_n 0, 1) := by decide +kernel
theorem dX2_adds_66 : decode cX2_adds 66 = .ok (.getfield 21, 3) := by decide +kernel
theorem dX2_adds_69 : decode cX2_adds 69 = .ok (.iload_n 1, 1) := by decide +kernel
theorem dX2_adds_70 : decode cX2_adds 70 = .ok (.dup2, 1) := by decide +kernel
theorem dX2_adds_71 : decode cX2_adds 71 = .ok (.iaload, 1) := by decide +kernel
theorem dX2_adds_72 : decode cX2_adds 72 = .ok (.iconst 1, 1) := by decide +kernel
theorem dX2_adds_73 : decode cX2_adds 73 = .ok (.iadd, 1) := by decide +kernel
theorem dX2_adds_74 : decode cX2_adds 74 = .ok (.iastore, 1) := by decide +kernel
theorem dX2_adds_75 : decode cX2_adds 75 = .ok (.aload_n 0, 1) := by decide +kernel
theorem dX2_adds_76 : decode cX2_adds 76 = .ok (.getfield 21, 3) := by decide +kernel
theorem dX2_adds_79 : decode cX2_adds 79 = .ok (.iload_n 1, 1) := by decide +kernel
theorem dX2_adds_80 : decode cX2_adds 80 = .ok (.iaload, 1) := by decide +kernel
theorem dX2_adds_81 : decode cX2_adds 81 = .ok (.ireturn, 1) := by decide +kernel
set_option maxRecDepth 20000 in
theorem ggX2_step_X2_isThere : GoodIn wsX2_step wsX2_isThere := goodIn_r _ [7, 8, 24, 25, 26, 27, 28, 29, 30, 31, 32, 33, 34, 35, 36, 37] (by decide +kernel) (by decide +kernel)
set_option maxRecDepth 20000 in
theorem gX2_step_X2_isThere : GoodIn wsX2_step (wsV RX2 150 RX2 yX2_isThere wsX2_isThere) := goodIn_app (goodIn_of _ (by decide +kernel)) ggX2_step_X2_isThere
set_option maxRecDepth 20000 in
theorem ggX2_step_X2_has : GoodIn wsX2_step wsX2_has := goodIn_r _ [11] (by decide +kernel) (by decide +kernel)
set_option maxRecDepth 20000 in
theorem gX2_step_X2_has : GoodIn wsX2_step (va_wsS RX2 154 yX2_has wsX2_has) := goodIn_app (goodIn_of _ (by decide +kernel)) ggX2_step_X2_has
set_option maxRecDepth 20000 in
theorem ggX2_step_X2_wants : GoodIn wsX2_step wsX2_wants := goodIn_r _ [14] (by decide +kernel) (by decide +kernel)
set_option maxRecDepth 20000 in
theorem gX2_step_X2_wants : GoodIn wsX2_step (va_wsS RX2 158 yX2_wants wsX2_wants) := goodIn_app (goodIn_of _ (by decide +kernel)) ggX2_step_X2_wants
set_option maxRecDepth 20000 in
theorem ggX2_step_X2_adds : GoodIn wsX2_step wsX2_adds := goodIn_r _ [18, 19, 2, 20, 21, 22, 23, 24, 25, 26, 27, 28, 29, 30, 31, 32, 33, 34, 35, 36, 37] (by decide +kernel) (by decide +kernel)
set_option maxRecDepth 20000 in
theorem gX2_step_X2_adds : GoodIn wsX2_step (wsV RX2 161 RX2 yX2_adds wsX2_adds) := goodIn_app (goodIn_of _ (by decide +kernel)) ggX2_step_X2_adds
theorem dX2_step_0 : decode cX2_step 0 = .ok (.aload_n 0, 1) := by decide +kernel
theorem dX2_step_1 : decode cX2_step 1 = .ok (.aload_n 0, 1) := by decide +kernel
theorem dX2_step_2 : decode cX2_step 2 = .ok (.iload_n 1, 1) := by decide +kernel
theorem dX2_step_3 : decode cX2_step 3 = .ok (.invokevirtual 150, 3) := by decide +kernel
theorem dX2_step_6 : decode cX2_step 6 = .ok (.ifCond .ne 7, 3) := by decide +kernel
theorem dX2_step_9 : decode cX2_step 9 = .ok (.iconst 1, 1) := by decide +kernel
theorem dX2_step_10 : decode cX2_step 10 = .ok (.goto 28, 3) := by decide +kernel
theorem dX2_step_13 : decode cX2_step 13 = .ok (.aload_n 0, 1) := by decide +kernel
theorem dX2_step_14 : decode cX2_step 14 = .ok (.getfield 13, 3) := by decide +kernel
theorem dX2_step_17 : decode cX2_step 17 = .ok (.iload_n 1, 1) := by decide +kernel
theorem dX2_step_18 : decode cX2_step 18 = .ok (.iaload, 1) := by decide +kernel
theorem dX2_step_19 : decode cX2_step 19 = .ok (.iload_n 2, 1) := by decide +kernel
theorem dX2_step_20 : decode cX2_step 20 = .ok (.invokestatic 154, 3) := by decide +kernel
theorem dX2_step_23 : decode cX2_step 23 = .ok (.ifCond .eq 10, 3) := by decide +kernel
theorem dX2_step_26 : decode cX2_step 26 = .ok (.iload_n 2, 1) := by decide +kernel
theorem dX2_step_27 : decode cX2_step 27 = .ok (.invokestatic 158, 3) := by decide +kernel
theorem dX2_step_30 : decode cX2_step 30 = .ok (.ifCond .eq 7, 3) := by decide +kernel
theorem dX2_step_33 : decode cX2_step 33 = .ok (.iconst 2, 1) := by decide +kernel
theorem dX2_step_34 : decode cX2_step 34 = .ok (.goto 4, 3) := by decide +kernel
theorem dX2_step_37 : decode cX2_step 37 = .ok (.iconst 0, 1) := by decide +kernel
theorem dX2_step_38 : decode cX2_step 38 = .ok (.putfield 51, 3) := by decide +kernel
theorem dX2_step_41 : decode cX2_step 41 = .ok (.aload_n 0, 1) := by decide +kernel
theorem dX2_step_42 : decode cX2_step 42 = .ok (.getfield 51, 3) := by decide +kernel
theorem dX2_step_45 : decode cX2_step 45 = .ok (.ifCond .le 7, 3) := by decide +kernel
theorem dX2_step_48 : decode cX2_step 48 = .ok (.iconst 0, 1) := by decide +kernel
theorem dX2_step_49 : decode cX2_step 49 = .ok (.goto 12, 3) := by decide +kernel
theorem dX2_step_52 : decode cX2_step 52 = .ok (.aload_n 0, 1) := by decide +kernel
theorem dX2_step_53 : decode cX2_step 53 = .ok (.iload_n 1, 1) := by decide +kernel
theorem dX2_step_54 : decode cX2_step 54 = .ok (.iload_n 2, 1) := by decide +kernel
theorem dX2_step_55 : decode cX2_step 55 = .ok (.iconst 0, 1) := by decide +kernel
theorem dX2_step_56 : decode cX2_step 56 = .ok (.lconst 0, 1) := by decide +kernel
theorem dX2_step_57 : decode cX2_step 57 = .ok (.iconst (-1), 1) := by decide +kernel
theorem dX2_step_58 : decode cX2_step 58 = .ok (.invokevirtual 161, 3) := by decide +kernel
theorem dX2_step_61 : decode cX2_step 61 = .ok (.ireturn, 1) := by decide +kernel
set_option maxRecDepth 20000 in
theorem ggX2_stepBy_X2_isThere : GoodIn wsX2_stepBy wsX2_isThere := goodIn_r _ [7, 8, 35, 36, 37, 38, 39, 40, 41, 42, 43, 44, 45, 46, 47, 48] (by decide +kernel) (by decide +kernel)
set_option maxRecDepth 20000 in
theorem gX2_stepBy_X2_isThere : GoodIn wsX2_stepBy (wsV RX2 150 RX2 yX2_isThere wsX2_isThere) := goodIn_app (goodIn_of _ (by decide +kernel)) ggX2_stepBy_X2_isThere
set_option maxRecDepth 20000 in
theorem ggX2_stepBy_X2_has : GoodIn wsX2_stepBy wsX2_has := goodIn_r _ [11] (by decide +kernel) (by decide +kernel)
set_option maxRecDepth 20000 in
theorem gX2_stepBy_X2_has : GoodIn wsX2_stepBy (va_wsS RX2 154 yX2_has wsX2_has) := goodIn_app (goodIn_of _ (by decide +kernel)) ggX2_stepBy_X2_has
set_option maxRecDepth 20000 in
theorem ggX2_stepBy_X2_wants : GoodIn wsX2_stepBy wsX2_wants := goodIn_r _ [14] (by decide +kernel) (by decide +kernel)
set_option maxRecDepth 20000 in
theorem gX2_stepBy_X2_wants : GoodIn wsX2_stepBy (va_wsS RX2 158 yX2_wants wsX2_wants) := goodIn_app (goodIn_of _ (by decide +kernel)) ggX2_stepBy_X2_wants
set_option maxRecDepth 20000 in
theorem ggX2_stepBy_X2_isGood : GoodIn wsX2_stepBy wsX2_isGood := goodIn_r _ [17, 18, 19, 20, 21, 6, 22, 23, 24, 25] (by decide +kernel) (by decide +kernel)
set_option maxRecDepth 20000 in
theorem gX2_stepBy_X2_isGood : GoodIn wsX2_stepBy (va_wsS RX2 165 yX2_isGood wsX2_isGood) := goodIn_app (goodIn_of _ (by decide +kernel)) ggX2_stepBy_X2_isGood
set_option maxRecDepth 20000 in
theorem ggX2_stepBy_X2_adds : GoodIn wsX2_stepBy wsX2_adds := goodIn_r _ [29, 30, 2, 31, 32, 33, 34, 35, 36, 37, 38, 39, 40, 41, 42, 43, 44, 45, 46, 47, 48] (by decide +kernel) (by decide +kernel)
set_option maxRecDepth 20000 in
theorem gX2_stepBy_X2_adds : GoodIn wsX2_stepBy (wsV RX2 161 RX2 yX2_adds wsX2_adds) := goodIn_app (goodIn_of _ (by decide +kernel)) ggX2_stepBy_X2_adds
theorem dX2_stepBy_0 : decode cX2_stepBy 0 = .ok (.aload_n 0, 1) := by decide +kernel
theorem dX2_stepBy_1 : decode cX2_stepBy 1 = .ok (.aload_n 0, 1) := by decide +kernel
theorem dX2_stepBy_2 : decode cX2_stepBy 2 = .ok (.iload_n 1, 1) := by decide +kernel
theorem dX2_stepBy_3 : decode cX2_stepBy 3 = .ok (.invokevirtual 150, 3) := by decide +kernel
theorem dX2_stepBy_6 : decode cX2_stepBy 6 = .ok (.ifCond .ne 7, 3) := by decide +kernel
theorem dX2_stepBy_9 : decode cX2_stepBy 9 = .ok (.iconst 1, 1) := by decide +kernel
theorem dX2_stepBy_10 : decode cX2_stepBy 10 = .ok (.goto 41, 3) := by decide +kernel
theorem dX2_stepBy_13 : decode cX2_stepBy 13 = .ok (.aload_n 0, 1) := by decide +kernel
theorem dX2_stepBy_14 : decode cX2_stepBy 14 = .ok (.getfield 13, 3) := by decide +kernel
theorem dX2_stepBy_17 : decode cX2_stepBy 17 = .ok (.iload_n 1, 1) := by decide +kernel
theorem dX2_stepBy_18 : decode cX2_stepBy 18 = .ok (.iaload, 1) := by decide +kernel
theorem dX2_stepBy_19 : decode cX2_stepBy 19 = .ok (.iload_n 2, 1) := by decide +kernel
theorem dX2_stepBy_20 : decode cX2_stepBy 20 = .ok (.invokestatic 154, 3) := by decide +kernel
theorem dX2_stepBy_23 : decode cX2_stepBy 23 = .ok (.ifCond .eq 23, 3) := by decide +kernel
theorem dX2_stepBy_26 : decode cX2_stepBy 26 = .ok (.iload_n 2, 1) := by decide +kernel
theorem dX2_stepBy_27 : decode cX2_stepBy 27 = .ok (.invokestatic 158, 3) := by decide +kernel
theorem dX2_stepBy_30 : decode cX2_stepBy 30 = .ok (.ifCond .eq 16, 3) := by decide +kernel
theorem dX2_stepBy_33 : decode cX2_stepBy 33 = .ok (.lload_n 3, 1) := by decide +kernel
theorem dX2_stepBy_34 : decode cX2_stepBy 34 = .ok (.aload_n 0, 1) := by decide +kernel
theorem dX2_stepBy_35 : decode cX2_stepBy 35 = .ok (.getfield 13, 3) := by decide +kernel
theorem dX2_stepBy_38 : decode cX2_stepBy 38 = .ok (.iload_n 1, 1) := by decide +kernel
theorem dX2_stepBy_39 : decode cX2_stepBy 39 = .ok (.iaload, 1) := by decide +kernel
theorem dX2_stepBy_40 : decode cX2_stepBy 40 = .ok (.invokestatic 165, 3) := by decide +kernel
theorem dX2_stepBy_43 : decode cX2_stepBy 43 = .ok (.ifCond .ne 7, 3) := by decide +kernel
theorem dX2_stepBy_46 : decode cX2_stepBy 46 = .ok (.iconst 2, 1) := by decide +kernel
theorem dX2_stepBy_47 : decode cX2_stepBy 47 = .ok (.goto 4, 3) := by decide +kernel
theorem dX2_stepBy_50 : decode cX2_stepBy 50 = .ok (.iconst 0, 1) := by decide +kernel
theorem dX2_stepBy_51 : decode cX2_stepBy 51 = .ok (.putfield 51, 3) := by decide +kernel
theorem dX2_stepBy_54 : decode cX2_stepBy 54 = .ok (.aload_n 0, 1) := by decide +kernel
theorem dX2_stepBy_55 : decode cX2_stepBy 55 = .ok (.getfield 51, 3) := by decide +kernel
theorem dX2_stepBy_58 : decode cX2_stepBy 58 = .ok (.ifCond .le 7, 3) := by decide +kernel
theorem dX2_stepBy_61 : decode cX2_stepBy 61 = .ok (.iconst 0, 1) := by decide +kernel
theorem dX2_stepBy_62 : decode cX2_stepBy 62 = .ok (.goto 12, 3) := by decide +kernel
theorem dX2_stepBy_65 : decode cX2_stepBy 65 = .ok (.aload_n 0, 1) := by decide +kernel
theorem dX2_stepBy_66 : decode cX2_stepBy 66 = .ok (.iload_n 1, 1) := by decide +kernel
theorem dX2_stepBy_67 : decode cX2_stepBy 67 = .ok (.iload_n 2, 1) := by decide +kernel
theorem dX2_stepBy_68 : decode cX2_stepBy 68 = .ok (.iconst 1, 1) := by decide +kernel
theorem dX2_stepBy_69 : decode cX2_stepBy 69 = .ok (.lload_n 3, 1) := by decide +kernel
theorem dX2_stepBy_70 : decode cX2_stepBy 70 = .ok (.iconst (-1), 1) := by decide +kernel
theorem dX2_stepBy_71 : decode cX2_stepBy 71 = .ok (.invokevirtual 161, 3) := by decide +kernel
theorem dX2_stepBy_74 : decode cX2_stepBy 74 = .ok (.ireturn, 1) := by decide +kernel
set_option maxRecDepth 20000 in
theorem ggX2_stepOf_X2_isThere : GoodIn wsX2_stepOf wsX2_isThere := goodIn_r _ [7, 8, 24, 25, 26, 27, 28, 29, 30, 31, 32, 33, 34, 35, 36, 37] (by decide +kernel) (by decide +kernel)
set_option maxRecDepth 20000 in
theorem gX2_stepOf_X2_isThere : GoodIn wsX2_stepOf (wsV RX2 150 RX2 yX2_isThere wsX2_isThere) := goodIn_app (goodIn_of _ (by decide +kernel)) ggX2_stepOf_X2_isThere
set_option maxRecDepth 20000 in
theorem ggX2_stepOf_X2_has : GoodIn wsX2_stepOf wsX2_has := goodIn_r _ [11] (by decide +kernel) (by decide +kernel)
set_option maxRecDepth 20000 in
theorem gX2_stepOf_X2_has : GoodIn wsX2_stepOf (va_wsS RX2 154 yX2_has wsX2_has) := goodIn_app (goodIn_of _ (by decide +kernel)) ggX2_stepOf_X2_has
set_option maxRecDepth 20000 in
theorem ggX2_stepOf_X2_wants : GoodIn wsX2_stepOf wsX2_wants := goodIn_r _ [14] (by decide +kernel) (by decide +kernel)
set_option maxRecDepth 20000 in
theorem gX2_stepOf_X2_wants : GoodIn wsX2_stepOf (va_wsS RX2 158 yX2_wants wsX2_wants) := goodIn_app (goodIn_of _ (by decide +kernel)) ggX2_stepOf_X2_wants
set_option maxRecDepth 20000 in
theorem ggX2_stepOf_X2_adds : GoodIn wsX2_stepOf wsX2_adds := goodIn_r _ [18, 19, 2, 20, 21, 22, 23, 24, 25, 26, 27, 28, 29, 30, 31, 32, 33, 34, 35, 36, 37] (by decide +kernel) (by decide +kernel)
set_option maxRecDepth 20000 in
theorem gX2_stepOf_X2_adds : GoodIn wsX2_stepOf (wsV RX2 161 RX2 yX2_adds wsX2_adds) := goodIn_app (goodIn_of _ (by decide +kernel)) ggX2_stepOf_X2_adds
theorem dX2_stepOf_0 : decode cX2_stepOf 0 = .ok (.aload_n 0, 1) := by decide +kernel
theorem dX2_stepOf_1 : decode cX2_stepOf 1 = .ok (.aload_n 0, 1) := by decide +kernel
theorem dX2_stepOf_2 : decode cX2_stepOf 2 = .ok (.iload_n 1, 1) := by decide +kernel
theorem dX2_stepOf_3 : decode cX2_stepOf 3 = .ok (.invokevirtual 150, 3) := by decide +kernel
theorem dX2_stepOf_6 : decode cX2_stepOf 6 = .ok (.ifCond .eq 11, 3) := by decide +kernel
theorem dX2_stepOf_9 : decode cX2_stepOf 9 = .ok (.aload_n 0, 1) := by decide +kernel
theorem dX2_stepOf_10 : decode cX2_stepOf 10 = .ok (.iload_n 3, 1) := by decide +kernel
theorem dX2_stepOf_11 : decode cX2_stepOf 11 = .ok (.invokevirtual 150, 3) := by decide +kernel
theorem dX2_stepOf_14 : decode cX2_stepOf 14 = .ok (.ifCond .ne 7, 3) := by decide +kernel
theorem dX2_stepOf_17 : decode cX2_stepOf 17 = .ok (.iconst 1, 1) := by decide +kernel
theorem dX2_stepOf_18 : decode cX2_stepOf 18 = .ok (.goto 43, 3) := by decide +kernel
theorem dX2_stepOf_21 : decode cX2_stepOf 21 = .ok (.aload_n 0, 1) := by decide +kernel
theorem dX2_stepOf_22 : decode cX2_stepOf 22 = .ok (.getfield 13, 3) := by decide +kernel
theorem dX2_stepOf_25 : decode cX2_stepOf 25 = .ok (.iload_n 1, 1) := by decide +kernel
theorem dX2_stepOf_26 : decode cX2_stepOf 26 = .ok (.iaload, 1) := by decide +kernel
theorem dX2_stepOf_27 : decode cX2_stepOf 27 = .ok (.iload_n 2, 1) := by decide +kernel
theorem dX2_stepOf_28 : decode cX2_stepOf 28 = .ok (.invokestatic 154, 3) := by decide +kernel
theorem dX2_stepOf_31 : decode cX2_stepOf 31 = .ok (.ifCond .eq 25, 3) := by decide +kernel
theorem dX2_stepOf_34 : decode cX2_stepOf 34 = .ok (.iload_n 2, 1) := by decide +kernel
theorem dX2_stepOf_35 : decode cX2_stepOf 35 = .ok (.invokestatic 158, 3) := by decide +kernel
theorem dX2_stepOf_38 : decode cX2_stepOf 38 = .ok (.ifCond .eq 18, 3) := by decide +kernel
theorem dX2_stepOf_41 : decode cX2_stepOf 41 = .ok (.aload_n 0, 1) := by decide +kernel
theorem dX2_stepOf_42 : decode cX2_stepOf 42 = .ok (.getfield 13, 3) := by decide +kernel
theorem dX2_stepOf_45 : decode cX2_stepOf 45 = .ok (.iload_n 3, 1) := by decide +kernel
theorem dX2_stepOf_46 : decode cX2_stepOf 46 = .ok (.iaload, 1) := by decide +kernel
theorem dX2_stepOf_47 : decode cX2_stepOf 47 = .ok (.aload_n 0, 1) := by decide +kernel
theorem dX2_stepOf_48 : decode cX2_stepOf 48 = .ok (.getfield 13, 3) := by decide +kernel
theorem dX2_stepOf_51 : decode cX2_stepOf 51 = .ok (.iload_n 1, 1) := by decide +kernel
theorem dX2_stepOf_52 : decode cX2_stepOf 52 = .ok (.iaload, 1) := by decide +kernel
theorem dX2_stepOf_53 : decode cX2_stepOf 53 = .ok (.if_icmp .eq 7, 3) := by decide +kernel
theorem dX2_stepOf_56 : decode cX2_stepOf 56 = .ok (.iconst 2, 1) := by decide +kernel
theorem dX2_stepOf_57 : decode cX2_stepOf 57 = .ok (.goto 4, 3) := by decide +kernel
theorem dX2_stepOf_60 : decode cX2_stepOf 60 = .ok (.iconst 0, 1) := by decide +kernel
theorem dX2_stepOf_61 : decode cX2_stepOf 61 = .ok (.putfield 51, 3) := by decide +kernel
theorem dX2_stepOf_64 : decode cX2_stepOf 64 = .ok (.aload_n 0, 1) := by decide +kernel
theorem dX2_stepOf_65 : decode cX2_stepOf 65 = .ok (.getfield 51, 3) := by decide +kernel
theorem dX2_stepOf_68 : decode cX2_stepOf 68 = .ok (.ifCond .le 7, 3) := by decide +kernel
theorem dX2_stepOf_71 : decode cX2_stepOf 71 = .ok (.iconst 0, 1) := by decide +kernel
theorem dX2_stepOf_72 : decode cX2_stepOf 72 = .ok (.goto 12, 3) := by decide +kernel
theorem dX2_stepOf_75 : decode cX2_stepOf 75 = .ok (.aload_n 0, 1) := by decide +kernel
theorem dX2_stepOf_76 : decode cX2_stepOf 76 = .ok (.iload_n 1, 1) := by decide +kernel
theorem dX2_stepOf_77 : decode cX2_stepOf 77 = .ok (.iload_n 2, 1) := by decide +kernel
theorem dX2_stepOf_78 : decode cX2_stepOf 78 = .ok (.iconst 2, 1) := by decide +kernel
theorem dX2_stepOf_79 : decode cX2_stepOf 79 = .ok (.lconst 0, 1) := by decide +kernel
theorem dX2_stepOf_80 : decode cX2_stepOf 80 = .ok (.iload_n 3, 1) := by decide +kernel
theorem dX2_stepOf_81 : decode cX2_stepOf 81 = .ok (.invokevirtual 161, 3) := by decide +kernel
theorem dX2_stepOf_84 : decode cX2_stepOf 84 = .ok (.ireturn, 1) := by decide +kernel
set_option maxRecDepth 20000 in
theorem ggX2_bare_X2_isThere : GoodIn wsX2_bare wsX2_isThere := goodIn_r _ [7, 8, 9, 10, 11, 12, 13, 14, 15, 16, 17, 18, 19, 20, 21, 22] (by decide +kernel) (by decide +kernel)
set_option maxRecDepth 20000 in
theorem gX2_bare_X2_isThere : GoodIn wsX2_bare (wsV RX2 150 RX2 yX2_isThere wsX2_isThere) := goodIn_app (goodIn_of _ (by decide +kernel)) ggX2_bare_X2_isThere
theorem dX2_bare_0 : decode cX2_bare 0 = .ok (.aload_n 0, 1) := by decide +kernel
theorem dX2_bare_1 : decode cX2_bare 1 = .ok (.aload_n 0, 1) := by decide +kernel
theorem dX2_bare_2 : decode cX2_bare 2 = .ok (.iload_n 1, 1) := by decide +kernel
theorem dX2_bare_3 : decode cX2_bare 3 = .ok (.invokevirtual 150, 3) := by decide +kernel
theorem dX2_bare_6 : decode cX2_bare 6 = .ok (.ifCond .eq 7, 3) := by decide +kernel
theorem dX2_bare_9 : decode cX2_bare 9 = .ok (.iconst 0, 1) := by decide +kernel
theorem dX2_bare_10 : decode cX2_bare 10 = .ok (.goto 4, 3) := by decide +kernel
theorem dX2_bare_13 : decode cX2_bare 13 = .ok (.iconst 1, 1) := by decide +kernel
theorem dX2_bare_14 : decode cX2_bare 14 = .ok (.putfield 51, 3) := by decide +kernel
theorem dX2_bare_17 : decode cX2_bare 17 = .ok (.aload_n 0, 1) := by decide +kernel
theorem dX2_bare_18 : decode cX2_bare 18 = .ok (.getfield 51, 3) := by decide +kernel
theorem dX2_bare_21 : decode cX2_bare 21 = .ok (.ifCond .le 5, 3) := by decide +kernel
theorem dX2_bare_24 : decode cX2_bare 24 = .ok (.iconst 0, 1) := by decide +kernel
theorem dX2_bare_25 : decode cX2_bare 25 = .ok (.ireturn, 1) := by decide +kernel
theorem dX2_bare_26 : decode cX2_bare 26 = .ok (.aload_n 0, 1) := by decide +kernel
theorem dX2_bare_27 : decode cX2_bare 27 = .ok (.getfield 21, 3) := by decide +kernel
theorem dX2_bare_30 : decode cX2_bare 30 = .ok (.iload_n 1, 1) := by decide +kernel
theorem dX2_bare_31 : decode cX2_bare 31 = .ok (.iaload, 1) := by decide +kernel
theorem dX2_bare_32 : decode cX2_bare 32 = .ok (.istore_n 2, 1) := by decide +kernel
theorem dX2_bare_33 : decode cX2_bare 33 = .ok (.aload_n 0, 1) := by decide +kernel
theorem dX2_bare_34 : decode cX2_bare 34 = .ok (.getfield 21, 3) := by decide +kernel
theorem dX2_bare_37 : decode cX2_bare 37 = .ok (.iload_n 1, 1) := by decide +kernel
theorem dX2_bare_38 : decode cX2_bare 38 = .ok (.iconst 0, 1) := by decide +kernel
theorem dX2_bare_39 : decode cX2_bare 39 = .ok (.iastore, 1) := by decide +kernel
theorem dX2_bare_40 : decode cX2_bare 40 = .ok (.iload_n 2, 1) := by decide +kernel
theorem dX2_bare_41 : decode cX2_bare 41 = .ok (.ireturn, 1) := by decide +kernel
set_option maxRecDepth 20000 in
theorem ggX2_read_X2_isThere : GoodIn wsX2_read wsX2_isThere := goodIn_r _ [7, 8, 68, 69, 70, 71, 72, 73, 74, 75, 76, 77, 78, 79, 80, 81] (by decide +kernel) (by decide +kernel)
set_option maxRecDepth 20000 in
theorem gX2_read_X2_isThere : GoodIn wsX2_read (wsV RX2 150 RX2 yX2_isThere wsX2_isThere) := goodIn_app (goodIn_of _ (by decide +kernel)) ggX2_read_X2_isThere
set_option maxRecDepth 20000 in
theorem ggX2_read_X2_isGood : GoodIn wsX2_read wsX2_isGood := goodIn_r _ [11, 12, 13, 14, 15, 6, 16, 17, 18, 19] (by decide +kernel) (by decide +kernel)
set_option maxRecDepth 20000 in
theorem gX2_read_X2_isGood : GoodIn wsX2_read (va_wsS RX2 165 yX2_isGood wsX2_isGood) := goodIn_app (goodIn_of _ (by decide +kernel)) ggX2_read_X2_isGood
set_option maxRecDepth 20000 in
theorem ggX2_read_X2_comes : GoodIn wsX2_read wsX2_comes := goodIn_r _ [23, 24, 25, 26, 27, 28, 29, 1, 30, 31, 32, 33, 6, 34, 35, 36, 37, 38, 39, 40, 41, 12, 13, 18, 42, 43, 44, 45, 46, 47, 48, 49, 50, 51, 52, 53, 54, 55, 56, 57, 58, 59, 60, 61, 62, 63, 64, 65, 66, 67, 68, 69, 70, 71, 72, 73, 74, 75, 76, 77, 78, 79, 80, 81] (by decide +kernel) (by decide +kernel)
set_option maxRecDepth 20000 in
theorem gX2_read_X2_comes : GoodIn wsX2_read (wsV RX2 168 RX2 yX2_comes wsX2_comes) := goodIn_app (goodIn_of _ (by decide +kernel)) ggX2_read_X2_comes
theorem dX2_read_0 : decode cX2_read 0 = .ok (.aload_n 0, 1) := by decide +kernel
theorem dX2_read_1 : decode cX2_read 1 = .ok (.aload_n 0, 1) := by decide +kernel
theorem dX2_read_2 : decode cX2_read 2 = .ok (.iload_n 1, 1) := by decide +kernel
theorem dX2_read_3 : decode cX2_read 3 = .ok (.invokevirtual 150, 3) := by decide +kernel
theorem dX2_read_6 : decode cX2_read 6 = .ok (.ifCond .ne 7, 3) := by decide +kernel
theorem dX2_read_9 : decode cX2_read 9 = .ok (.iconst 1, 1) := by decide +kernel
theorem dX2_read_10 : decode cX2_read 10 = .ok (.goto 21, 3) := by decide +kernel
theorem dX2_read_13 : decode cX2_read 13 = .ok (.lload_n 2, 1) := by decide +kernel
theorem dX2_read_14 : decode cX2_read 14 = .ok (.aload_n 0, 1) := by decide +kernel
theorem dX2_read_15 : decode cX2_read 15 = .ok (.getfield 13, 3) := by decide +kernel
theorem dX2_read_18 : decode cX2_read 18 = .ok (.iload_n 1, 1) := by decide +kernel
theorem dX2_read_19 : decode cX2_read 19 = .ok (.iaload, 1) := by decide +kernel
theorem dX2_read_20 : decode cX2_read 20 = .ok (.invokestatic 165, 3) := by decide +kernel
theorem dX2_read_23 : decode cX2_read 23 = .ok (.ifCond .ne 7, 3) := by decide +kernel
theorem dX2_read_26 : decode cX2_read 26 = .ok (.iconst 2, 1) := by decide +kernel
theorem dX2_read_27 : decode cX2_read 27 = .ok (.goto 4, 3) := by decide +kernel
theorem dX2_read_30 : decode cX2_read 30 = .ok (.iconst 0, 1) := by decide +kernel
theorem dX2_read_31 : decode cX2_read 31 = .ok (.putfield 51, 3) := by decide +kernel
theorem dX2_read_34 : decode cX2_read 34 = .ok (.aload_n 0, 1) := by decide +kernel
theorem dX2_read_35 : decode cX2_read 35 = .ok (.getfield 51, 3) := by decide +kernel
theorem dX2_read_38 : decode cX2_read 38 = .ok (.ifCond .le 7, 3) := by decide +kernel
theorem dX2_read_41 : decode cX2_read 41 = .ok (.lconst 0, 1) := by decide +kernel
theorem dX2_read_42 : decode cX2_read 42 = .ok (.goto 9, 3) := by decide +kernel
theorem dX2_read_45 : decode cX2_read 45 = .ok (.aload_n 0, 1) := by decide +kernel
theorem dX2_read_46 : decode cX2_read 46 = .ok (.iload_n 1, 1) := by decide +kernel
theorem dX2_read_47 : decode cX2_read 47 = .ok (.lload_n 2, 1) := by decide +kernel
theorem dX2_read_48 : decode cX2_read 48 = .ok (.invokevirtual 168, 3) := by decide +kernel
theorem dX2_read_51 : decode cX2_read 51 = .ok (.lreturn, 1) := by decide +kernel
set_option maxRecDepth 20000 in
theorem ggX2_hand_X2_isThere : GoodIn wsX2_hand wsX2_isThere := goodIn_r _ [8, 9, 83, 84, 85, 86, 87, 88, 89, 90, 91, 92, 93, 94, 95, 96] (by decide +kernel) (by decide +kernel)
set_option maxRecDepth 20000 in
theorem gX2_hand_X2_isThere : GoodIn wsX2_hand (wsV RX2 150 RX2 yX2_isThere wsX2_isThere) := goodIn_app (goodIn_of _ (by decide +kernel)) ggX2_hand_X2_isThere
set_option maxRecDepth 20000 in
theorem ggX2_hand_X2_handed : GoodIn wsX2_hand wsX2_handed := goodIn_r _ [12, 13, 14, 7, 15, 16, 17, 18, 19, 20, 21, 22, 23, 24, 25, 26, 27, 28, 29, 30, 31, 32, 33, 34, 35] (by decide +kernel) (by decide +kernel)
set_option maxRecDepth 20000 in
theorem gX2_hand_X2_handed : GoodIn wsX2_hand (va_wsS RX2 172 yX2_handed wsX2_handed) := goodIn_app (goodIn_of _ (by decide +kernel)) ggX2_hand_X2_handed
set_option maxRecDepth 20000 in
theorem ggX2_hand_X2_comes : GoodIn wsX2_hand wsX2_comes := goodIn_r _ [39, 40, 41, 3, 42, 43, 44, 2, 45, 46, 47, 48, 7, 49, 50, 51, 52, 53, 54, 55, 56, 57, 16, 58, 59, 60, 61, 62, 63, 64, 65, 66, 67, 68, 69, 70, 71, 72, 73, 74, 75, 76, 77, 29, 17, 78, 79, 80, 81, 82, 83, 84, 85, 86, 87, 88, 89, 90, 91, 92, 93, 94, 95, 96] (by decide +kernel) (by decide +kernel)
set_option maxRecDepth 20000 in
theorem gX2_hand_X2_comes : GoodIn wsX2_hand (wsV RX2 168 RX2 yX2_comes wsX2_comes) := goodIn_app (goodIn_of _ (by decide +kernel)) ggX2_hand_X2_comes
theorem dX2_hand_0 : decode cX2_hand 0 = .ok (.aload_n 0, 1) := by decide +kernel
theorem dX2_hand_1 : decode cX2_hand 1 = .ok (.aload_n 0, 1) := by decide +kernel
theorem dX2_hand_2 : decode cX2_hand 2 = .ok (.iload_n 1, 1) := by decide +kernel
theorem dX2_hand_3 : decode cX2_hand 3 = .ok (.invokevirtual 150, 3) := by decide +kernel
theorem dX2_hand_6 : decode cX2_hand 6 = .ok (.ifCond .eq 11, 3) := by decide +kernel
theorem dX2_hand_9 : decode cX2_hand 9 = .ok (.aload_n 0, 1) := by decide +kernel
theorem dX2_hand_10 : decode cX2_hand 10 = .ok (.iload_n 2, 1) := by decide +kernel
theorem dX2_hand_11 : decode cX2_hand 11 = .ok (.invokevirtual 150, 3) := by decide +kernel
theorem dX2_hand_14 : decode cX2_hand 14 = .ok (.ifCond .ne 7, 3) := by decide +kernel
theorem dX2_hand_17 : decode cX2_hand 17 = .ok (.iconst 1, 1) := by decide +kernel
theorem dX2_hand_18 : decode cX2_hand 18 = .ok (.goto 4, 3) := by decide +kernel
theorem dX2_hand_21 : decode cX2_hand 21 = .ok (.iconst 0, 1) := by decide +kernel
theorem dX2_hand_22 : decode cX2_hand 22 = .ok (.putfield 51, 3) := by decide +kernel
theorem dX2_hand_25 : decode cX2_hand 25 = .ok (.aload_n 0, 1) := by decide +kernel
theorem dX2_hand_26 : decode cX2_hand 26 = .ok (.getfield 51, 3) := by decide +kernel
theorem dX2_hand_29 : decode cX2_hand 29 = .ok (.ifCond .le 5, 3) := by decide +kernel
theorem dX2_hand_32 : decode cX2_hand 32 = .ok (.lconst 0, 1) := by decide +kernel
theorem dX2_hand_33 : decode cX2_hand 33 = .ok (.lreturn, 1) := by decide +kernel
theorem dX2_hand_34 : decode cX2_hand 34 = .ok (.iload_n 1, 1) := by decide +kernel
theorem dX2_hand_35 : decode cX2_hand 35 = .ok (.iload_n 2, 1) := by decide +kernel
theorem dX2_hand_36 : decode cX2_hand 36 = .ok (.if_icmp .eq 18, 3) := by decide +kernel
theorem dX2_hand_39 : decode cX2_hand 39 = .ok (.aload_n 0, 1) := by decide +kernel
theorem dX2_hand_40 : decode cX2_hand 40 = .ok (.getfield 13, 3) := by decide +kernel
theorem dX2_hand_43 : decode cX2_hand 43 = .ok (.iload_n 1, 1) := by decide +kernel
theorem dX2_hand_44 : decode cX2_hand 44 = .ok (.iaload, 1) := by decide +kernel
theorem dX2_hand_45 : decode cX2_hand 45 = .ok (.aload_n 0, 1) := by decide +kernel
theorem dX2_hand_46 : decode cX2_hand 46 = .ok (.getfield 13, 3) := by decide +kernel
theorem dX2_hand_49 : decode cX2_hand 49 = .ok (.iload_n 2, 1) := by decide +kernel
theorem dX2_hand_50 : decode cX2_hand 50 = .ok (.iaload, 1) := by decide +kernel
theorem dX2_hand_51 : decode cX2_hand 51 = .ok (.if_icmp .le 10, 3) := by decide +kernel
theorem dX2_hand_54 : decode cX2_hand 54 = .ok (.aload_n 0, 1) := by decide +kernel
theorem dX2_hand_55 : decode cX2_hand 55 = .ok (.iconst 2, 1) := by decide +kernel
theorem dX2_hand_56 : decode cX2_hand 56 = .ok (.putfield 51, 3) := by decide +kernel
theorem dX2_hand_59 : decode cX2_hand 59 = .ok (.lconst 0, 1) := by decide +kernel
theorem dX2_hand_60 : decode cX2_hand 60 = .ok (.lreturn, 1) := by decide +kernel
theorem dX2_hand_61 : decode cX2_hand 61 = .ok (.aload_n 0, 1) := by decide +kernel
theorem dX2_hand_62 : decode cX2_hand 62 = .ok (.iload_n 2, 1) := by decide +kernel
theorem dX2_hand_63 : decode cX2_hand 63 = .ok (.aload_n 0, 1) := by decide +kernel
theorem dX2_hand_64 : decode cX2_hand 64 = .ok (.getfield 17, 3) := by decide +kernel
theorem dX2_hand_67 : decode cX2_hand 67 = .ok (.iload_n 1, 1) := by decide +kernel
theorem dX2_hand_68 : decode cX2_hand 68 = .ok (.laload, 1) := by decide +kernel
theorem dX2_hand_69 : decode cX2_hand 69 = .ok (.aload_n 0, 1) := by decide +kernel
theorem dX2_hand_70 : decode cX2_hand 70 = .ok (.getfield 13, 3) := by decide +kernel
theorem dX2_hand_73 : decode cX2_hand 73 = .ok (.iload_n 1, 1) := by decide +kernel
theorem dX2_hand_74 : decode cX2_hand 74 = .ok (.iaload, 1) := by decide +kernel
theorem dX2_hand_75 : decode cX2_hand 75 = .ok (.aload_n 0, 1) := by decide +kernel
theorem dX2_hand_76 : decode cX2_hand 76 = .ok (.getfield 13, 3) := by decide +kernel
theorem dX2_hand_79 : decode cX2_hand 79 = .ok (.iload_n 2, 1) := by decide +kernel
theorem dX2_hand_80 : decode cX2_hand 80 = .ok (.iaload, 1) := by decide +kernel
theorem dX2_hand_81 : decode cX2_hand 81 = .ok (.invokestatic 172, 3) := by decide +kernel
theorem dX2_hand_84 : decode cX2_hand 84 = .ok (.invokevirtual 168, 3) := by decide +kernel
theorem dX2_hand_87 : decode cX2_hand 87 = .ok (.lreturn, 1) := by decide +kernel
set_option maxRecDepth 20000 in
theorem ggX2_clear_X2_isThere : GoodIn wsX2_clear wsX2_isThere := goodIn_r _ [7, 8, 9, 10, 11, 12, 13, 14, 15, 16, 17, 18, 19, 20, 21, 22] (by decide +kernel) (by decide +kernel)
set_option maxRecDepth 20000 in
theorem gX2_clear_X2_isThere : GoodIn wsX2_clear (wsV RX2 150 RX2 yX2_isThere wsX2_isThere) := goodIn_app (goodIn_of _ (by decide +kernel)) ggX2_clear_X2_isThere
theorem dX2_clear_0 : decode cX2_clear 0 = .ok (.aload_n 0, 1) := by decide +kernel
theorem dX2_clear_1 : decode cX2_clear 1 = .ok (.aload_n 0, 1) := by decide +kernel
theorem dX2_clear_2 : decode cX2_clear 2 = .ok (.iload_n 1, 1) := by decide +kernel
theorem dX2_clear_3 : decode cX2_clear 3 = .ok (.invokevirtual 150, 3) := by decide +kernel
theorem dX2_clear_6 : decode cX2_clear 6 = .ok (.ifCond .eq 7, 3) := by decide +kernel
theorem dX2_clear_9 : decode cX2_clear 9 = .ok (.iconst 0, 1) := by decide +kernel
theorem dX2_clear_10 : decode cX2_clear 10 = .ok (.goto 4, 3) := by decide +kernel
theorem dX2_clear_13 : decode cX2_clear 13 = .ok (.iconst 1, 1) := by decide +kernel
theorem dX2_clear_14 : decode cX2_clear 14 = .ok (.putfield 51, 3) := by decide +kernel
theorem dX2_clear_17 : decode cX2_clear 17 = .ok (.aload_n 0, 1) := by decide +kernel
theorem dX2_clear_18 : decode cX2_clear 18 = .ok (.getfield 51, 3) := by decide +kernel
theorem dX2_clear_21 : decode cX2_clear 21 = .ok (.ifCond .le 5, 3) := by decide +kernel
theorem dX2_clear_24 : decode cX2_clear 24 = .ok (.iconst 0, 1) := by decide +kernel
theorem dX2_clear_25 : decode cX2_clear 25 = .ok (.ireturn, 1) := by decide +kernel
theorem dX2_clear_26 : decode cX2_clear 26 = .ok (.aload_n 0, 1) := by decide +kernel
theorem dX2_clear_27 : decode cX2_clear 27 = .ok (.getfield 30, 3) := by decide +kernel
theorem dX2_clear_30 : decode cX2_clear 30 = .ok (.iload_n 1, 1) := by decide +kernel
theorem dX2_clear_31 : decode cX2_clear 31 = .ok (.baload, 1) := by decide +kernel
theorem dX2_clear_32 : decode cX2_clear 32 = .ok (.istore_n 2, 1) := by decide +kernel
theorem dX2_clear_33 : decode cX2_clear 33 = .ok (.aload_n 0, 1) := by decide +kernel
theorem dX2_clear_34 : decode cX2_clear 34 = .ok (.getfield 30, 3) := by decide +kernel
theorem dX2_clear_37 : decode cX2_clear 37 = .ok (.iload_n 1, 1) := by decide +kernel
theorem dX2_clear_38 : decode cX2_clear 38 = .ok (.iconst 0, 1) := by decide +kernel
theorem dX2_clear_39 : decode cX2_clear 39 = .ok (.bastore, 1) := by decide +kernel
theorem dX2_clear_40 : decode cX2_clear 40 = .ok (.iload_n 2, 1) := by decide +kernel
theorem dX2_clear_41 : decode cX2_clear 41 = .ok (.ireturn, 1) := by decide +kernel
set_option maxRecDepth 20000 in
theorem ggX2_value_X2_isThere : GoodIn wsX2_value wsX2_isThere := goodIn_r _ [7, 8, 9, 10, 11, 12, 13, 14, 15, 16, 17, 18, 19, 20, 21, 22] (by decide +kernel) (by decide +kernel)
set_option maxRecDepth 20000 in
theorem gX2_value_X2_isThere : GoodIn wsX2_value (wsV RX2 150 RX2 yX2_isThere wsX2_isThere) := goodIn_app (goodIn_of _ (by decide +kernel)) ggX2_value_X2_isThere
theorem dX2_value_0 : decode cX2_value 0 = .ok (.aload_n 0, 1) := by decide +kernel
theorem dX2_value_1 : decode cX2_value 1 = .ok (.aload_n 0, 1) := by decide +kernel
theorem dX2_value_2 : decode cX2_value 2 = .ok (.iload_n 1, 1) := by decide +kernel
theorem dX2_value_3 : decode cX2_value 3 = .ok (.invokevirtual 150, 3) := by decide +kernel
theorem dX2_value_6 : decode cX2_value 6 = .ok (.ifCond .eq 7, 3) := by decide +kernel
theorem dX2_value_9 : decode cX2_value 9 = .ok (.iconst 0, 1) := by decide +kernel
theorem dX2_value_10 : decode cX2_value 10 = .ok (.goto 4, 3) := by decide +kernel
theorem dX2_value_13 : decode cX2_value 13 = .ok (.iconst 1, 1) := by decide +kernel
theorem dX2_value_14 : decode cX2_value 14 = .ok (.putfield 51, 3) := by decide +kernel
theorem dX2_value_17 : decode cX2_value 17 = .ok (.aload_n 0, 1) := by decide +kernel
theorem dX2_value_18 : decode cX2_value 18 = .ok (.getfield 51, 3) := by decide +kernel
theorem dX2_value_21 : decode cX2_value 21 = .ok (.ifCond .le 7, 3) := by decide +kernel
theorem dX2_value_24 : decode cX2_value 24 = .ok (.lconst 0, 1) := by decide +kernel
theorem dX2_value_25 : decode cX2_value 25 = .ok (.goto 9, 3) := by decide +kernel
theorem dX2_value_28 : decode cX2_value 28 = .ok (.aload_n 0, 1) := by decide +kernel
theorem dX2_value_29 : decode cX2_value 29 = .ok (.getfield 17, 3) := by decide +kernel
theorem dX2_value_32 : decode cX2_value 32 = .ok (.iload_n 1, 1) := by decide +kernel
theorem dX2_value_33 : decode cX2_value 33 = .ok (.laload, 1) := by decide +kernel
theorem dX2_value_34 : decode cX2_value 34 = .ok (.lreturn, 1) := by decide +kernel
set_option maxRecDepth 20000 in
theorem ggX2_mark_X2_isThere : GoodIn wsX2_mark wsX2_isThere := goodIn_r _ [9, 10, 11, 12, 13, 14, 15, 16, 17, 18, 19, 20, 21, 22, 23, 24] (by decide +kernel) (by decide +kernel)
set_option maxRecDepth 20000 in
theorem gX2_mark_X2_isThere : GoodIn wsX2_mark (wsV RX2 150 RX2 yX2_isThere wsX2_isThere) := goodIn_app (goodIn_of _ (by decide +kernel)) ggX2_mark_X2_isThere
theorem dX2_mark_0 : decode cX2_mark 0 = .ok (.aload_n 0, 1) := by decide +kernel
theorem dX2_mark_1 : decode cX2_mark 1 = .ok (.aload_n 0, 1) := by decide +kernel
theorem dX2_mark_2 : decode cX2_mark 2 = .ok (.iload_n 1, 1) := by decide +kernel
theorem dX2_mark_3 : decode cX2_mark 3 = .ok (.invokevirtual 150, 3) := by decide +kernel
theorem dX2_mark_6 : decode cX2_mark 6 = .ok (.ifCond .ne 7, 3) := by decide +kernel
theorem dX2_mark_9 : decode cX2_mark 9 = .ok (.iconst 1, 1) := by decide +kernel
theorem dX2_mark_10 : decode cX2_mark 10 = .ok (.goto 17, 3) := by decide +kernel
theorem dX2_mark_13 : decode cX2_mark 13 = .ok (.aload_n 0, 1) := by decide +kernel
theorem dX2_mark_14 : decode cX2_mark 14 = .ok (.getfield 30, 3) := by decide +kernel
theorem dX2_mark_17 : decode cX2_mark 17 = .ok (.iload_n 1, 1) := by decide +kernel
theorem dX2_mark_18 : decode cX2_mark 18 = .ok (.baload, 1) := by decide +kernel
theorem dX2_mark_19 : decode cX2_mark 19 = .ok (.ifCond .ne 7, 3) := by decide +kernel
theorem dX2_mark_22 : decode cX2_mark 22 = .ok (.iconst 2, 1) := by decide +kernel
theorem dX2_mark_23 : decode cX2_mark 23 = .ok (.goto 4, 3) := by decide +kernel
theorem dX2_mark_26 : decode cX2_mark 26 = .ok (.iconst 0, 1) := by decide +kernel
theorem dX2_mark_27 : decode cX2_mark 27 = .ok (.putfield 51, 3) := by decide +kernel
theorem dX2_mark_30 : decode cX2_mark 30 = .ok (.aload_n 0, 1) := by decide +kernel
theorem dX2_mark_31 : decode cX2_mark 31 = .ok (.getfield 51, 3) := by decide +kernel
theorem dX2_mark_34 : decode cX2_mark 34 = .ok (.ifCond .le 7, 3) := by decide +kernel
theorem dX2_mark_37 : decode cX2_mark 37 = .ok (.lconst 0, 1) := by decide +kernel
theorem dX2_mark_38 : decode cX2_mark 38 = .ok (.goto 22, 3) := by decide +kernel
theorem dX2_mark_41 : decode cX2_mark 41 = .ok (.iload_n 2, 1) := by decide +kernel
theorem dX2_mark_42 : decode cX2_mark 42 = .ok (.ifCond .eq 12, 3) := by decide +kernel
theorem dX2_mark_45 : decode cX2_mark 45 = .ok (.aload_n 0, 1) := by decide +kernel
theorem dX2_mark_46 : decode cX2_mark 46 = .ok (.getfield 33, 3) := by decide +kernel
theorem dX2_mark_49 : decode cX2_mark 49 = .ok (.iload_n 1, 1) := by decide +kernel
theorem dX2_mark_50 : decode cX2_mark 50 = .ok (.laload, 1) := by decide +kernel
theorem dX2_mark_51 : decode cX2_mark 51 = .ok (.goto 9, 3) := by decide +kernel
theorem dX2_mark_54 : decode cX2_mark 54 = .ok (.aload_n 0, 1) := by decide +kernel
theorem dX2_mark_55 : decode cX2_mark 55 = .ok (.getfield 36, 3) := by decide +kernel
theorem dX2_mark_58 : decode cX2_mark 58 = .ok (.iload_n 1, 1) := by decide +kernel
theorem dX2_mark_59 : decode cX2_mark 59 = .ok (.laload, 1) := by decide +kernel
theorem dX2_mark_60 : decode cX2_mark 60 = .ok (.lreturn, 1) := by decide +kernel
set_option maxRecDepth 20000 in
theorem ggX2_about_X2_isThere : GoodIn wsX2_about wsX2_isThere := goodIn_r _ [11, 12, 23, 24, 25, 26, 27, 28, 29, 30, 31, 32, 33, 34, 35, 36] (by decide +kernel) (by decide +kernel)
set_option maxRecDepth 20000 in
theorem gX2_about_X2_isThere : GoodIn wsX2_about (wsV RX2 150 RX2 yX2_isThere wsX2_isThere) := goodIn_app (goodIn_of _ (by decide +kernel)) ggX2_about_X2_isThere
set_option maxRecDepth 20000 in
theorem ggX2_about_X2_takers : GoodIn wsX2_about wsX2_takers := goodIn_r _ [16, 12, 17, 18, 19, 10, 20, 3, 21, 22, 23, 24, 25, 26, 27, 28, 29, 30, 31, 32, 33, 34, 35, 36] (by decide +kernel) (by decide +kernel)
set_option maxRecDepth 20000 in
theorem gX2_about_X2_takers : GoodIn wsX2_about (wsV RX2 139 RX2 yX2_takers wsX2_takers) := goodIn_app (goodIn_of _ (by decide +kernel)) ggX2_about_X2_takers
theorem dX2_about_0 : decode cX2_about 0 = .ok (.aload_n 0, 1) := by decide +kernel
theorem dX2_about_1 : decode cX2_about 1 = .ok (.aload_n 0, 1) := by decide +kernel
theorem dX2_about_2 : decode cX2_about 2 = .ok (.iload_n 1, 1) := by decide +kernel
theorem dX2_about_3 : decode cX2_about 3 = .ok (.invokevirtual 150, 3) := by decide +kernel
theorem dX2_about_6 : decode cX2_about 6 = .ok (.ifCond .ne 7, 3) := by decide +kernel
theorem dX2_about_9 : decode cX2_about 9 = .ok (.iconst 1, 1) := by decide +kernel
theorem dX2_about_10 : decode cX2_about 10 = .ok (.goto 17, 3) := by decide +kernel
theorem dX2_about_13 : decode cX2_about 13 = .ok (.iload_n 2, 1) := by decide +kernel
theorem dX2_about_14 : decode cX2_about 14 = .ok (.ifCond .lt 8, 3) := by decide +kernel
theorem dX2_about_17 : decode cX2_about 17 = .ok (.iload_n 2, 1) := by decide +kernel
theorem dX2_about_18 : decode cX2_about 18 = .ok (.iconst 5, 1) := by decide +kernel
theorem dX2_about_19 : decode cX2_about 19 = .ok (.if_icmp .le 7, 3) := by decide +kernel
theorem dX2_about_22 : decode cX2_about 22 = .ok (.iconst 2, 1) := by decide +kernel
theorem dX2_about_23 : decode cX2_about 23 = .ok (.goto 4, 3) := by decide +kernel
theorem dX2_about_26 : decode cX2_about 26 = .ok (.iconst 0, 1) := by decide +kernel
theorem dX2_about_27 : decode cX2_about 27 = .ok (.putfield 51, 3) := by decide +kernel
theorem dX2_about_30 : decode cX2_about 30 = .ok (.aload_n 0, 1) := by decide +kernel
theorem dX2_about_31 : decode cX2_about 31 = .ok (.getfield 51, 3) := by decide +kernel
theorem dX2_about_34 : decode cX2_about 34 = .ok (.ifCond .le 5, 3) := by decide +kernel
theorem dX2_about_37 : decode cX2_about 37 = .ok (.iconst 0, 1) := by decide +kernel
theorem dX2_about_38 : decode cX2_about 38 = .ok (.ireturn, 1) := by decide +kernel
theorem dX2_about_39 : decode cX2_about 39 = .ok (.iload_n 2, 1) := by decide +kernel
theorem dX2_about_40 : decode cX2_about 40 = .ok (.tableswitch 81 0 4 #[36, 43, 50, 57, 64], 36) := by decide +kernel
theorem dX2_about_76 : decode cX2_about 76 = .ok (.aload_n 0, 1) := by decide +kernel
theorem dX2_about_77 : decode cX2_about 77 = .ok (.getfield 13, 3) := by decide +kernel
theorem dX2_about_80 : decode cX2_about 80 = .ok (.iload_n 1, 1) := by decide +kernel
theorem dX2_about_81 : decode cX2_about 81 = .ok (.iaload, 1) := by decide +kernel
theorem dX2_about_82 : decode cX2_about 82 = .ok (.ireturn, 1) := by decide +kernel
theorem dX2_about_83 : decode cX2_about 83 = .ok (.aload_n 0, 1) := by decide +kernel
theorem dX2_about_84 : decode cX2_about 84 = .ok (.getfield 21, 3) := by decide +kernel
theorem dX2_about_87 : decode cX2_about 87 = .ok (.iload_n 1, 1) := by decide +kernel
theorem dX2_about_88 : decode cX2_about 88 = .ok (.iaload, 1) := by decide +kernel
theorem dX2_about_89 : decode cX2_about 89 = .ok (.ireturn, 1) := by decide +kernel
theorem dX2_about_90 : decode cX2_about 90 = .ok (.aload_n 0, 1) := by decide +kernel
theorem dX2_about_91 : decode cX2_about 91 = .ok (.getfield 24, 3) := by decide +kernel
theorem dX2_about_94 : decode cX2_about 94 = .ok (.iload_n 1, 1) := by decide +kernel
theorem dX2_about_95 : decode cX2_about 95 = .ok (.iaload, 1) := by decide +kernel
theorem dX2_about_96 : decode cX2_about 96 = .ok (.ireturn, 1) := by decide +kernel
theorem dX2_about_97 : decode cX2_about 97 = .ok (.aload_n 0, 1) := by decide +kernel
theorem dX2_about_98 : decode cX2_about 98 = .ok (.getfield 27, 3) := by decide +kernel
theorem dX2_about_101 : decode cX2_about 101 = .ok (.iload_n 1, 1) := by decide +kernel
theorem dX2_about_102 : decode cX2_about 102 = .ok (.iaload, 1) := by decide +kernel
theorem dX2_about_103 : decode cX2_about 103 = .ok (.ireturn, 1) := by decide +kernel
theorem dX2_about_104 : decode cX2_about 104 = .ok (.aload_n 0, 1) := by decide +kernel
theorem dX2_about_105 : decode cX2_about 105 = .ok (.getfield 17, 3) := by decide +kernel
theorem dX2_about_108 : decode cX2_about 108 = .ok (.iload_n 1, 1) := by decide +kernel
theorem dX2_about_109 : decode cX2_about 109 = .ok (.laload, 1) := by decide +kernel
theorem dX2_about_110 : decode cX2_about 110 = .ok (.lconst 0, 1) := by decide +kernel
theorem dX2_about_111 : decode cX2_about 111 = .ok (.lcmp, 1) := by decide +kernel
theorem dX2_about_112 : decode cX2_about 112 = .ok (.ifCond .ge 7, 3) := by decide +kernel
theorem dX2_about_115 : decode cX2_about 115 = .ok (.iconst 1, 1) := by decide +kernel
theorem dX2_about_116 : decode cX2_about 116 = .ok (.goto 4, 3) := by decide +kernel
theorem dX2_about_119 : decode cX2_about 119 = .ok (.iconst 0, 1) := by decide +kernel
theorem dX2_about_120 : decode cX2_about 120 = .ok (.ireturn, 1) := by decide +kernel
theorem dX2_about_121 : decode cX2_about 121 = .ok (.aload_n 0, 1) := by decide +kernel
theorem dX2_about_122 : decode cX2_about 122 = .ok (.iload_n 1, 1) := by decide +kernel
theorem dX2_about_123 : decode cX2_about 123 = .ok (.invokevirtual 139, 3) := by decide +kernel
theorem dX2_about_126 : decode cX2_about 126 = .ok (.ireturn, 1) := by decide +kernel
set_option maxRecDepth 20000 in
theorem ggX2_stepAt_X2_isThere : GoodIn wsX2_stepAt wsX2_isThere := goodIn_r _ [10, 11, 12, 13, 14, 15, 16, 17, 18, 19, 20, 21, 22, 23, 24, 25] (by decide +kernel) (by decide +kernel)
set_option maxRecDepth 20000 in
theorem gX2_stepAt_X2_isThere : GoodIn wsX2_stepAt (wsV RX2 150 RX2 yX2_isThere wsX2_isThere) := goodIn_app (goodIn_of _ (by decide +kernel)) ggX2_stepAt_X2_isThere
theorem dX2_stepAt_0 : decode cX2_stepAt 0 = .ok (.aload_n 0, 1) := by decide +kernel
theorem dX2_stepAt_1 : decode cX2_stepAt 1 = .ok (.aload_n 0, 1) := by decide +kernel
theorem dX2_stepAt_2 : decode cX2_stepAt 2 = .ok (.iload_n 1, 1) := by decide +kernel
theorem dX2_stepAt_3 : decode cX2_stepAt 3 = .ok (.invokevirtual 150, 3) := by decide +kernel
theorem dX2_stepAt_6 : decode cX2_stepAt 6 = .ok (.ifCond .eq 17, 3) := by decide +kernel
theorem dX2_stepAt_9 : decode cX2_stepAt 9 = .ok (.iload_n 2, 1) := by decide +kernel
theorem dX2_stepAt_10 : decode cX2_stepAt 10 = .ok (.ifCond .lt 13, 3) := by decide +kernel
theorem dX2_stepAt_13 : decode cX2_stepAt 13 = .ok (.iload_n 2, 1) := by decide +kernel
theorem dX2_stepAt_14 : decode cX2_stepAt 14 = .ok (.aload_n 0, 1) := by decide +kernel
theorem dX2_stepAt_15 : decode cX2_stepAt 15 = .ok (.getfield 21, 3) := by decide +kernel
theorem dX2_stepAt_18 : decode cX2_stepAt 18 = .ok (.iload_n 1, 1) := by decide +kernel
theorem dX2_stepAt_19 : decode cX2_stepAt 19 = .ok (.iaload, 1) := by decide +kernel
theorem dX2_stepAt_20 : decode cX2_stepAt 20 = .ok (.if_icmp .lt 7, 3) := by decide +kernel
theorem dX2_stepAt_23 : decode cX2_stepAt 23 = .ok (.iconst 1, 1) := by decide +kernel
theorem dX2_stepAt_24 : decode cX2_stepAt 24 = .ok (.goto 17, 3) := by decide +kernel
theorem dX2_stepAt_27 : decode cX2_stepAt 27 = .ok (.iload_n 3, 1) := by decide +kernel
theorem dX2_stepAt_28 : decode cX2_stepAt 28 = .ok (.ifCond .lt 8, 3) := by decide +kernel
theorem dX2_stepAt_31 : decode cX2_stepAt 31 = .ok (.iload_n 3, 1) := by decide +kernel
theorem dX2_stepAt_32 : decode cX2_stepAt 32 = .ok (.iconst 2, 1) := by decide +kernel
theorem dX2_stepAt_33 : decode cX2_stepAt 33 = .ok (.if_icmp .le 7, 3) := by decide +kernel
theorem dX2_stepAt_36 : decode cX2_stepAt 36 = .ok (.iconst 2, 1) := by decide +kernel
theorem dX2_stepAt_37 : decode cX2_stepAt 37 = .ok (.goto 4, 3) := by decide +kernel
theorem dX2_stepAt_40 : decode cX2_stepAt 40 = .ok (.iconst 0, 1) := by decide +kernel
theorem dX2_stepAt_41 : decode cX2_stepAt 41 = .ok (.putfield 51, 3) := by decide +kernel
theorem dX2_stepAt_44 : decode cX2_stepAt 44 = .ok (.aload_n 0, 1) := by decide +kernel
theorem dX2_stepAt_45 : decode cX2_stepAt 45 = .ok (.getfield 51, 3) := by decide +kernel
theorem dX2_stepAt_48 : decode cX2_stepAt 48 = .ok (.ifCond .le 5, 3) := by decide +kernel
theorem dX2_stepAt_51 : decode cX2_stepAt 51 = .ok (.iconst 0, 1) := by decide +kernel
theorem dX2_stepAt_52 : decode cX2_stepAt 52 = .ok (.ireturn, 1) := by decide +kernel
theorem dX2_stepAt_53 : decode cX2_stepAt 53 = .ok (.bipush 8, 2) := by decide +kernel
theorem dX2_stepAt_55 : decode cX2_stepAt 55 = .ok (.iload_n 1, 1) := by decide +kernel
theorem dX2_stepAt_56 : decode cX2_stepAt 56 = .ok (.imul, 1) := by decide +kernel
theorem dX2_stepAt_57 : decode cX2_stepAt 57 = .ok (.iload_n 2, 1) := by decide +kernel
theorem dX2_stepAt_58 : decode cX2_stepAt 58 = .ok (.iadd, 1) := by decide +kernel
theorem dX2_stepAt_59 : decode cX2_stepAt 59 = .ok (.istore 4, 2) := by decide +kernel
theorem dX2_stepAt_61 : decode cX2_stepAt 61 = .ok (.iload_n 3, 1) := by decide +kernel
theorem dX2_stepAt_62 : decode cX2_stepAt 62 = .ok (.ifCond .ne 13, 3) := by decide +kernel
theorem dX2_stepAt_65 : decode cX2_stepAt 65 = .ok (.aload_n 0, 1) := by decide +kernel
theorem dX2_stepAt_66 : decode cX2_stepAt 66 = .ok (.getfield 39, 3) := by decide +kernel
theorem dX2_stepAt_69 : decode cX2_stepAt 69 = .ok (.iload 4, 2) := by decide +kernel
theorem dX2_stepAt_71 : decode cX2_stepAt 71 = .ok (.iaload, 1) := by decide +kernel
theorem dX2_stepAt_72 : decode cX2_stepAt 72 = .ok (.goto 25, 3) := by decide +kernel
theorem dX2_stepAt_75 : decode cX2_stepAt 75 = .ok (.iload_n 3, 1) := by decide +kernel
theorem dX2_stepAt_76 : decode cX2_stepAt 76 = .ok (.iconst 1, 1) := by decide +kernel
theorem dX2_stepAt_77 : decode cX2_stepAt 77 = .ok (.if_icmp .ne 13, 3) := by decide +kernel
theorem dX2_stepAt_80 : decode cX2_stepAt 80 = .ok (.aload_n 0, 1) := by decide +kernel
theorem dX2_stepAt_81 : decode cX2_stepAt 81 = .ok (.getfield 42, 3) := by decide +kernel
theorem dX2_stepAt_84 : decode cX2_stepAt 84 = .ok (.iload 4, 2) := by decide +kernel
theorem dX2_stepAt_86 : decode cX2_stepAt 86 = .ok (.iaload, 1) := by decide +kernel
theorem dX2_stepAt_87 : decode cX2_stepAt 87 = .ok (.goto 10, 3) := by decide +kernel
theorem dX2_stepAt_90 : decode cX2_stepAt 90 = .ok (.aload_n 0, 1) := by decide +kernel
theorem dX2_stepAt_91 : decode cX2_stepAt 91 = .ok (.getfield 48, 3) := by decide +kernel
theorem dX2_stepAt_94 : decode cX2_stepAt 94 = .ok (.iload 4, 2) := by decide +kernel
theorem dX2_stepAt_96 : decode cX2_stepAt 96 = .ok (.iaload, 1) := by decide +kernel
theorem dX2_stepAt_97 : decode cX2_stepAt 97 = .ok (.ireturn, 1) := by decide +kernel
set_option maxRecDepth 20000 in
theorem ggX2_rank_X2_isThere : GoodIn wsX2_rank wsX2_isThere := goodIn_r _ [9, 2, 18, 19, 20, 21, 22, 23, 24, 25, 26, 27, 28, 29, 30, 31] (by decide +kernel) (by decide +kernel)
set_option maxRecDepth 20000 in
theorem gX2_rank_X2_isThere : GoodIn wsX2_rank (wsV RX2 150 RX2 yX2_isThere wsX2_isThere) := goodIn_app (goodIn_of _ (by decide +kernel)) ggX2_rank_X2_isThere
set_option maxRecDepth 20000 in
theorem ggX2_rank_X2_isAbove : GoodIn wsX2_rank wsX2_isAbove := goodIn_r _ [12, 13, 14, 8, 15, 16, 17] (by decide +kernel) (by decide +kernel)
set_option maxRecDepth 20000 in
theorem gX2_rank_X2_isAbove : GoodIn wsX2_rank (va_wsS RX2 95 yX2_isAbove wsX2_isAbove) := goodIn_app (goodIn_of _ (by decide +kernel)) ggX2_rank_X2_isAbove
theorem dX2_rank_0 : decode cX2_rank 0 = .ok (.aload_n 0, 1) := by decide +kernel
theorem dX2_rank_1 : decode cX2_rank 1 = .ok (.aload_n 0, 1) := by decide +kernel
theorem dX2_rank_2 : decode cX2_rank 2 = .ok (.iload_n 1, 1) := by decide +kernel
theorem dX2_rank_3 : decode cX2_rank 3 = .ok (.invokevirtual 150, 3) := by decide +kernel
theorem dX2_rank_6 : decode cX2_rank 6 = .ok (.ifCond .eq 7, 3) := by decide +kernel
theorem dX2_rank_9 : decode cX2_rank 9 = .ok (.iconst 0, 1) := by decide +kernel
theorem dX2_rank_10 : decode cX2_rank 10 = .ok (.goto 4, 3) := by decide +kernel
theorem dX2_rank_13 : decode cX2_rank 13 = .ok (.iconst 1, 1) := by decide +kernel
theorem dX2_rank_14 : decode cX2_rank 14 = .ok (.putfield 51, 3) := by decide +kernel
theorem dX2_rank_17 : decode cX2_rank 17 = .ok (.aload_n 0, 1) := by decide +kernel
theorem dX2_rank_18 : decode cX2_rank 18 = .ok (.getfield 51, 3) := by decide +kernel
theorem dX2_rank_21 : decode cX2_rank 21 = .ok (.ifCond .le 5, 3) := by decide +kernel
theorem dX2_rank_24 : decode cX2_rank 24 = .ok (.iconst 0, 1) := by decide +kernel
theorem dX2_rank_25 : decode cX2_rank 25 = .ok (.ireturn, 1) := by decide +kernel
theorem dX2_rank_26 : decode cX2_rank 26 = .ok (.iconst 0, 1) := by decide +kernel
theorem dX2_rank_27 : decode cX2_rank 27 = .ok (.istore_n 2, 1) := by decide +kernel
theorem dX2_rank_28 : decode cX2_rank 28 = .ok (.iconst 0, 1) := by decide +kernel
theorem dX2_rank_29 : decode cX2_rank 29 = .ok (.istore_n 3, 1) := by decide +kernel
theorem dX2_rank_30 : decode cX2_rank 30 = .ok (.iload_n 3, 1) := by decide +kernel
theorem dX2_rank_31 : decode cX2_rank 31 = .ok (.bipush 12, 2) := by decide +kernel
theorem dX2_rank_33 : decode cX2_rank 33 = .ok (.if_icmp .ge 60, 3) := by decide +kernel
theorem dX2_rank_36 : decode cX2_rank 36 = .ok (.aload_n 0, 1) := by decide +kernel
theorem dX2_rank_37 : decode cX2_rank 37 = .ok (.getfield 7, 3) := by decide +kernel
theorem dX2_rank_40 : decode cX2_rank 40 = .ok (.iload_n 3, 1) := by decide +kernel
theorem dX2_rank_41 : decode cX2_rank 41 = .ok (.baload, 1) := by decide +kernel
theorem dX2_rank_42 : decode cX2_rank 42 = .ok (.ifCond .eq 45, 3) := by decide +kernel
theorem dX2_rank_45 : decode cX2_rank 45 = .ok (.aload_n 0, 1) := by decide +kernel
theorem dX2_rank_46 : decode cX2_rank 46 = .ok (.getfield 13, 3) := by decide +kernel
theorem dX2_rank_49 : decode cX2_rank 49 = .ok (.iload_n 3, 1) := by decide +kernel
theorem dX2_rank_50 : decode cX2_rank 50 = .ok (.iaload, 1) := by decide +kernel
theorem dX2_rank_51 : decode cX2_rank 51 = .ok (.aload_n 0, 1) := by decide +kernel
theorem dX2_rank_52 : decode cX2_rank 52 = .ok (.getfield 13, 3) := by decide +kernel
theorem dX2_rank_55 : decode cX2_rank 55 = .ok (.iload_n 1, 1) := by decide +kernel
theorem dX2_rank_56 : decode cX2_rank 56 = .ok (.iaload, 1) := by decide +kernel
theorem dX2_rank_57 : decode cX2_rank 57 = .ok (.if_icmp .ne 30, 3) := by decide +kernel
theorem dX2_rank_60 : decode cX2_rank 60 = .ok (.aload_n 0, 1) := by decide +kernel
theorem dX2_rank_61 : decode cX2_rank 61 = .ok (.getfield 17, 3) := by decide +kernel
theorem dX2_rank_64 : decode cX2_rank 64 = .ok (.iload_n 3, 1) := by decide +kernel
theorem dX2_rank_65 : decode cX2_rank 65 = .ok (.laload, 1) := by decide +kernel
theorem dX2_rank_66 : decode cX2_rank 66 = .ok (.aload_n 0, 1) := by decide +kernel
theorem dX2_rank_67 : decode cX2_rank 67 = .ok (.getfield 17, 3) := by decide +kernel
theorem dX2_rank_70 : decode cX2_rank 70 = .ok (.iload_n 1, 1) := by decide +kernel
theorem dX2_rank_71 : decode cX2_rank 71 = .ok (.laload, 1) := by decide +kernel
theorem dX2_rank_72 : decode cX2_rank 72 = .ok (.aload_n 0, 1) := by decide +kernel
theorem dX2_rank_73 : decode cX2_rank 73 = .ok (.getfield 13, 3) := by decide +kernel
theorem dX2_rank_76 : decode cX2_rank 76 = .ok (.iload_n 1, 1) := by decide +kernel
theorem dX2_rank_77 : decode cX2_rank 77 = .ok (.iaload, 1) := by decide +kernel
theorem dX2_rank_78 : decode cX2_rank 78 = .ok (.invokestatic 95, 3) := by decide +kernel
theorem dX2_rank_81 : decode cX2_rank 81 = .ok (.ifCond .ne 6, 3) := by decide +kernel
theorem dX2_rank_84 : decode cX2_rank 84 = .ok (.iinc 2 1, 3) := by decide +kernel
theorem dX2_rank_87 : decode cX2_rank 87 = .ok (.iinc 3 1, 3) := by decide +kernel
theorem dX2_rank_90 : decode cX2_rank 90 = .ok (.goto (-60), 3) := by decide +kernel
theorem dX2_rank_93 : decode cX2_rank 93 = .ok (.iload_n 2, 1) := by decide +kernel
theorem dX2_rank_94 : decode cX2_rank 94 = .ok (.ireturn, 1) := by decide +kernel
set_option maxRecDepth 20000 in
theorem ggX2_most_X2_isAbove : GoodIn wsX2_most wsX2_isAbove := goodIn_r _ [8, 9, 10, 7, 11, 12, 13] (by decide +kernel) (by decide +kernel)
set_option maxRecDepth 20000 in
theorem gX2_most_X2_isAbove : GoodIn wsX2_most (va_wsS RX2 95 yX2_isAbove wsX2_isAbove) := goodIn_app (goodIn_of _ (by decide +kernel)) ggX2_most_X2_isAbove
theorem dX2_most_0 : decode cX2_most 0 = .ok (.aload_n 0, 1) := by decide +kernel
theorem dX2_most_1 : decode cX2_most 1 = .ok (.iload_n 1, 1) := by decide +kernel
theorem dX2_most_2 : decode cX2_most 2 = .ok (.ifCond .lt 8, 3) := by decide +kernel
theorem dX2_most_5 : decode cX2_most 5 = .ok (.iload_n 1, 1) := by decide +kernel
theorem dX2_most_6 : decode cX2_most 6 = .ok (.iconst 3, 1) := by decide +kernel
theorem dX2_most_7 : decode cX2_most 7 = .ok (.if_icmp .le 7, 3) := by decide +kernel
theorem dX2_most_10 : decode cX2_most 10 = .ok (.iconst 1, 1) := by decide +kernel
theorem dX2_most_11 : decode cX2_most 11 = .ok (.goto 4, 3) := by decide +kernel
theorem dX2_most_14 : decode cX2_most 14 = .ok (.iconst 0, 1) := by decide +kernel
theorem dX2_most_15 : decode cX2_most 15 = .ok (.putfield 51, 3) := by decide +kernel
theorem dX2_most_18 : decode cX2_most 18 = .ok (.aload_n 0, 1) := by decide +kernel
theorem dX2_most_19 : decode cX2_most 19 = .ok (.getfield 51, 3) := by decide +kernel
theorem dX2_most_22 : decode cX2_most 22 = .ok (.ifCond .le 5, 3) := by decide +kernel
theorem dX2_most_25 : decode cX2_most 25 = .ok (.lconst 0, 1) := by decide +kernel
theorem dX2_most_26 : decode cX2_most 26 = .ok (.lreturn, 1) := by decide +kernel
theorem dX2_most_27 : decode cX2_most 27 = .ok (.iconst (-1), 1) := by decide +kernel
theorem dX2_most_28 : decode cX2_most 28 = .ok (.istore_n 3, 1) := by decide +kernel
theorem dX2_most_29 : decode cX2_most 29 = .ok (.iconst 0, 1) := by decide +kernel
theorem dX2_most_30 : decode cX2_most 30 = .ok (.istore 4, 2) := by decide +kernel
theorem dX2_most_32 : decode cX2_most 32 = .ok (.iload 4, 2) := by decide +kernel
theorem dX2_most_34 : decode cX2_most 34 = .ok (.bipush 12, 2) := by decide +kernel
theorem dX2_most_36 : decode cX2_most 36 = .ok (.if_icmp .ge 103, 3) := by decide +kernel
theorem dX2_most_39 : decode cX2_most 39 = .ok (.aload_n 0, 1) := by decide +kernel
theorem dX2_most_40 : decode cX2_most 40 = .ok (.getfield 7, 3) := by decide +kernel
theorem dX2_most_43 : decode cX2_most 43 = .ok (.iload 4, 2) := by decide +kernel
theorem dX2_most_45 : decode cX2_most 45 = .ok (.baload, 1) := by decide +kernel
theorem dX2_most_46 : decode cX2_most 46 = .ok (.ifCond .eq 87, 3) := by decide +kernel
theorem dX2_most_49 : decode cX2_most 49 = .ok (.aload_n 0, 1) := by decide +kernel
theorem dX2_most_50 : decode cX2_most 50 = .ok (.getfield 13, 3) := by decide +kernel
theorem dX2_most_53 : decode cX2_most 53 = .ok (.iload 4, 2) := by decide +kernel
theorem dX2_most_55 : decode cX2_most 55 = .ok (.iaload, 1) := by decide +kernel
theorem dX2_most_56 : decode cX2_most 56 = .ok (.iload_n 1, 1) := by decide +kernel
theorem dX2_most_57 : decode cX2_most 57 = .ok (.if_icmp .eq 6, 3) := by decide +kernel
theorem dX2_most_60 : decode cX2_most 60 = .ok (.goto 73, 3) := by decide +kernel
theorem dX2_most_63 : decode cX2_most 63 = .ok (.iload_n 3, 1) := by decide +kernel
theorem dX2_most_64 : decode cX2_most 64 = .ok (.ifCond .lt 50, 3) := by decide +kernel
theorem dX2_most_67 : decode cX2_most 67 = .ok (.iload_n 2, 1) := by decide +kernel
theorem dX2_most_68 : decode cX2_most 68 = .ok (.ifCond .eq 26, 3) := by decide +kernel
theorem dX2_most_71 : decode cX2_most 71 = .ok (.aload_n 0, 1) := by decide +kernel
theorem dX2_most_72 : decode cX2_most 72 = .ok (.getfield 17, 3) := by decide +kernel
theorem dX2_most_75 : decode cX2_most 75 = .ok (.iload 4, 2) := by decide +kernel
theorem dX2_most_77 : decode cX2_most 77 = .ok (.laload, 1) := by decide +kernel
theorem dX2_most_78 : decode cX2_most 78 = .ok (.aload_n 0, 1) := by decide +kernel
theorem dX2_most_79 : decode cX2_most 79 = .ok (.getfield 17, 3) := by decide +kernel
theorem dX2_most_82 : decode cX2_most 82 = .ok (.iload_n 3, 1) := by decide +kernel
theorem dX2_most_83 : decode cX2_most 83 = .ok (.laload, 1) := by decide +kernel
theorem dX2_most_84 : decode cX2_most 84 = .ok (.iload_n 1, 1) := by decide +kernel
theorem dX2_most_85 : decode cX2_most 85 = .ok (.invokestatic 95, 3) := by decide +kernel
theorem dX2_most_88 : decode cX2_most 88 = .ok (.ifCond .eq 30, 3) := by decide +kernel
theorem dX2_most_91 : decode cX2_most 91 = .ok (.goto 23, 3) := by decide +kernel
theorem dX2_most_94 : decode cX2_most 94 = .ok (.aload_n 0, 1) := by decide +kernel
theorem dX2_most_95 : decode cX2_most 95 = .ok (.getfield 17, 3) := by decide +kernel
theorem dX2_most_98 : decode cX2_most 98 = .ok (.iload_n 3, 1) := by decide +kernel
theorem dX2_most_99 : decode cX2_most 99 = .ok (.laload, 1) := by decide +kernel
theorem dX2_most_100 : decode cX2_most 100 = .ok (.aload_n 0, 1) := by decide +kernel
theorem dX2_most_101 : decode cX2_most 101 = .ok (.getfield 17, 3) := by decide +kernel
theorem dX2_most_104 : decode cX2_most 104 = .ok (.iload 4, 2) := by decide +kernel
theorem dX2_most_106 : decode cX2_most 106 = .ok (.laload, 1) := by decide +kernel
theorem dX2_most_107 : decode cX2_most 107 = .ok (.iload_n 1, 1) := by decide +kernel
theorem dX2_most_108 : decode cX2_most 108 = .ok (.invokestatic 95, 3) := by decide +kernel
theorem dX2_most_111 : decode cX2_most 111 = .ok (.ifCond .eq 7, 3) := by decide +kernel
theorem dX2_most_114 : decode cX2_most 114 = .ok (.iconst 1, 1) := by decide +kernel
theorem dX2_most_115 : decode cX2_most 115 = .ok (.goto 4, 3) := by decide +kernel
theorem dX2_most_118 : decode cX2_most 118 = .ok (.iconst 0, 1) := by decide +kernel
theorem dX2_most_119 : decode cX2_most 119 = .ok (.istore 5, 2) := by decide +kernel
theorem dX2_most_121 : decode cX2_most 121 = .ok (.iload 5, 2) := by decide +kernel
theorem dX2_most_123 : decode cX2_most 123 = .ok (.ifCond .eq 8, 3) := by decide +kernel
theorem dX2_most_126 : decode cX2_most 126 = .ok (.iload 4, 2) := by decide +kernel
theorem dX2_most_128 : decode cX2_most 128 = .ok (.goto 4, 3) := by decide +kernel
theorem dX2_most_131 : decode cX2_most 131 = .ok (.iload_n 3, 1) := by decide +kernel
theorem dX2_most_132 : decode cX2_most 132 = .ok (.istore_n 3, 1) := by decide +kernel
theorem dX2_most_133 : decode cX2_most 133 = .ok (.iinc 4 1, 3) := by decide +kernel
theorem dX2_most_136 : decode cX2_most 136 = .ok (.goto (-104), 3) := by decide +kernel
theorem dX2_most_139 : decode cX2_most 139 = .ok (.aload_n 0, 1) := by decide +kernel
theorem dX2_most_140 : decode cX2_most 140 = .ok (.iload_n 3, 1) := by decide +kernel
theorem dX2_most_141 : decode cX2_most 141 = .ok (.ifCond .ge 7, 3) := by decide +kernel
theorem dX2_most_144 : decode cX2_most 144 = .ok (.iconst 2, 1) := by decide +kernel
theorem dX2_most_145 : decode cX2_most 145 = .ok (.goto 4, 3) := by decide +kernel
theorem dX2_most_148 : decode cX2_most 148 = .ok (.iconst 0, 1) := by decide +kernel
theorem dX2_most_149 : decode cX2_most 149 = .ok (.putfield 51, 3) := by decide +kernel
theorem dX2_most_152 : decode cX2_most 152 = .ok (.iload_n 3, 1) := by decide +kernel
theorem dX2_most_153 : decode cX2_most 153 = .ok (.ifCond .ge 7, 3) := by decide +kernel
theorem dX2_most_156 : decode cX2_most 156 = .ok (.lconst 0, 1) := by decide +kernel
theorem dX2_most_157 : decode cX2_most 157 = .ok (.goto 9, 3) := by decide +kernel
theorem dX2_most_160 : decode cX2_most 160 = .ok (.aload_n 0, 1) := by decide +kernel
theorem dX2_most_161 : decode cX2_most 161 = .ok (.getfield 17, 3) := by decide +kernel
theorem dX2_most_164 : decode cX2_most 164 = .ok (.iload_n 3, 1) := by decide +kernel
theorem dX2_most_165 : decode cX2_most 165 = .ok (.laload, 1) := by decide +kernel
theorem dX2_most_166 : decode cX2_most 166 = .ok (.lreturn, 1) := by decide +kernel
theorem dX2_gauges_0 : decode cX2_gauges 0 = .ok (.aload_n 0, 1) := by decide +kernel
theorem dX2_gauges_1 : decode cX2_gauges 1 = .ok (.iconst 0, 1) := by decide +kernel
theorem dX2_gauges_2 : decode cX2_gauges 2 = .ok (.putfield 51, 3) := by decide +kernel
theorem dX2_gauges_5 : decode cX2_gauges 5 = .ok (.iconst 0, 1) := by decide +kernel
theorem dX2_gauges_6 : decode cX2_gauges 6 = .ok (.istore_n 1, 1) := by decide +kernel
theorem dX2_gauges_7 : decode cX2_gauges 7 = .ok (.iconst 0, 1) := by decide +kernel
theorem dX2_gauges_8 : decode cX2_gauges 8 = .ok (.istore_n 2, 1) := by decide +kernel
theorem dX2_gauges_9 : decode cX2_gauges 9 = .ok (.iload_n 2, 1) := by decide +kernel
theorem dX2_gauges_10 : decode cX2_gauges 10 = .ok (.bipush 12, 2) := by decide +kernel
theorem dX2_gauges_12 : decode cX2_gauges 12 = .ok (.if_icmp .ge 21, 3) := by decide +kernel
theorem dX2_gauges_15 : decode cX2_gauges 15 = .ok (.aload_n 0, 1) := by decide +kernel
theorem dX2_gauges_16 : decode cX2_gauges 16 = .ok (.getfield 7, 3) := by decide +kernel
theorem dX2_gauges_19 : decode cX2_gauges 19 = .ok (.iload_n 2, 1) := by decide +kernel
theorem dX2_gauges_20 : decode cX2_gauges 20 = .ok (.baload, 1) := by decide +kernel
theorem dX2_gauges_21 : decode cX2_gauges 21 = .ok (.ifCond .eq 6, 3) := by decide +kernel
theorem dX2_gauges_24 : decode cX2_gauges 24 = .ok (.iinc 1 1, 3) := by decide +kernel
theorem dX2_gauges_27 : decode cX2_gauges 27 = .ok (.iinc 2 1, 3) := by decide +kernel
theorem dX2_gauges_30 : decode cX2_gauges 30 = .ok (.goto (-21), 3) := by decide +kernel
theorem dX2_gauges_33 : decode cX2_gauges 33 = .ok (.iload_n 1, 1) := by decide +kernel
theorem dX2_gauges_34 : decode cX2_gauges 34 = .ok (.ireturn, 1) := by decide +kernel
set_option maxRecDepth 20000 in
theorem ggL_fit_X1_fit : GoodIn wsL_fit wsX1_fit := goodIn_ca (goodIn_ca (goodIn_ca (goodIn_r _ [8, 9, 10, 11, 12, 13, 14, 15, 16, 17, 18, 7, 19, 20, 21, 22, 23, 24, 25, 26, 27, 28, 29, 30, 31, 32, 33, 34, 35, 36, 37, 38, 39, 40, 41, 42, 43, 44, 45, 46, 47, 48, 49, 50, 51, 52, 53, 54, 55, 56, 57, 58, 59, 60, 61, 62, 63, 64, 65, 66] (by decide +kernel) (by decide +kernel)) (goodIn_sub (fun _ h => List.mem_cons_of_mem _ (List.mem_append_left _ (List.mem_append_left _ (List.mem_append_right _ h)))) (by decide +kernel))) (goodIn_sub (fun _ h => List.mem_cons_of_mem _ (List.mem_append_left _ (List.mem_append_right _ h))) (by decide +kernel))) (goodIn_sub (fun _ h => List.mem_cons_of_mem _ (List.mem_append_right _ h)) (by decide +kernel))
set_option maxRecDepth 20000 in
theorem gL_fit_X1_fit : GoodIn wsL_fit (wsV RL 7 RX1 yX1_fit wsX1_fit) := goodIn_app (goodIn_of _ (by decide +kernel)) ggL_fit_X1_fit
end
section
theorem dL_fit_0 : decode cL_fit 0 = .ok (.aload_n 3, 1) := by decide +kernel
theorem dL_fit_1 : decode cL_fit 1 = .ok (.iconst 0, 1) := by decide +kernel
theorem dL_fit_2 : decode cL_fit 2 = .ok (.aload_n 0, 1) := by decide +kernel
theorem dL_fit_3 : decode cL_fit 3 = .ok (.iload_n 1, 1) := by decide +kernel
theorem dL_fit_4 : decode cL_fit 4 = .ok (.iload_n 2, 1) := by decide +kernel
theorem dL_fit_5 : decode cL_fit 5 = .ok (.invokevirtual 7, 3) := by decide +kernel
theorem dL_fit_8 : decode cL_fit 8 = .ok (.ifCond .eq 7, 3) := by decide +kernel
theorem dL_fit_11 : decode cL_fit 11 = .ok (.lconst 1, 1) := by decide +kernel
theorem dL_fit_12 : decode cL_fit 12 = .ok (.goto 4, 3) := by decide +kernel
theorem dL_fit_15 : decode cL_fit 15 = .ok (.lconst 0, 1) := by decide +kernel
theorem dL_fit_16 : decode cL_fit 16 = .ok (.lastore, 1) := by decide +kernel
theorem dL_fit_17 : decode cL_fit 17 = .ok (.goto 15, 3) := by decide +kernel
theorem dL_fit_20 : decode cL_fit 20 = .ok (.astore 4, 2) := by decide +kernel
theorem dL_fit_22 : decode cL_fit 22 = .ok (.iconst 1, 1) := by decide +kernel
theorem dL_fit_23 : decode cL_fit 23 = .ok (.ireturn, 1) := by decide +kernel
theorem dL_fit_24 : decode cL_fit 24 = .ok (.astore 4, 2) := by decide +kernel
theorem dL_fit_26 : decode cL_fit 26 = .ok (.iconst 2, 1) := by decide +kernel
theorem dL_fit_27 : decode cL_fit 27 = .ok (.ireturn, 1) := by decide +kernel
theorem dL_fit_28 : decode cL_fit 28 = .ok (.astore 4, 2) := by decide +kernel
theorem dL_fit_30 : decode cL_fit 30 = .ok (.iconst 3, 1) := by decide +kernel
theorem dL_fit_31 : decode cL_fit 31 = .ok (.ireturn, 1) := by decide +kernel
theorem dL_fit_32 : decode cL_fit 32 = .ok (.iconst 0, 1) := by decide +kernel
theorem dL_fit_33 : decode cL_fit 33 = .ok (.ireturn, 1) := by decide +kernel
set_option maxRecDepth 20000 in
theorem ggL_step_X1_step : GoodIn wsL_step wsX1_step := goodIn_ca (goodIn_ca (goodIn_ca (goodIn_r _ [8, 9, 10, 11, 7, 12, 13, 14, 15, 16, 17, 18, 19, 20, 21, 22, 23, 24, 25, 26, 27, 28, 29, 30, 31, 32, 33, 34, 35, 36, 37, 38, 39, 40, 41, 42, 43, 44, 45, 46, 47, 48, 49, 50, 51, 52, 53, 54, 55] (by decide +kernel) (by decide +kernel)) (goodIn_sub (fun _ h => List.mem_cons_of_mem _ (List.mem_append_left _ (List.mem_append_left _ (List.mem_append_right _ h)))) (by decide +kernel))) (goodIn_sub (fun _ h => List.mem_cons_of_mem _ (List.mem_append_left _ (List.mem_append_right _ h))) (by decide +kernel))) (goodIn_sub (fun _ h => List.mem_cons_of_mem _ (List.mem_append_right _ h)) (by decide +kernel))
set_option maxRecDepth 20000 in
theorem gL_step_X1_step : GoodIn wsL_step (wsV RL 19 RX1 yX1_step wsX1_step) := goodIn_app (goodIn_of _ (by decide +kernel)) ggL_step_X1_step
theorem dL_step_0 : decode cL_step 0 = .ok (.aload_n 3, 1) := by decide +kernel
theorem dL_step_1 : decode cL_step 1 = .ok (.iconst 0, 1) := by decide +kernel
theorem dL_step_2 : decode cL_step 2 = .ok (.aload_n 0, 1) := by decide +kernel
theorem dL_step_3 : decode cL_step 3 = .ok (.iload_n 1, 1) := by decide +kernel
theorem dL_step_4 : decode cL_step 4 = .ok (.iload_n 2, 1) := by decide +kernel
theorem dL_step_5 : decode cL_step 5 = .ok (.invokevirtual 19, 3) := by decide +kernel
theorem dL_step_8 : decode cL_step 8 = .ok (.i2l, 1) := by decide +kernel
theorem dL_step_9 : decode cL_step 9 = .ok (.lastore, 1) := by decide +kernel
theorem dL_step_10 : decode cL_step 10 = .ok (.goto 15, 3) := by decide +kernel
theorem dL_step_13 : decode cL_step 13 = .ok (.astore 4, 2) := by decide +kernel
theorem dL_step_15 : decode cL_step 15 = .ok (.iconst 1, 1) := by decide +kernel
theorem dL_step_16 : decode cL_step 16 = .ok (.ireturn, 1) := by decide +kernel
theorem dL_step_17 : decode cL_step 17 = .ok (.astore 4, 2) := by decide +kernel
theorem dL_step_19 : decode cL_step 19 = .ok (.iconst 2, 1) := by decide +kernel
theorem dL_step_20 : decode cL_step 20 = .ok (.ireturn, 1) := by decide +kernel
theorem dL_step_21 : decode cL_step 21 = .ok (.astore 4, 2) := by decide +kernel
theorem dL_step_23 : decode cL_step 23 = .ok (.iconst 3, 1) := by decide +kernel
theorem dL_step_24 : decode cL_step 24 = .ok (.ireturn, 1) := by decide +kernel
theorem dL_step_25 : decode cL_step 25 = .ok (.iconst 0, 1) := by decide +kernel
theorem dL_step_26 : decode cL_step 26 = .ok (.ireturn, 1) := by decide +kernel
set_option maxRecDepth 20000 in
theorem ggL_stepBy_X1_stepBy : GoodIn wsL_stepBy wsX1_stepBy := goodIn_ca (goodIn_ca (goodIn_ca (goodIn_r _ [8, 9, 10, 11, 7, 12, 13, 14, 15, 16, 17, 18, 19, 20, 21, 22, 23, 24, 25, 26, 27, 28, 29, 30, 31, 32, 33, 34, 35, 36, 37, 38, 39, 40, 41, 42, 43, 44, 45, 46, 47, 48, 49, 50, 51, 52, 53, 54, 55, 56, 57, 58, 59, 60, 61, 62, 63, 64, 65, 66] (by decide +kernel) (by decide +kernel)) (goodIn_sub (fun _ h => List.mem_cons_of_mem _ (List.mem_append_left _ (List.mem_append_left _ (List.mem_append_right _ h)))) (by decide +kernel))) (goodIn_sub (fun _ h => List.mem_cons_of_mem _ (List.mem_append_left _ (List.mem_append_right _ h))) (by decide +kernel))) (goodIn_sub (fun _ h => List.mem_cons_of_mem _ (List.mem_append_right _ h)) (by decide +kernel))
set_option maxRecDepth 20000 in
theorem gL_stepBy_X1_stepBy : GoodIn wsL_stepBy (wsV RL 23 RX1 yX1_stepBy wsX1_stepBy) := goodIn_app (goodIn_of _ (by decide +kernel)) ggL_stepBy_X1_stepBy
theorem dL_stepBy_0 : decode cL_stepBy 0 = .ok (.aload 5, 2) := by decide +kernel
theorem dL_stepBy_2 : decode cL_stepBy 2 = .ok (.iconst 0, 1) := by decide +kernel
theorem dL_stepBy_3 : decode cL_stepBy 3 = .ok (.aload_n 0, 1) := by decide +kernel
theorem dL_stepBy_4 : decode cL_stepBy 4 = .ok (.iload_n 1, 1) := by decide +kernel
theorem dL_stepBy_5 : decode cL_stepBy 5 = .ok (.iload_n 2, 1) := by decide +kernel
theorem dL_stepBy_6 : decode cL_stepBy 6 = .ok (.lload_n 3, 1) := by decide +kernel
theorem dL_stepBy_7 : decode cL_stepBy 7 = .ok (.invokevirtual 23, 3) := by decide +kernel
theorem dL_stepBy_10 : decode cL_stepBy 10 = .ok (.i2l, 1) := by decide +kernel
theorem dL_stepBy_11 : decode cL_stepBy 11 = .ok (.lastore, 1) := by decide +kernel
theorem dL_stepBy_12 : decode cL_stepBy 12 = .ok (.goto 15, 3) := by decide +kernel
theorem dL_stepBy_15 : decode cL_stepBy 15 = .ok (.astore 6, 2) := by decide +kernel
theorem dL_stepBy_17 : decode cL_stepBy 17 = .ok (.iconst 1, 1) := by decide +kernel
theorem dL_stepBy_18 : decode cL_stepBy 18 = .ok (.ireturn, 1) := by decide +kernel
theorem dL_stepBy_19 : decode cL_stepBy 19 = .ok (.astore 6, 2) := by decide +kernel
theorem dL_stepBy_21 : decode cL_stepBy 21 = .ok (.iconst 2, 1) := by decide +kernel
theorem dL_stepBy_22 : decode cL_stepBy 22 = .ok (.ireturn, 1) := by decide +kernel
theorem dL_stepBy_23 : decode cL_stepBy 23 = .ok (.astore 6, 2) := by decide +kernel
theorem dL_stepBy_25 : decode cL_stepBy 25 = .ok (.iconst 3, 1) := by decide +kernel
theorem dL_stepBy_26 : decode cL_stepBy 26 = .ok (.ireturn, 1) := by decide +kernel
theorem dL_stepBy_27 : decode cL_stepBy 27 = .ok (.iconst 0, 1) := by decide +kernel
theorem dL_stepBy_28 : decode cL_stepBy 28 = .ok (.ireturn, 1) := by decide +kernel
set_option maxRecDepth 20000 in
theorem ggL_stepOf_X1_stepOf : GoodIn wsL_stepOf wsX1_stepOf := goodIn_ca (goodIn_ca (goodIn_ca (goodIn_r _ [8, 9, 10, 11, 12, 13, 7, 14, 15, 16, 17, 18, 19, 20, 21, 22, 23, 24, 25, 26, 27, 28, 29, 30, 31, 32, 33, 34, 35, 36, 37, 38, 39, 40, 41, 42, 43, 44, 45, 46, 47, 48, 49, 50, 51, 52, 53, 54, 55] (by decide +kernel) (by decide +kernel)) (goodIn_sub (fun _ h => List.mem_cons_of_mem _ (List.mem_append_left _ (List.mem_append_left _ (List.mem_append_right _ h)))) (by decide +kernel))) (goodIn_sub (fun _ h => List.mem_cons_of_mem _ (List.mem_append_left _ (List.mem_append_right _ h))) (by decide +kernel))) (goodIn_sub (fun _ h => List.mem_cons_of_mem _ (List.mem_append_right _ h)) (by decide +kernel))
set_option maxRecDepth 20000 in
theorem gL_stepOf_X1_stepOf : GoodIn wsL_stepOf (wsV RL 27 RX1 yX1_stepOf wsX1_stepOf) := goodIn_app (goodIn_of _ (by decide +kernel)) ggL_stepOf_X1_stepOf
theorem dL_stepOf_0 : decode cL_stepOf 0 = .ok (.aload 4, 2) := by decide +kernel
theorem dL_stepOf_2 : decode cL_stepOf 2 = .ok (.iconst 0, 1) := by decide +kernel
theorem dL_stepOf_3 : decode cL_stepOf 3 = .ok (.aload_n 0, 1) := by decide +kernel
theorem dL_stepOf_4 : decode cL_stepOf 4 = .ok (.iload_n 1, 1) := by decide +kernel
theorem dL_stepOf_5 : decode cL_stepOf 5 = .ok (.iload_n 2, 1) := by decide +kernel
theorem dL_stepOf_6 : decode cL_stepOf 6 = .ok (.iload_n 3, 1) := by decide +kernel
theorem dL_stepOf_7 : decode cL_stepOf 7 = .ok (.invokevirtual 27, 3) := by decide +kernel
theorem dL_stepOf_10 : decode cL_stepOf 10 = .ok (.i2l, 1) := by decide +kernel
theorem dL_stepOf_11 : decode cL_stepOf 11 = .ok (.lastore, 1) := by decide +kernel
theorem dL_stepOf_12 : decode cL_stepOf 12 = .ok (.goto 15, 3) := by decide +kernel
theorem dL_stepOf_15 : decode cL_stepOf 15 = .ok (.astore 5, 2) := by decide +kernel
theorem dL_stepOf_17 : decode cL_stepOf 17 = .ok (.iconst 1, 1) := by decide +kernel
theorem dL_stepOf_18 : decode cL_stepOf 18 = .ok (.ireturn, 1) := by decide +kernel
theorem dL_stepOf_19 : decode cL_stepOf 19 = .ok (.astore 5, 2) := by decide +kernel
theorem dL_stepOf_21 : decode cL_stepOf 21 = .ok (.iconst 2, 1) := by decide +kernel
theorem dL_stepOf_22 : decode cL_stepOf 22 = .ok (.ireturn, 1) := by decide +kernel
theorem dL_stepOf_23 : decode cL_stepOf 23 = .ok (.astore 5, 2) := by decide +kernel
theorem dL_stepOf_25 : decode cL_stepOf 25 = .ok (.iconst 3, 1) := by decide +kernel
theorem dL_stepOf_26 : decode cL_stepOf 26 = .ok (.ireturn, 1) := by decide +kernel
theorem dL_stepOf_27 : decode cL_stepOf 27 = .ok (.iconst 0, 1) := by decide +kernel
theorem dL_stepOf_28 : decode cL_stepOf 28 = .ok (.ireturn, 1) := by decide +kernel
set_option maxRecDepth 20000 in
theorem ggL_bare_X1_bare : GoodIn wsL_bare wsX1_bare := goodIn_ca (goodIn_r _ [6, 7, 8, 9, 5, 10, 11, 12, 13, 14, 15, 16, 17, 18, 19, 20, 21, 22, 23, 24, 25, 26, 27, 28, 29, 30, 31, 32] (by decide +kernel) (by decide +kernel)) (goodIn_sub (fun _ h => List.mem_cons_of_mem _ (List.mem_append_right _ h)) (by decide +kernel))
set_option maxRecDepth 20000 in
theorem gL_bare_X1_bare : GoodIn wsL_bare (wsV RL 31 RX1 yX1_bare wsX1_bare) := goodIn_app (goodIn_of _ (by decide +kernel)) ggL_bare_X1_bare
theorem dL_bare_0 : decode cL_bare 0 = .ok (.aload_n 2, 1) := by decide +kernel
theorem dL_bare_1 : decode cL_bare 1 = .ok (.iconst 0, 1) := by decide +kernel
theorem dL_bare_2 : decode cL_bare 2 = .ok (.aload_n 0, 1) := by decide +kernel
theorem dL_bare_3 : decode cL_bare 3 = .ok (.iload_n 1, 1) := by decide +kernel
theorem dL_bare_4 : decode cL_bare 4 = .ok (.invokevirtual 31, 3) := by decide +kernel
theorem dL_bare_7 : decode cL_bare 7 = .ok (.i2l, 1) := by decide +kernel
theorem dL_bare_8 : decode cL_bare 8 = .ok (.lastore, 1) := by decide +kernel
theorem dL_bare_9 : decode cL_bare 9 = .ok (.goto 6, 3) := by decide +kernel
theorem dL_bare_12 : decode cL_bare 12 = .ok (.astore_n 3, 1) := by decide +kernel
theorem dL_bare_13 : decode cL_bare 13 = .ok (.iconst 1, 1) := by decide +kernel
theorem dL_bare_14 : decode cL_bare 14 = .ok (.ireturn, 1) := by decide +kernel
theorem dL_bare_15 : decode cL_bare 15 = .ok (.iconst 0, 1) := by decide +kernel
theorem dL_bare_16 : decode cL_bare 16 = .ok (.ireturn, 1) := by decide +kernel
set_option maxRecDepth 20000 in
theorem ggL_read_X1_read : GoodIn wsL_read wsX1_read := goodIn_ca (goodIn_ca (goodIn_r _ [7, 8, 9, 10, 6, 11, 12, 13, 14, 15, 16, 17, 18, 19, 20, 21, 22, 23, 24, 25, 26, 27, 28, 29, 30, 31, 32, 33, 34, 35, 36, 37, 38, 39, 40, 41, 42, 43, 44, 45, 46, 47, 48, 49, 50, 51, 52, 53, 54, 55, 56, 57, 58, 59, 60, 61, 62, 63, 64, 65, 66, 67, 68, 69, 70, 71, 72, 73, 74, 75, 76, 77, 78, 79, 80, 81, 82, 83, 84, 85, 86, 87, 88, 89, 90, 91, 92, 93, 94, 95, 96, 97, 98, 99, 100, 101, 102, 103, 104, 105, 106, 107, 108, 109, 110, 111, 112, 113, 114, 115, 116, 117, 118, 119, 120, 121, 122, 123, 124] (by decide +kernel) (by decide +kernel)) (goodIn_sub (fun _ h => List.mem_cons_of_mem _ (List.mem_append_left _ (List.mem_append_right _ h))) (by decide +kernel))) (goodIn_sub (fun _ h => List.mem_cons_of_mem _ (List.mem_append_right _ h)) (by decide +kernel))
set_option maxRecDepth 20000 in
theorem gL_read_X1_read : GoodIn wsL_read (wsV RL 35 RX1 yX1_read wsX1_read) := goodIn_app (goodIn_of _ (by decide +kernel)) ggL_read_X1_read
theorem dL_read_0 : decode cL_read 0 = .ok (.aload 4, 2) := by decide +kernel
theorem dL_read_2 : decode cL_read 2 = .ok (.iconst 0, 1) := by decide +kernel
theorem dL_read_3 : decode cL_read 3 = .ok (.aload_n 0, 1) := by decide +kernel
theorem dL_read_4 : decode cL_read 4 = .ok (.iload_n 1, 1) := by decide +kernel
theorem dL_read_5 : decode cL_read 5 = .ok (.lload_n 2, 1) := by decide +kernel
theorem dL_read_6 : decode cL_read 6 = .ok (.invokevirtual 35, 3) := by decide +kernel
theorem dL_read_9 : decode cL_read 9 = .ok (.lastore, 1) := by decide +kernel
theorem dL_read_10 : decode cL_read 10 = .ok (.goto 11, 3) := by decide +kernel
theorem dL_read_13 : decode cL_read 13 = .ok (.astore 5, 2) := by decide +kernel
theorem dL_read_15 : decode cL_read 15 = .ok (.iconst 1, 1) := by decide +kernel
theorem dL_read_16 : decode cL_read 16 = .ok (.ireturn, 1) := by decide +kernel
theorem dL_read_17 : decode cL_read 17 = .ok (.astore 5, 2) := by decide +kernel
theorem dL_read_19 : decode cL_read 19 = .ok (.iconst 2, 1) := by decide +kernel
theorem dL_read_20 : decode cL_read 20 = .ok (.ireturn, 1) := by decide +kernel
theorem dL_read_21 : decode cL_read 21 = .ok (.iconst 0, 1) := by decide +kernel
theorem dL_read_22 : decode cL_read 22 = .ok (.ireturn, 1) := by decide +kernel
set_option maxRecDepth 20000 in
theorem ggL_hand_X1_hand : GoodIn wsL_hand wsX1_hand := goodIn_ca (goodIn_ca (goodIn_r _ [7, 8, 9, 10, 11, 12, 6, 13, 14, 15, 16, 17, 18, 19, 20, 21, 22, 23, 24, 25, 26, 27, 28, 29, 30, 31, 32, 33, 34, 35, 36, 37, 38, 39, 40, 41, 42, 43, 44, 45, 46, 47, 48, 49, 50, 51, 52, 53, 54, 55, 56, 57, 58, 59, 60, 61, 62, 63, 64, 65, 66, 67, 68, 69, 70, 71, 72, 73, 74, 75, 76, 77, 78, 79, 80, 81, 82, 83, 84, 85, 86, 87, 88, 89, 90, 91, 92, 93, 94, 95, 96, 97, 98, 99, 100, 101, 102, 103, 104, 105, 106, 107, 108, 109, 110, 111, 112, 113, 114, 115, 116, 117, 118, 119, 120, 121, 122, 123, 124, 125, 126, 127, 128, 129, 130, 131, 132, 133, 134, 135, 136, 137, 138, 139, 140, 141] (by decide +kernel) (by decide +kernel)) (goodIn_sub (fun _ h => List.mem_cons_of_mem _ (List.mem_append_left _ (List.mem_append_right _ h))) (by decide +kernel))) (goodIn_sub (fun _ h => List.mem_cons_of_mem _ (List.mem_append_right _ h)) (by decide +kernel))
set_option maxRecDepth 20000 in
theorem gL_hand_X1_hand : GoodIn wsL_hand (wsV RL 39 RX1 yX1_hand wsX1_hand) := goodIn_app (goodIn_of _ (by decide +kernel)) ggL_hand_X1_hand
theorem dL_hand_0 : decode cL_hand 0 = .ok (.aload_n 3, 1) := by decide +kernel
theorem dL_hand_1 : decode cL_hand 1 = .ok (.iconst 0, 1) := by decide +kernel
theorem dL_hand_2 : decode cL_hand 2 = .ok (.aload_n 0, 1) := by decide +kernel
theorem dL_hand_3 : decode cL_hand 3 = .ok (.iload_n 1, 1) := by decide +kernel
theorem dL_hand_4 : decode cL_hand 4 = .ok (.iload_n 2, 1) := by decide +kernel
theorem dL_hand_5 : decode cL_hand 5 = .ok (.invokevirtual 39, 3) := by decide +kernel
theorem dL_hand_8 : decode cL_hand 8 = .ok (.lastore, 1) := by decide +kernel
theorem dL_hand_9 : decode cL_hand 9 = .ok (.goto 11, 3) := by decide +kernel
theorem dL_hand_12 : decode cL_hand 12 = .ok (.astore 4, 2) := by decide +kernel
theorem dL_hand_14 : decode cL_hand 14 = .ok (.iconst 1, 1) := by decide +kernel
theorem dL_hand_15 : decode cL_hand 15 = .ok (.ireturn, 1) := by decide +kernel
theorem dL_hand_16 : decode cL_hand 16 = .ok (.astore 4, 2) := by decide +kernel
theorem dL_hand_18 : decode cL_hand 18 = .ok (.iconst 2, 1) := by decide +kernel
theorem dL_hand_19 : decode cL_hand 19 = .ok (.ireturn, 1) := by decide +kernel
theorem dL_hand_20 : decode cL_hand 20 = .ok (.iconst 0, 1) := by decide +kernel
theorem dL_hand_21 : decode cL_hand 21 = .ok (.ireturn, 1) := by decide +kernel
set_option maxRecDepth 20000 in
theorem ggL_clear_X1_clear : GoodIn wsL_clear wsX1_clear := goodIn_ca (goodIn_r _ [6, 7, 8, 9, 5, 10, 11, 12, 13, 14, 15, 16, 17, 18, 19, 20, 21, 22, 23, 24, 25, 26, 27, 28, 29, 30, 31, 32] (by decide +kernel) (by decide +kernel)) (goodIn_sub (fun _ h => List.mem_cons_of_mem _ (List.mem_append_right _ h)) (by decide +kernel))
set_option maxRecDepth 20000 in
theorem gL_clear_X1_clear : GoodIn wsL_clear (wsV RL 43 RX1 yX1_clear wsX1_clear) := goodIn_app (goodIn_of _ (by decide +kernel)) ggL_clear_X1_clear
theorem dL_clear_0 : decode cL_clear 0 = .ok (.aload_n 2, 1) := by decide +kernel
theorem dL_clear_1 : decode cL_clear 1 = .ok (.iconst 0, 1) := by decide +kernel
theorem dL_clear_2 : decode cL_clear 2 = .ok (.aload_n 0, 1) := by decide +kernel
theorem dL_clear_3 : decode cL_clear 3 = .ok (.iload_n 1, 1) := by decide +kernel
theorem dL_clear_4 : decode cL_clear 4 = .ok (.invokevirtual 43, 3) := by decide +kernel
theorem dL_clear_7 : decode cL_clear 7 = .ok (.ifCond .eq 7, 3) := by decide +kernel
theorem dL_clear_10 : decode cL_clear 10 = .ok (.lconst 1, 1) := by decide +kernel
theorem dL_clear_11 : decode cL_clear 11 = .ok (.goto 4, 3) := by decide +kernel
theorem dL_clear_14 : decode cL_clear 14 = .ok (.lconst 0, 1) := by decide +kernel
theorem dL_clear_15 : decode cL_clear 15 = .ok (.lastore, 1) := by decide +kernel
theorem dL_clear_16 : decode cL_clear 16 = .ok (.goto 6, 3) := by decide +kernel
theorem dL_clear_19 : decode cL_clear 19 = .ok (.astore_n 3, 1) := by decide +kernel
theorem dL_clear_20 : decode cL_clear 20 = .ok (.iconst 1, 1) := by decide +kernel
theorem dL_clear_21 : decode cL_clear 21 = .ok (.ireturn, 1) := by decide +kernel
theorem dL_clear_22 : decode cL_clear 22 = .ok (.iconst 0, 1) := by decide +kernel
theorem dL_clear_23 : decode cL_clear 23 = .ok (.ireturn, 1) := by decide +kernel
set_option maxRecDepth 20000 in
theorem ggL_value_X1_value : GoodIn wsL_value wsX1_value := goodIn_ca (goodIn_r _ [6, 7, 8, 9, 5, 10, 11, 12, 13, 14, 15, 16, 17, 18, 19, 20, 21, 22, 23, 24, 25, 26, 27, 28, 29, 30, 31, 32] (by decide +kernel) (by decide +kernel)) (goodIn_sub (fun _ h => List.mem_cons_of_mem _ (List.mem_append_right _ h)) (by decide +kernel))
set_option maxRecDepth 20000 in
theorem gL_value_X1_value : GoodIn wsL_value (wsV RL 47 RX1 yX1_value wsX1_value) := goodIn_app (goodIn_of _ (by decide +kernel)) ggL_value_X1_value
theorem dL_value_0 : decode cL_value 0 = .ok (.aload_n 2, 1) := by decide +kernel
theorem dL_value_1 : decode cL_value 1 = .ok (.iconst 0, 1) := by decide +kernel
theorem dL_value_2 : decode cL_value 2 = .ok (.aload_n 0, 1) := by decide +kernel
theorem dL_value_3 : decode cL_value 3 = .ok (.iload_n 1, 1) := by decide +kernel
theorem dL_value_4 : decode cL_value 4 = .ok (.invokevirtual 47, 3) := by decide +kernel
theorem dL_value_7 : decode cL_value 7 = .ok (.lastore, 1) := by decide +kernel
theorem dL_value_8 : decode cL_value 8 = .ok (.goto 6, 3) := by decide +kernel
theorem dL_value_11 : decode cL_value 11 = .ok (.astore_n 3, 1) := by decide +kernel
theorem dL_value_12 : decode cL_value 12 = .ok (.iconst 1, 1) := by decide +kernel
theorem dL_value_13 : decode cL_value 13 = .ok (.ireturn, 1) := by decide +kernel
theorem dL_value_14 : decode cL_value 14 = .ok (.iconst 0, 1) := by decide +kernel
theorem dL_value_15 : decode cL_value 15 = .ok (.ireturn, 1) := by decide +kernel
set_option maxRecDepth 20000 in
theorem ggL_mark_X1_mark : GoodIn wsL_mark wsX1_mark := goodIn_ca (goodIn_ca (goodIn_r _ [7, 8, 9, 10, 11, 12, 6, 13, 14, 15, 16, 17, 18, 19, 20, 21, 22, 23, 24, 25, 26, 27, 28, 29, 30, 31, 32, 33, 34, 35] (by decide +kernel) (by decide +kernel)) (goodIn_sub (fun _ h => List.mem_cons_of_mem _ (List.mem_append_left _ (List.mem_append_right _ h))) (by decide +kernel))) (goodIn_sub (fun _ h => List.mem_cons_of_mem _ (List.mem_append_right _ h)) (by decide +kernel))
set_option maxRecDepth 20000 in
theorem gL_mark_X1_mark : GoodIn wsL_mark (wsV RL 51 RX1 yX1_mark wsX1_mark) := goodIn_app (goodIn_of _ (by decide +kernel)) ggL_mark_X1_mark
theorem dL_mark_0 : decode cL_mark 0 = .ok (.aload_n 3, 1) := by decide +kernel
theorem dL_mark_1 : decode cL_mark 1 = .ok (.iconst 0, 1) := by decide +kernel
theorem dL_mark_2 : decode cL_mark 2 = .ok (.aload_n 0, 1) := by decide +kernel
theorem dL_mark_3 : decode cL_mark 3 = .ok (.iload_n 1, 1) := by decide +kernel
theorem dL_mark_4 : decode cL_mark 4 = .ok (.iload_n 2, 1) := by decide +kernel
theorem dL_mark_5 : decode cL_mark 5 = .ok (.invokevirtual 51, 3) := by decide +kernel
theorem dL_mark_8 : decode cL_mark 8 = .ok (.lastore, 1) := by decide +kernel
theorem dL_mark_9 : decode cL_mark 9 = .ok (.goto 11, 3) := by decide +kernel
theorem dL_mark_12 : decode cL_mark 12 = .ok (.astore 4, 2) := by decide +kernel
theorem dL_mark_14 : decode cL_mark 14 = .ok (.iconst 1, 1) := by decide +kernel
theorem dL_mark_15 : decode cL_mark 15 = .ok (.ireturn, 1) := by decide +kernel
theorem dL_mark_16 : decode cL_mark 16 = .ok (.astore 4, 2) := by decide +kernel
theorem dL_mark_18 : decode cL_mark 18 = .ok (.iconst 2, 1) := by decide +kernel
theorem dL_mark_19 : decode cL_mark 19 = .ok (.ireturn, 1) := by decide +kernel
theorem dL_mark_20 : decode cL_mark 20 = .ok (.iconst 0, 1) := by decide +kernel
theorem dL_mark_21 : decode cL_mark 21 = .ok (.ireturn, 1) := by decide +kernel
set_option maxRecDepth 20000 in
theorem ggL_about_X1_about : GoodIn wsL_about wsX1_about := goodIn_ca (goodIn_ca (goodIn_r _ [7, 8, 9, 10, 11, 12, 6, 13, 14, 15, 16, 17, 18, 19, 20, 21, 22, 23, 24, 25, 26, 27, 28, 29, 30, 31, 32, 33, 34, 35, 36, 37, 38, 39, 40, 41, 42, 43, 44, 45, 46, 47, 48] (by decide +kernel) (by decide +kernel)) (goodIn_sub (fun _ h => List.mem_cons_of_mem _ (List.mem_append_left _ (List.mem_append_right _ h))) (by decide +kernel))) (goodIn_sub (fun _ h => List.mem_cons_of_mem _ (List.mem_append_right _ h)) (by decide +kernel))
set_option maxRecDepth 20000 in
theorem gL_about_X1_about : GoodIn wsL_about (wsV RL 55 RX1 yX1_about wsX1_about) := goodIn_app (goodIn_of _ (by decide +kernel)) ggL_about_X1_about
theorem dL_about_0 : decode cL_about 0 = .ok (.aload_n 3, 1) := by decide +kernel
theorem dL_about_1 : decode cL_about 1 = .ok (.iconst 0, 1) := by decide +kernel
theorem dL_about_2 : decode cL_about 2 = .ok (.aload_n 0, 1) := by decide +kernel
theorem dL_about_3 : decode cL_about 3 = .ok (.iload_n 1, 1) := by decide +kernel
theorem dL_about_4 : decode cL_about 4 = .ok (.iload_n 2, 1) := by decide +kernel
theorem dL_about_5 : decode cL_about 5 = .ok (.invokevirtual 55, 3) := by decide +kernel
theorem dL_about_8 : decode cL_about 8 = .ok (.i2l, 1) := by decide +kernel
theorem dL_about_9 : decode cL_about 9 = .ok (.lastore, 1) := by decide +kernel
theorem dL_about_10 : decode cL_about 10 = .ok (.goto 11, 3) := by decide +kernel
theorem dL_about_13 : decode cL_about 13 = .ok (.astore 4, 2) := by decide +kernel
theorem dL_about_15 : decode cL_about 15 = .ok (.iconst 1, 1) := by decide +kernel
theorem dL_about_16 : decode cL_about 16 = .ok (.ireturn, 1) := by decide +kernel
theorem dL_about_17 : decode cL_about 17 = .ok (.astore 4, 2) := by decide +kernel
theorem dL_about_19 : decode cL_about 19 = .ok (.iconst 2, 1) := by decide +kernel
theorem dL_about_20 : decode cL_about 20 = .ok (.ireturn, 1) := by decide +kernel
theorem dL_about_21 : decode cL_about 21 = .ok (.iconst 0, 1) := by decide +kernel
theorem dL_about_22 : decode cL_about 22 = .ok (.ireturn, 1) := by decide +kernel
set_option maxRecDepth 20000 in
theorem ggL_stepAt_X1_stepAt : GoodIn wsL_stepAt wsX1_stepAt := goodIn_ca (goodIn_ca (goodIn_r _ [7, 8, 9, 10, 11, 12, 13, 14, 6, 15, 16, 17, 18, 19, 20, 21, 22, 23, 24, 25, 26, 27, 28, 29, 30, 31, 32, 33, 34, 35, 36, 37, 38, 39, 40, 41] (by decide +kernel) (by decide +kernel)) (goodIn_sub (fun _ h => List.mem_cons_of_mem _ (List.mem_append_left _ (List.mem_append_right _ h))) (by decide +kernel))) (goodIn_sub (fun _ h => List.mem_cons_of_mem _ (List.mem_append_right _ h)) (by decide +kernel))
set_option maxRecDepth 20000 in
theorem gL_stepAt_X1_stepAt : GoodIn wsL_stepAt (wsV RL 58 RX1 yX1_stepAt wsX1_stepAt) := goodIn_app (goodIn_of _ (by decide +kernel)) ggL_stepAt_X1_stepAt
theorem dL_stepAt_0 : decode cL_stepAt 0 = .ok (.aload 4, 2) := by decide +kernel
theorem dL_stepAt_2 : decode cL_stepAt 2 = .ok (.iconst 0, 1) := by decide +kernel
theorem dL_stepAt_3 : decode cL_stepAt 3 = .ok (.aload_n 0, 1) := by decide +kernel
theorem dL_stepAt_4 : decode cL_stepAt 4 = .ok (.iload_n 1, 1) := by decide +kernel
theorem dL_stepAt_5 : decode cL_stepAt 5 = .ok (.iload_n 2, 1) := by decide +kernel
theorem dL_stepAt_6 : decode cL_stepAt 6 = .ok (.iload_n 3, 1) := by decide +kernel
theorem dL_stepAt_7 : decode cL_stepAt 7 = .ok (.invokevirtual 58, 3) := by decide +kernel
theorem dL_stepAt_10 : decode cL_stepAt 10 = .ok (.i2l, 1) := by decide +kernel
theorem dL_stepAt_11 : decode cL_stepAt 11 = .ok (.lastore, 1) := by decide +kernel
theorem dL_stepAt_12 : decode cL_stepAt 12 = .ok (.goto 11, 3) := by decide +kernel
theorem dL_stepAt_15 : decode cL_stepAt 15 = .ok (.astore 5, 2) := by decide +kernel
theorem dL_stepAt_17 : decode cL_stepAt 17 = .ok (.iconst 1, 1) := by decide +kernel
theorem dL_stepAt_18 : decode cL_stepAt 18 = .ok (.ireturn, 1) := by decide +kernel
theorem dL_stepAt_19 : decode cL_stepAt 19 = .ok (.astore 5, 2) := by decide +kernel
theorem dL_stepAt_21 : decode cL_stepAt 21 = .ok (.iconst 2, 1) := by decide +kernel
theorem dL_stepAt_22 : decode cL_stepAt 22 = .ok (.ireturn, 1) := by decide +kernel
theorem dL_stepAt_23 : decode cL_stepAt 23 = .ok (.iconst 0, 1) := by decide +kernel
theorem dL_stepAt_24 : decode cL_stepAt 24 = .ok (.ireturn, 1) := by decide +kernel
set_option maxRecDepth 20000 in
theorem ggL_rank_X1_rank : GoodIn wsL_rank wsX1_rank := goodIn_ca (goodIn_r _ [6, 7, 8, 9, 10, 5, 11, 12, 13, 14, 15, 16, 17, 18, 19, 20, 21, 22, 23, 24, 25, 26, 27, 28, 29, 30, 31, 32, 33, 34, 35, 36, 37, 38, 39, 40, 41, 42] (by decide +kernel) (by decide +kernel)) (goodIn_sub (fun _ h => List.mem_cons_of_mem _ (List.mem_append_right _ h)) (by decide +kernel))
set_option maxRecDepth 20000 in
theorem gL_rank_X1_rank : GoodIn wsL_rank (wsV RL 61 RX1 yX1_rank wsX1_rank) := goodIn_app (goodIn_of _ (by decide +kernel)) ggL_rank_X1_rank
theorem dL_rank_0 : decode cL_rank 0 = .ok (.aload_n 2, 1) := by decide +kernel
theorem dL_rank_1 : decode cL_rank 1 = .ok (.iconst 0, 1) := by decide +kernel
theorem dL_rank_2 : decode cL_rank 2 = .ok (.aload_n 0, 1) := by decide +kernel
theorem dL_rank_3 : decode cL_rank 3 = .ok (.iload_n 1, 1) := by decide +kernel
theorem dL_rank_4 : decode cL_rank 4 = .ok (.invokevirtual 61, 3) := by decide +kernel
theorem dL_rank_7 : decode cL_rank 7 = .ok (.i2l, 1) := by decide +kernel
theorem dL_rank_8 : decode cL_rank 8 = .ok (.lastore, 1) := by decide +kernel
theorem dL_rank_9 : decode cL_rank 9 = .ok (.goto 6, 3) := by decide +kernel
theorem dL_rank_12 : decode cL_rank 12 = .ok (.astore_n 3, 1) := by decide +kernel
theorem dL_rank_13 : decode cL_rank 13 = .ok (.iconst 1, 1) := by decide +kernel
theorem dL_rank_14 : decode cL_rank 14 = .ok (.ireturn, 1) := by decide +kernel
theorem dL_rank_15 : decode cL_rank 15 = .ok (.iconst 0, 1) := by decide +kernel
theorem dL_rank_16 : decode cL_rank 16 = .ok (.ireturn, 1) := by decide +kernel
set_option maxRecDepth 20000 in
theorem ggL_most_X1_most : GoodIn wsL_most wsX1_most := goodIn_ca (goodIn_ca (goodIn_r _ [7, 8, 9, 10, 11, 12, 6, 13, 14, 15, 16, 17, 18, 19, 20, 21, 22, 23, 24, 25, 26, 27, 28, 29, 30, 31, 32, 33, 34, 35, 36, 37, 38, 39, 40] (by decide +kernel) (by decide +kernel)) (goodIn_sub (fun _ h => List.mem_cons_of_mem _ (List.mem_append_left _ (List.mem_append_right _ h))) (by decide +kernel))) (goodIn_sub (fun _ h => List.mem_cons_of_mem _ (List.mem_append_right _ h)) (by decide +kernel))
set_option maxRecDepth 20000 in
theorem gL_most_X1_most : GoodIn wsL_most (wsV RL 64 RX1 yX1_most wsX1_most) := goodIn_app (goodIn_of _ (by decide +kernel)) ggL_most_X1_most
theorem dL_most_0 : decode cL_most 0 = .ok (.aload_n 3, 1) := by decide +kernel
theorem dL_most_1 : decode cL_most 1 = .ok (.iconst 0, 1) := by decide +kernel
theorem dL_most_2 : decode cL_most 2 = .ok (.aload_n 0, 1) := by decide +kernel
theorem dL_most_3 : decode cL_most 3 = .ok (.iload_n 1, 1) := by decide +kernel
theorem dL_most_4 : decode cL_most 4 = .ok (.iload_n 2, 1) := by decide +kernel
theorem dL_most_5 : decode cL_most 5 = .ok (.invokevirtual 64, 3) := by decide +kernel
theorem dL_most_8 : decode cL_most 8 = .ok (.lastore, 1) := by decide +kernel
theorem dL_most_9 : decode cL_most 9 = .ok (.goto 11, 3) := by decide +kernel
theorem dL_most_12 : decode cL_most 12 = .ok (.astore 4, 2) := by decide +kernel
theorem dL_most_14 : decode cL_most 14 = .ok (.iconst 1, 1) := by decide +kernel
theorem dL_most_15 : decode cL_most 15 = .ok (.ireturn, 1) := by decide +kernel
theorem dL_most_16 : decode cL_most 16 = .ok (.astore 4, 2) := by decide +kernel
theorem dL_most_18 : decode cL_most 18 = .ok (.iconst 2, 1) := by decide +kernel
theorem dL_most_19 : decode cL_most 19 = .ok (.ireturn, 1) := by decide +kernel
theorem dL_most_20 : decode cL_most 20 = .ok (.iconst 0, 1) := by decide +kernel
theorem dL_most_21 : decode cL_most 21 = .ok (.ireturn, 1) := by decide +kernel
set_option maxRecDepth 20000 in
theorem ggL_law_X1_init : GoodIn wsL_law wsX1_init := goodIn_r _ [10, 11, 12, 13, 14, 15, 472] (by decide +kernel) (by decide +kernel)
set_option maxRecDepth 20000 in
theorem gL_law_X1_init : GoodIn wsL_law (wsX1_init) := ggL_law_X1_init
set_option maxRecDepth 20000 in
theorem ggL_law_X2_init : GoodIn wsL_law wsX2_init := goodIn_r _ [18, 19, 12, 13, 20, 21, 22, 23, 6, 24, 25, 26, 27, 28, 29, 30, 31, 32, 33, 34, 473, 474, 475, 476, 477, 478, 479, 480, 481, 482, 483, 484, 485, 486] (by decide +kernel) (by decide +kernel)
set_option maxRecDepth 20000 in
theorem gL_law_X2_init : GoodIn wsL_law (wsX2_init) := ggL_law_X2_init
set_option maxRecDepth 20000 in
theorem ggL_law_L_fit : GoodIn wsL_law wsL_fit := goodIn_ca (goodIn_ca (goodIn_ca (goodIn_r _ [38, 39, 40, 41, 42, 43, 44, 2, 45, 46, 47, 48, 49, 15, 14, 50, 51, 52, 53, 54, 55, 56, 57, 58, 59, 60, 61, 62, 63, 64, 65, 66, 12, 13, 22, 67, 68, 6, 69, 70, 71, 72, 73, 74, 75, 76, 77, 78, 79, 80, 81, 82, 83, 84, 85, 472, 487, 488, 489, 490, 491, 492, 493, 494, 495, 496, 497] (by decide +kernel) (by decide +kernel)) (goodIn_sub (fun _ h => List.mem_append_left _ (List.mem_append_left _ (List.mem_append_left _ (List.mem_append_right _ h)))) (by decide +kernel))) (goodIn_sub (fun _ h => List.mem_append_left _ (List.mem_append_left _ (List.mem_append_right _ h))) (by decide +kernel))) (goodIn_sub (fun _ h => List.mem_append_left _ (List.mem_append_right _ h)) (by decide +kernel))
set_option maxRecDepth 20000 in
theorem gL_law_L_fit : GoodIn wsL_law (va_wsS RL 71 yL_fit wsL_fit) := goodIn_app (goodIn_of _ (by decide +kernel)) ggL_law_L_fit
set_option maxRecDepth 20000 in
theorem ggL_law_X2_fit : GoodIn wsL_law wsX2_fit := goodIn_r _ [89, 90, 21, 23, 24, 25, 26, 27, 28, 91, 92, 93, 5, 94, 95, 96, 97, 98, 32, 34, 99, 100, 101, 102, 473, 474, 475, 476, 477, 478, 479, 480, 481, 482, 483, 484, 485, 486] (by decide +kernel) (by decide +kernel)
set_option maxRecDepth 20000 in
theorem gL_law_X2_fit : GoodIn wsL_law (wsV RL 76 RX2 yX2_fit wsX2_fit) := goodIn_app (goodIn_of _ (by decide +kernel)) ggL_law_X2_fit
set_option maxRecDepth 20000 in
theorem ggL_law_X2_thrown : GoodIn wsL_law wsX2_thrown := goodIn_r _ [106, 90, 473, 474, 475, 476, 477, 478, 479, 480, 481, 482, 483, 484, 485, 486] (by decide +kernel) (by decide +kernel)
set_option maxRecDepth 20000 in
theorem gL_law_X2_thrown : GoodIn wsL_law (wsV RL 77 RX2 yX2_thrown wsX2_thrown) := goodIn_app (goodIn_of _ (by decide +kernel)) ggL_law_X2_thrown
set_option maxRecDepth 20000 in
theorem ggL_law_L_step : GoodIn wsL_law wsL_step := goodIn_ca (goodIn_ca (goodIn_ca (goodIn_r _ [109, 39, 40, 41, 110, 111, 112, 2, 113, 114, 115, 116, 117, 46, 47, 60, 61, 62, 63, 15, 52, 53, 54, 118, 119, 120, 58, 59, 121, 122, 123, 124, 125, 126, 127, 51, 128, 129, 130, 49, 78, 67, 68, 69, 487, 488, 489, 490, 491, 492, 493, 494, 495, 496, 497, 472] (by decide +kernel) (by decide +kernel)) (goodIn_sub (fun _ h => List.mem_append_left _ (List.mem_append_left _ (List.mem_append_left _ (List.mem_append_right _ h)))) (by decide +kernel))) (goodIn_sub (fun _ h => List.mem_append_left _ (List.mem_append_right _ h)) (by decide +kernel))) (goodIn_sub (fun _ h => List.mem_append_right _ h) (by decide +kernel))
set_option maxRecDepth 20000 in
theorem gL_law_L_step : GoodIn wsL_law (va_wsS RL 81 yL_step wsL_step) := goodIn_app (goodIn_of _ (by decide +kernel)) ggL_law_L_step
set_option maxRecDepth 20000 in
theorem ggL_law_X2_step : GoodIn wsL_law wsX2_step := goodIn_r _ [134, 23, 90, 135, 136, 137, 5, 138, 21, 139, 140, 141, 142, 143, 144, 145, 146, 147, 148, 25, 31, 32, 33, 34, 473, 474, 475, 476, 477, 478, 479, 480, 481, 482, 483, 484, 485, 486] (by decide +kernel) (by decide +kernel)
set_option maxRecDepth 20000 in
theorem gL_law_X2_step : GoodIn wsL_law (wsV RL 83 RX2 yX2_step wsX2_step) := goodIn_app (goodIn_of _ (by decide +kernel)) ggL_law_X2_step
set_option maxRecDepth 20000 in
theorem ggL_law_L_stepBy : GoodIn wsL_law wsL_stepBy := goodIn_ca (goodIn_ca (goodIn_ca (goodIn_r _ [151, 39, 40, 41, 152, 153, 154, 2, 155, 114, 115, 116, 117, 46, 47, 60, 61, 62, 63, 15, 52, 53, 54, 118, 119, 120, 58, 59, 121, 122, 123, 124, 125, 126, 156, 157, 158, 159, 160, 161, 162, 163, 164, 165, 166, 127, 51, 128, 129, 130, 49, 78, 67, 68, 69, 487, 488, 489, 490, 491, 492, 493, 494, 495, 496, 497, 472] (by decide +kernel) (by decide +kernel)) (goodIn_sub (fun _ h => List.mem_append_left _ (List.mem_append_left _ (List.mem_append_left _ (List.mem_append_right _ h)))) (by decide +kernel))) (goodIn_sub (fun _ h => List.mem_append_left _ (List.mem_append_right _ h)) (by decide +kernel))) (goodIn_sub (fun _ h => List.mem_append_right _ h) (by decide +kernel))
set_option maxRecDepth 20000 in
theorem gL_law_L_stepBy : GoodIn wsL_law (va_wsS RL 86 yL_stepBy wsL_stepBy) := goodIn_app (goodIn_of _ (by decide +kernel)) ggL_law_L_stepBy
set_option maxRecDepth 20000 in
theorem ggL_law_X2_stepBy : GoodIn wsL_law wsX2_stepBy := goodIn_r _ [170, 23, 90, 135, 136, 137, 5, 138, 21, 139, 140, 141, 142, 143, 144, 171, 172, 173, 174, 175, 176, 177, 178, 179, 180, 181, 145, 146, 147, 148, 25, 31, 32, 33, 34, 473, 474, 475, 476, 477, 478, 479, 480, 481, 482, 483, 484, 485, 486] (by decide +kernel) (by decide +kernel)
set_option maxRecDepth 20000 in
theorem gL_law_X2_stepBy : GoodIn wsL_law (wsV RL 89 RX2 yX2_stepBy wsX2_stepBy) := goodIn_app (goodIn_of _ (by decide +kernel)) ggL_law_X2_stepBy
set_option maxRecDepth 20000 in
theorem ggL_law_L_stepOf : GoodIn wsL_law wsL_stepOf := goodIn_ca (goodIn_ca (goodIn_ca (goodIn_r _ [184, 39, 40, 41, 185, 186, 187, 2, 188, 58, 59, 114, 115, 116, 117, 46, 47, 60, 61, 62, 63, 15, 52, 53, 54, 118, 119, 120, 121, 122, 123, 124, 125, 126, 127, 51, 128, 129, 130, 49, 78, 67, 68, 69, 487, 488, 489, 490, 491, 492, 493, 494, 495, 496, 497, 472] (by decide +kernel) (by decide +kernel)) (goodIn_sub (fun _ h => List.mem_append_left _ (List.mem_append_right _ h)) (by decide +kernel))) (goodIn_sub (fun _ h => List.mem_append_left _ (List.mem_append_left _ (List.mem_append_left _ (List.mem_append_right _ h)))) (by decide +kernel))) (goodIn_sub (fun _ h => List.mem_append_right _ h) (by decide +kernel))
set_option maxRecDepth 20000 in
theorem gL_law_L_stepOf : GoodIn wsL_law (va_wsS RL 90 yL_stepOf wsL_stepOf) := goodIn_app (goodIn_of _ (by decide +kernel)) ggL_law_L_stepOf
set_option maxRecDepth 20000 in
theorem ggL_law_X2_stepOf : GoodIn wsL_law wsX2_stepOf := goodIn_r _ [192, 23, 90, 135, 136, 137, 5, 138, 21, 139, 140, 141, 142, 143, 144, 145, 146, 147, 148, 25, 31, 32, 33, 34, 473, 474, 475, 476, 477, 478, 479, 480, 481, 482, 483, 484, 485, 486] (by decide +kernel) (by decide +kernel)
set_option maxRecDepth 20000 in
theorem gL_law_X2_stepOf : GoodIn wsL_law (wsV RL 93 RX2 yX2_stepOf wsX2_stepOf) := goodIn_app (goodIn_of _ (by decide +kernel)) ggL_law_X2_stepOf
set_option maxRecDepth 20000 in
theorem ggL_law_L_bare : GoodIn wsL_law wsL_bare := goodIn_ca (goodIn_r _ [195, 39, 196, 197, 198, 2, 199, 114, 115, 116, 117, 46, 47, 60, 61, 62, 63, 15, 52, 53, 54, 487, 488, 489, 490, 491, 492, 493, 494, 495, 496, 497, 472] (by decide +kernel) (by decide +kernel)) (goodIn_sub (fun _ h => List.mem_append_left _ (List.mem_append_left _ (List.mem_append_left _ (List.mem_append_right _ h)))) (by decide +kernel))
set_option maxRecDepth 20000 in
theorem gL_law_L_bare : GoodIn wsL_law (va_wsS RL 94 yL_bare wsL_bare) := goodIn_app (goodIn_of _ (by decide +kernel)) ggL_law_L_bare
set_option maxRecDepth 20000 in
theorem ggL_law_X2_bare : GoodIn wsL_law wsX2_bare := goodIn_r _ [203, 90, 25, 135, 136, 137, 5, 138, 21, 473, 474, 475, 476, 477, 478, 479, 480, 481, 482, 483, 484, 485, 486] (by decide +kernel) (by decide +kernel)
set_option maxRecDepth 20000 in
theorem gL_law_X2_bare : GoodIn wsL_law (wsV RL 97 RX2 yX2_bare wsX2_bare) := goodIn_app (goodIn_of _ (by decide +kernel)) ggL_law_X2_bare
set_option maxRecDepth 20000 in
theorem ggL_law_L_read : GoodIn wsL_law wsL_read := goodIn_ca (goodIn_ca (goodIn_r _ [206, 39, 40, 207, 208, 209, 2, 210, 114, 115, 116, 117, 46, 47, 60, 61, 62, 63, 15, 52, 53, 54, 156, 157, 158, 58, 59, 159, 160, 161, 162, 163, 164, 165, 166, 211, 212, 213, 214, 215, 216, 217, 218, 219, 220, 221, 222, 223, 224, 225, 226, 227, 228, 229, 230, 231, 232, 233, 234, 235, 236, 237, 238, 239, 240, 241, 242, 243, 244, 245, 246, 247, 248, 249, 250, 251, 252, 253, 254, 255, 256, 257, 258, 259, 260, 261, 262, 263, 264, 265, 266, 267, 268, 269, 270, 271, 272, 273, 274, 275, 276, 51, 277, 278, 84, 82, 85, 83, 279, 70, 280, 281, 282, 487, 488, 489, 490, 491, 492, 493, 494, 495, 496, 497, 472] (by decide +kernel) (by decide +kernel)) (goodIn_sub (fun _ h => List.mem_append_left _ (List.mem_append_left _ (List.mem_append_left _ (List.mem_append_right _ h)))) (by decide +kernel))) (goodIn_sub (fun _ h => List.mem_append_left _ (List.mem_append_right _ h)) (by decide +kernel))
set_option maxRecDepth 20000 in
theorem gL_law_L_read : GoodIn wsL_law (va_wsS RL 98 yL_read wsL_read) := goodIn_app (goodIn_of _ (by decide +kernel)) ggL_law_L_read
set_option maxRecDepth 20000 in
theorem ggL_law_X2_read : GoodIn wsL_law wsX2_read := goodIn_r _ [286, 23, 90, 135, 136, 137, 5, 138, 21, 171, 172, 173, 174, 175, 176, 177, 178, 179, 180, 181, 287, 288, 289, 290, 25, 26, 24, 27, 28, 29, 30, 291, 292, 293, 294, 32, 33, 34, 31, 295, 296, 297, 298, 299, 300, 301, 302, 303, 304, 305, 306, 307, 308, 309, 310, 311, 312, 313, 314, 315, 316, 317, 318, 319, 320, 321, 322, 323, 473, 474, 475, 476, 477, 478, 479, 480, 481, 482, 483, 484, 485, 486] (by decide +kernel) (by decide +kernel)
set_option maxRecDepth 20000 in
theorem gL_law_X2_read : GoodIn wsL_law (wsV RL 101 RX2 yX2_read wsX2_read) := goodIn_app (goodIn_of _ (by decide +kernel)) ggL_law_X2_read
set_option maxRecDepth 20000 in
theorem ggL_law_L_hand : GoodIn wsL_law wsL_hand := goodIn_ca (goodIn_ca (goodIn_r _ [326, 39, 40, 327, 328, 329, 2, 330, 58, 59, 114, 115, 116, 117, 46, 47, 60, 61, 62, 63, 15, 52, 53, 54, 331, 332, 333, 334, 335, 336, 337, 338, 339, 165, 340, 341, 342, 166, 163, 343, 344, 345, 346, 347, 348, 349, 350, 351, 352, 353, 273, 274, 275, 250, 251, 252, 230, 231, 232, 164, 226, 211, 212, 213, 214, 215, 216, 217, 218, 219, 220, 221, 222, 223, 224, 225, 227, 228, 229, 233, 234, 235, 236, 237, 238, 239, 240, 241, 162, 242, 243, 244, 245, 246, 247, 248, 249, 253, 254, 255, 256, 257, 258, 259, 260, 261, 262, 263, 264, 265, 266, 267, 268, 269, 270, 271, 272, 276, 51, 277, 278, 84, 82, 85, 83, 279, 70, 280, 281, 282, 487, 488, 489, 490, 491, 492, 493, 494, 495, 496, 497, 472] (by decide +kernel) (by decide +kernel)) (goodIn_sub (fun _ h => List.mem_append_left _ (List.mem_append_right _ h)) (by decide +kernel))) (goodIn_sub (fun _ h => List.mem_append_left _ (List.mem_append_left _ (List.mem_append_left _ (List.mem_append_right _ h)))) (by decide +kernel))
set_option maxRecDepth 20000 in
theorem gL_law_L_hand : GoodIn wsL_law (va_wsS RL 102 yL_hand wsL_hand) := goodIn_app (goodIn_of _ (by decide +kernel)) ggL_law_L_hand
set_option maxRecDepth 20000 in
theorem ggL_law_X2_hand : GoodIn wsL_law wsX2_hand := goodIn_r _ [357, 90, 23, 24, 135, 136, 137, 5, 138, 21, 358, 359, 360, 361, 362, 363, 175, 318, 364, 365, 181, 366, 367, 368, 369, 370, 371, 372, 373, 317, 374, 375, 376, 377, 378, 379, 287, 288, 289, 290, 25, 26, 27, 28, 29, 30, 291, 292, 293, 294, 32, 33, 34, 31, 295, 296, 297, 174, 180, 298, 299, 300, 301, 302, 303, 304, 305, 306, 307, 308, 309, 310, 311, 312, 313, 314, 315, 316, 319, 320, 321, 322, 323, 473, 474, 475, 476, 477, 478, 479, 480, 481, 482, 483, 484, 485, 486] (by decide +kernel) (by decide +kernel)
set_option maxRecDepth 20000 in
theorem gL_law_X2_hand : GoodIn wsL_law (wsV RL 104 RX2 yX2_hand wsX2_hand) := goodIn_app (goodIn_of _ (by decide +kernel)) ggL_law_X2_hand
set_option maxRecDepth 20000 in
theorem ggL_law_L_clear : GoodIn wsL_law wsL_clear := goodIn_ca (goodIn_r _ [382, 39, 383, 384, 385, 2, 386, 114, 115, 116, 117, 46, 47, 60, 61, 62, 63, 15, 52, 53, 54, 487, 488, 489, 490, 491, 492, 493, 494, 495, 496, 497, 472] (by decide +kernel) (by decide +kernel)) (goodIn_sub (fun _ h => List.mem_append_left _ (List.mem_append_left _ (List.mem_append_left _ (List.mem_append_right _ h)))) (by decide +kernel))
set_option maxRecDepth 20000 in
theorem gL_law_L_clear : GoodIn wsL_law (va_wsS RL 105 yL_clear wsL_clear) := goodIn_app (goodIn_of _ (by decide +kernel)) ggL_law_L_clear
set_option maxRecDepth 20000 in
theorem ggL_law_X2_clear : GoodIn wsL_law wsX2_clear := goodIn_r _ [390, 90, 28, 135, 136, 137, 5, 138, 21, 473, 474, 475, 476, 477, 478, 479, 480, 481, 482, 483, 484, 485, 486] (by decide +kernel) (by decide +kernel)
set_option maxRecDepth 20000 in
theorem gL_law_X2_clear : GoodIn wsL_law (wsV RL 107 RX2 yX2_clear wsX2_clear) := goodIn_app (goodIn_of _ (by decide +kernel)) ggL_law_X2_clear
set_option maxRecDepth 20000 in
theorem ggL_law_L_value : GoodIn wsL_law wsL_value := goodIn_ca (goodIn_r _ [393, 39, 394, 395, 396, 2, 397, 114, 115, 116, 117, 46, 47, 60, 61, 62, 63, 15, 52, 53, 54, 487, 488, 489, 490, 491, 492, 493, 494, 495, 496, 497, 472] (by decide +kernel) (by decide +kernel)) (goodIn_sub (fun _ h => List.mem_append_left _ (List.mem_append_left _ (List.mem_append_left _ (List.mem_append_right _ h)))) (by decide +kernel))
set_option maxRecDepth 20000 in
theorem gL_law_L_value : GoodIn wsL_law (va_wsS RL 108 yL_value wsL_value) := goodIn_app (goodIn_of _ (by decide +kernel)) ggL_law_L_value
set_option maxRecDepth 20000 in
theorem ggL_law_X2_value : GoodIn wsL_law wsX2_value := goodIn_r _ [401, 90, 24, 135, 136, 137, 5, 138, 21, 473, 474, 475, 476, 477, 478, 479, 480, 481, 482, 483, 484, 485, 486] (by decide +kernel) (by decide +kernel)
set_option maxRecDepth 20000 in
theorem gL_law_X2_value : GoodIn wsL_law (wsV RL 110 RX2 yX2_value wsX2_value) := goodIn_app (goodIn_of _ (by decide +kernel)) ggL_law_X2_value
set_option maxRecDepth 20000 in
theorem ggL_law_L_mark : GoodIn wsL_law wsL_mark := goodIn_ca (goodIn_ca (goodIn_r _ [404, 39, 41, 405, 406, 407, 2, 408, 48, 49, 114, 115, 116, 117, 46, 47, 60, 61, 62, 63, 15, 52, 53, 54, 487, 488, 489, 490, 491, 492, 493, 494, 495, 496, 497, 472] (by decide +kernel) (by decide +kernel)) (goodIn_sub (fun _ h => List.mem_append_left _ (List.mem_append_left _ (List.mem_append_right _ h))) (by decide +kernel))) (goodIn_sub (fun _ h => List.mem_append_left _ (List.mem_append_left _ (List.mem_append_left _ (List.mem_append_right _ h)))) (by decide +kernel))
set_option maxRecDepth 20000 in
theorem gL_law_L_mark : GoodIn wsL_law (va_wsS RL 111 yL_mark wsL_mark) := goodIn_app (goodIn_of _ (by decide +kernel)) ggL_law_L_mark
set_option maxRecDepth 20000 in
theorem ggL_law_X2_mark : GoodIn wsL_law wsX2_mark := goodIn_r _ [412, 28, 90, 29, 30, 135, 136, 137, 5, 138, 21, 473, 474, 475, 476, 477, 478, 479, 480, 481, 482, 483, 484, 485, 486] (by decide +kernel) (by decide +kernel)
set_option maxRecDepth 20000 in
theorem gL_law_X2_mark : GoodIn wsL_law (wsV RL 114 RX2 yX2_mark wsX2_mark) := goodIn_app (goodIn_of _ (by decide +kernel)) ggL_law_X2_mark
set_option maxRecDepth 20000 in
theorem ggL_law_L_about : GoodIn wsL_law wsL_about := goodIn_ca (goodIn_ca (goodIn_r _ [415, 39, 40, 416, 417, 418, 2, 419, 58, 59, 114, 115, 116, 117, 46, 47, 60, 61, 62, 63, 15, 52, 53, 54, 420, 281, 282, 71, 72, 73, 74, 75, 51, 76, 77, 78, 68, 487, 488, 489, 490, 491, 492, 493, 494, 495, 496, 497, 472] (by decide +kernel) (by decide +kernel)) (goodIn_sub (fun _ h => List.mem_append_left _ (List.mem_append_right _ h)) (by decide +kernel))) (goodIn_sub (fun _ h => List.mem_append_left _ (List.mem_append_left _ (List.mem_append_left _ (List.mem_append_right _ h)))) (by decide +kernel))
set_option maxRecDepth 20000 in
theorem gL_law_L_about : GoodIn wsL_law (va_wsS RL 115 yL_about wsL_about) := goodIn_app (goodIn_of _ (by decide +kernel)) ggL_law_L_about
set_option maxRecDepth 20000 in
theorem ggL_law_X2_about : GoodIn wsL_law wsX2_about := goodIn_r _ [424, 90, 23, 25, 26, 27, 24, 135, 136, 137, 5, 138, 21, 91, 92, 93, 94, 95, 96, 97, 98, 32, 34, 473, 474, 475, 476, 477, 478, 479, 480, 481, 482, 483, 484, 485, 486] (by decide +kernel) (by decide +kernel)
set_option maxRecDepth 20000 in
theorem gL_law_X2_about : GoodIn wsL_law (wsV RL 117 RX2 yX2_about wsX2_about) := goodIn_app (goodIn_of _ (by decide +kernel)) ggL_law_X2_about
set_option maxRecDepth 20000 in
theorem ggL_law_L_stepAt : GoodIn wsL_law wsL_stepAt := goodIn_ca (goodIn_ca (goodIn_r _ [427, 39, 40, 428, 429, 430, 2, 431, 46, 47, 58, 59, 114, 115, 116, 117, 60, 61, 62, 63, 15, 52, 53, 54, 432, 433, 434, 124, 125, 126, 487, 488, 489, 490, 491, 492, 493, 494, 495, 496, 497, 472] (by decide +kernel) (by decide +kernel)) (goodIn_sub (fun _ h => List.mem_append_left _ (List.mem_append_left _ (List.mem_append_left _ (List.mem_append_right _ h)))) (by decide +kernel))) (goodIn_sub (fun _ h => List.mem_append_left _ (List.mem_append_right _ h)) (by decide +kernel))
set_option maxRecDepth 20000 in
theorem gL_law_L_stepAt : GoodIn wsL_law (va_wsS RL 118 yL_stepAt wsL_stepAt) := goodIn_app (goodIn_of _ (by decide +kernel)) ggL_law_L_stepAt
set_option maxRecDepth 20000 in
theorem ggL_law_X2_stepAt : GoodIn wsL_law wsX2_stepAt := goodIn_r _ [438, 25, 90, 31, 32, 34, 135, 136, 137, 5, 138, 21, 473, 474, 475, 476, 477, 478, 479, 480, 481, 482, 483, 484, 485, 486] (by decide +kernel) (by decide +kernel)
set_option maxRecDepth 20000 in
theorem gL_law_X2_stepAt : GoodIn wsL_law (wsV RL 120 RX2 yX2_stepAt wsX2_stepAt) := goodIn_app (goodIn_of _ (by decide +kernel)) ggL_law_X2_stepAt
set_option maxRecDepth 20000 in
theorem ggL_law_L_rank : GoodIn wsL_law wsL_rank := goodIn_ca (goodIn_r _ [441, 39, 442, 443, 444, 2, 445, 15, 114, 115, 116, 117, 46, 47, 60, 61, 62, 63, 52, 53, 54, 236, 237, 238, 239, 240, 241, 162, 227, 228, 229, 472, 487, 488, 489, 490, 491, 492, 493, 494, 495, 496, 497] (by decide +kernel) (by decide +kernel)) (goodIn_sub (fun _ h => List.mem_append_left _ (List.mem_append_left _ (List.mem_append_left _ (List.mem_append_right _ h)))) (by decide +kernel))
set_option maxRecDepth 20000 in
theorem gL_law_L_rank : GoodIn wsL_law (va_wsS RL 121 yL_rank wsL_rank) := goodIn_app (goodIn_of _ (by decide +kernel)) ggL_law_L_rank
set_option maxRecDepth 20000 in
theorem ggL_law_X2_rank : GoodIn wsL_law wsX2_rank := goodIn_r _ [449, 90, 21, 23, 24, 135, 136, 137, 5, 138, 298, 299, 300, 301, 302, 303, 175, 180, 473, 474, 475, 476, 477, 478, 479, 480, 481, 482, 483, 484, 485, 486] (by decide +kernel) (by decide +kernel)
set_option maxRecDepth 20000 in
theorem gL_law_X2_rank : GoodIn wsL_law (wsV RL 123 RX2 yX2_rank wsX2_rank) := goodIn_app (goodIn_of _ (by decide +kernel)) ggL_law_X2_rank
set_option maxRecDepth 20000 in
theorem ggL_law_L_most : GoodIn wsL_law wsL_most := goodIn_ca (goodIn_ca (goodIn_r _ [452, 40, 41, 453, 454, 455, 2, 456, 48, 49, 15, 55, 56, 57, 58, 59, 457, 458, 459, 236, 237, 238, 239, 240, 241, 162, 227, 228, 229, 472, 487, 488, 489, 490, 491, 492, 493, 494, 495, 496, 497] (by decide +kernel) (by decide +kernel)) (goodIn_sub (fun _ h => List.mem_append_left _ (List.mem_append_left _ (List.mem_append_right _ h))) (by decide +kernel))) (goodIn_sub (fun _ h => List.mem_append_left _ (List.mem_append_right _ h)) (by decide +kernel))
set_option maxRecDepth 20000 in
theorem gL_law_L_most : GoodIn wsL_law (va_wsS RL 124 yL_most wsL_most) := goodIn_app (goodIn_of _ (by decide +kernel)) ggL_law_L_most
set_option maxRecDepth 20000 in
theorem ggL_law_X2_most : GoodIn wsL_law wsX2_most := goodIn_r _ [463, 90, 21, 23, 24, 298, 299, 5, 300, 301, 302, 303, 175, 180, 473, 474, 475, 476, 477, 478, 479, 480, 481, 482, 483, 484, 485, 486] (by decide +kernel) (by decide +kernel)
set_option maxRecDepth 20000 in
theorem gL_law_X2_most : GoodIn wsL_law (wsV RL 126 RX2 yX2_most wsX2_most) := goodIn_app (goodIn_of _ (by decide +kernel)) ggL_law_X2_most
set_option maxRecDepth 20000 in
theorem ggL_law_X1_gauges : GoodIn wsL_law wsX1_gauges := goodIn_r _ [467, 15, 472] (by decide +kernel) (by decide +kernel)
set_option maxRecDepth 20000 in
theorem gL_law_X1_gauges : GoodIn wsL_law (wsV RL 127 RX1 yX1_gauges wsX1_gauges) := goodIn_app (goodIn_of _ (by decide +kernel)) ggL_law_X1_gauges
set_option maxRecDepth 20000 in
theorem ggL_law_X2_gauges : GoodIn wsL_law wsX2_gauges := goodIn_r _ [471, 90, 21, 473, 474, 475, 476, 477, 478, 479, 480, 481, 482, 483, 484, 485, 486] (by decide +kernel) (by decide +kernel)
set_option maxRecDepth 20000 in
theorem gL_law_X2_gauges : GoodIn wsL_law (wsV RL 130 RX2 yX2_gauges wsX2_gauges) := goodIn_app (goodIn_of _ (by decide +kernel)) ggL_law_X2_gauges
theorem dL_law_0 : decode cL_law 0 = .ok (.new 8, 3) := by decide +kernel
theorem dL_law_3 : decode cL_law 3 = .ok (.dup, 1) := by decide +kernel
theorem dL_law_4 : decode cL_law 4 = .ok (.invokespecial 67, 3) := by decide +kernel
theorem dL_law_7 : decode cL_law 7 = .ok (.astore_n 1, 1) := by decide +kernel
theorem dL_law_8 : decode cL_law 8 = .ok (.new 68, 3) := by decide +kernel
theorem dL_law_11 : decode cL_law 11 = .ok (.dup, 1) := by decide +kernel
theorem dL_law_12 : decode cL_law 12 = .ok (.invokespecial 70, 3) := by decide +kernel
theorem dL_law_15 : decode cL_law 15 = .ok (.astore_n 2, 1) := by decide +kernel
theorem dL_law_16 : decode cL_law 16 = .ok (.iconst 1, 1) := by decide +kernel
theorem dL_law_17 : decode cL_law 17 = .ok (.newarray .long, 2) := by decide +kernel
theorem dL_law_19 : decode cL_law 19 = .ok (.astore_n 3, 1) := by decide +kernel
theorem dL_law_20 : decode cL_law 20 = .ok (.iconst 0, 1) := by decide +kernel
theorem dL_law_21 : decode cL_law 21 = .ok (.istore 4, 2) := by decide +kernel
theorem dL_law_23 : decode cL_law 23 = .ok (.iload 4, 2) := by decide +kernel
theorem dL_law_25 : decode cL_law 25 = .ok (.aload_n 0, 1) := by decide +kernel
theorem dL_law_26 : decode cL_law 26 = .ok (.arraylength, 1) := by decide +kernel
theorem dL_law_27 : decode cL_law 27 = .ok (.iconst 5, 1) := by decide +kernel
theorem dL_law_28 : decode cL_law 28 = .ok (.isub, 1) := by decide +kernel
theorem dL_law_29 : decode cL_law 29 = .ok (.if_icmp .gt 1147, 3) := by decide +kernel
theorem dL_law_32 : decode cL_law 32 = .ok (.aload_n 0, 1) := by decide +kernel
theorem dL_law_33 : decode cL_law 33 = .ok (.iload 4, 2) := by decide +kernel
theorem dL_law_35 : decode cL_law 35 = .ok (.iaload, 1) := by decide +kernel
theorem dL_law_36 : decode cL_law 36 = .ok (.bipush 15, 2) := by decide +kernel
theorem dL_law_38 : decode cL_law 38 = .ok (.iand, 1) := by decide +kernel
theorem dL_law_39 : decode cL_law 39 = .ok (.tableswitch 1131 0 14 #[73, 148, 216, 328, 408, 464, 563, 630, 693, 748, 831, 899, 979, 1035, 1118], 73) := by decide +kernel
theorem dL_law_112 : decode cL_law 112 = .ok (.aload_n 1, 1) := by decide +kernel
theorem dL_law_113 : decode cL_law 113 = .ok (.aload_n 0, 1) := by decide +kernel
theorem dL_law_114 : decode cL_law 114 = .ok (.iload 4, 2) := by decide +kernel
theorem dL_law_116 : decode cL_law 116 = .ok (.iconst 1, 1) := by decide +kernel
theorem dL_law_117 : decode cL_law 117 = .ok (.iadd, 1) := by decide +kernel
theorem dL_law_118 : decode cL_law 118 = .ok (.iaload, 1) := by decide +kernel
theorem dL_law_119 : decode cL_law 119 = .ok (.aload_n 0, 1) := by decide +kernel
theorem dL_law_120 : decode cL_law 120 = .ok (.iload 4, 2) := by decide +kernel
theorem dL_law_122 : decode cL_law 122 = .ok (.iconst 2, 1) := by decide +kernel
theorem dL_law_123 : decode cL_law 123 = .ok (.iadd, 1) := by decide +kernel
theorem dL_law_124 : decode cL_law 124 = .ok (.iaload, 1) := by decide +kernel
theorem dL_law_125 : decode cL_law 125 = .ok (.aload_n 3, 1) := by decide +kernel
theorem dL_law_126 : decode cL_law 126 = .ok (.invokestatic 71, 3) := by decide +kernel
theorem dL_law_129 : decode cL_law 129 = .ok (.istore 5, 2) := by decide +kernel
theorem dL_law_131 : decode cL_law 131 = .ok (.aload_n 2, 1) := by decide +kernel
theorem dL_law_132 : decode cL_law 132 = .ok (.aload_n 0, 1) := by decide +kernel
theorem dL_law_133 : decode cL_law 133 = .ok (.iload 4, 2) := by decide +kernel
theorem dL_law_135 : decode cL_law 135 = .ok (.iconst 1, 1) := by decide +kernel
theorem dL_law_136 : decode cL_law 136 = .ok (.iadd, 1) := by decide +kernel
theorem dL_law_137 : decode cL_law 137 = .ok (.iaload, 1) := by decide +kernel
theorem dL_law_138 : decode cL_law 138 = .ok (.aload_n 0, 1) := by decide +kernel
theorem dL_law_139 : decode cL_law 139 = .ok (.iload 4, 2) := by decide +kernel
theorem dL_law_141 : decode cL_law 141 = .ok (.iconst 2, 1) := by decide +kernel
theorem dL_law_142 : decode cL_law 142 = .ok (.iadd, 1) := by decide +kernel
theorem dL_law_143 : decode cL_law 143 = .ok (.iaload, 1) := by decide +kernel
theorem dL_law_144 : decode cL_law 144 = .ok (.invokevirtual 76, 3) := by decide +kernel
theorem dL_law_147 : decode cL_law 147 = .ok (.istore 6, 2) := by decide +kernel
theorem dL_law_149 : decode cL_law 149 = .ok (.aload_n 2, 1) := by decide +kernel
theorem dL_law_150 : decode cL_law 150 = .ok (.invokevirtual 77, 3) := by decide +kernel
theorem dL_law_153 : decode cL_law 153 = .ok (.iload 5, 2) := by decide +kernel
theorem dL_law_155 : decode cL_law 155 = .ok (.if_icmp .eq 5, 3) := by decide +kernel
theorem dL_law_158 : decode cL_law 158 = .ok (.iconst 0, 1) := by decide +kernel
theorem dL_law_159 : decode cL_law 159 = .ok (.ireturn, 1) := by decide +kernel
theorem dL_law_160 : decode cL_law 160 = .ok (.iload 5, 2) := by decide +kernel
theorem dL_law_162 : decode cL_law 162 = .ok (.ifCond .ne 22, 3) := by decide +kernel
theorem dL_law_165 : decode cL_law 165 = .ok (.aload_n 3, 1) := by decide +kernel
theorem dL_law_166 : decode cL_law 166 = .ok (.iconst 0, 1) := by decide +kernel
theorem dL_law_167 : decode cL_law 167 = .ok (.laload, 1) := by decide +kernel
theorem dL_law_168 : decode cL_law 168 = .ok (.iload 6, 2) := by decide +kernel
theorem dL_law_170 : decode cL_law 170 = .ok (.ifCond .eq 7, 3) := by decide +kernel
theorem dL_law_173 : decode cL_law 173 = .ok (.lconst 1, 1) := by decide +kernel
theorem dL_law_174 : decode cL_law 174 = .ok (.goto 4, 3) := by decide +kernel
theorem dL_law_177 : decode cL_law 177 = .ok (.lconst 0, 1) := by decide +kernel
theorem dL_law_178 : decode cL_law 178 = .ok (.lcmp, 1) := by decide +kernel
theorem dL_law_179 : decode cL_law 179 = .ok (.ifCond .eq 5, 3) := by decide +kernel
theorem dL_law_182 : decode cL_law 182 = .ok (.iconst 0, 1) := by decide +kernel
theorem dL_law_183 : decode cL_law 183 = .ok (.ireturn, 1) := by decide +kernel
theorem dL_law_184 : decode cL_law 184 = .ok (.goto 986, 3) := by decide +kernel
theorem dL_law_187 : decode cL_law 187 = .ok (.aload_n 1, 1) := by decide +kernel
theorem dL_law_188 : decode cL_law 188 = .ok (.aload_n 0, 1) := by decide +kernel
theorem dL_law_189 : decode cL_law 189 = .ok (.iload 4, 2) := by decide +kernel
theorem dL_law_191 : decode cL_law 191 = .ok (.iconst 1, 1) := by decide +kernel
theorem dL_law_192 : decode cL_law 192 = .ok (.iadd, 1) := by decide +kernel
theorem dL_law_193 : decode cL_law 193 = .ok (.iaload, 1) := by decide +kernel
theorem dL_law_194 : decode cL_law 194 = .ok (.aload_n 0, 1) := by decide +kernel
theorem dL_law_195 : decode cL_law 195 = .ok (.iload 4, 2) := by decide +kernel
theorem dL_law_197 : decode cL_law 197 = .ok (.iconst 2, 1) := by decide +kernel
theorem dL_law_198 : decode cL_law 198 = .ok (.iadd, 1) := by decide +kernel
theorem dL_law_199 : decode cL_law 199 = .ok (.iaload, 1) := by decide +kernel
theorem dL_law_200 : decode cL_law 200 = .ok (.aload_n 3, 1) := by decide +kernel
theorem dL_law_201 : decode cL_law 201 = .ok (.invokestatic 81, 3) := by decide +kernel
theorem dL_law_204 : decode cL_law 204 = .ok (.istore 5, 2) := by decide +kernel
theorem dL_law_206 : decode cL_law 206 = .ok (.aload_n 2, 1) := by decide +kernel
theorem dL_law_207 : decode cL_law 207 = .ok (.aload_n 0, 1) := by decide +kernel
theorem dL_law_208 : decode cL_law 208 = .ok (.iload 4, 2) := by decide +kernel
theorem dL_law_210 : decode cL_law 210 = .ok (.iconst 1, 1) := by decide +kernel
theorem dL_law_211 : decode cL_law 211 = .ok (.iadd, 1) := by decide +kernel
theorem dL_law_212 : decode cL_law 212 = .ok (.iaload, 1) := by decide +kernel
theorem dL_law_213 : decode cL_law 213 = .ok (.aload_n 0, 1) := by decide +kernel
theorem dL_law_214 : decode cL_law 214 = .ok (.iload 4, 2) := by decide +kernel
theorem dL_law_216 : decode cL_law 216 = .ok (.iconst 2, 1) := by decide +kernel
theorem dL_law_217 : decode cL_law 217 = .ok (.iadd, 1) := by decide +kernel
theorem dL_law_218 : decode cL_law 218 = .ok (.iaload, 1) := by decide +kernel
theorem dL_law_219 : decode cL_law 219 = .ok (.invokevirtual 83, 3) := by decide +kernel
theorem dL_law_222 : decode cL_law 222 = .ok (.istore 6, 2) := by decide +kernel
theorem dL_law_224 : decode cL_law 224 = .ok (.aload_n 2, 1) := by decide +kernel
theorem dL_law_225 : decode cL_law 225 = .ok (.invokevirtual 77, 3) := by decide +kernel
theorem dL_law_228 : decode cL_law 228 = .ok (.iload 5, 2) := by decide +kernel
theorem dL_law_230 : decode cL_law 230 = .ok (.if_icmp .eq 5, 3) := by decide +kernel
theorem dL_law_233 : decode cL_law 233 = .ok (.iconst 0, 1) := by decide +kernel
theorem dL_law_234 : decode cL_law 234 = .ok (.ireturn, 1) := by decide +kernel
theorem dL_law_235 : decode cL_law 235 = .ok (.iload 5, 2) := by decide +kernel
theorem dL_law_237 : decode cL_law 237 = .ok (.ifCond .ne 15, 3) := by decide +kernel
theorem dL_law_240 : decode cL_law 240 = .ok (.aload_n 3, 1) := by decide +kernel
theorem dL_law_241 : decode cL_law 241 = .ok (.iconst 0, 1) := by decide +kernel
theorem dL_law_242 : decode cL_law 242 = .ok (.laload, 1) := by decide +kernel
theorem dL_law_243 : decode cL_law 243 = .ok (.iload 6, 2) := by decide +kernel
theorem dL_law_245 : decode cL_law 245 = .ok (.i2l, 1) := by decide +kernel
theorem dL_law_246 : decode cL_law 246 = .ok (.lcmp, 1) := by decide +kernel
theorem dL_law_247 : decode cL_law 247 = .ok (.ifCond .eq 5, 3) := by decide +kernel
theorem dL_law_250 : decode cL_law 250 = .ok (.iconst 0, 1) := by decide +kernel
theorem dL_law_251 : decode cL_law 251 = .ok (.ireturn, 1) := by decide +kernel
theorem dL_law_252 : decode cL_law 252 = .ok (.goto 918, 3) := by decide +kernel
theorem dL_law_255 : decode cL_law 255 = .ok (.aload_n 1, 1) := by decide +kernel
theorem dL_law_256 : decode cL_law 256 = .ok (.aload_n 0, 1) := by decide +kernel
theorem dL_law_257 : decode cL_law 257 = .ok (.iload 4, 2) := by decide +kernel
theorem dL_law_259 : decode cL_law 259 = .ok (.iconst 1, 1) := by decide +kernel
theorem dL_law_260 : decode cL_law 260 = .ok (.iadd, 1) := by decide +kernel
theorem dL_law_261 : decode cL_law 261 = .ok (.iaload, 1) := by decide +kernel
theorem dL_law_262 : decode cL_law 262 = .ok (.aload_n 0, 1) := by decide +kernel
theorem dL_law_263 : decode cL_law 263 = .ok (.iload 4, 2) := by decide +kernel
theorem dL_law_265 : decode cL_law 265 = .ok (.iconst 2, 1) := by decide +kernel
theorem dL_law_266 : decode cL_law 266 = .ok (.iadd, 1) := by decide +kernel
theorem dL_law_267 : decode cL_law 267 = .ok (.iaload, 1) := by decide +kernel
theorem dL_law_268 : decode cL_law 268 = .ok (.aload_n 0, 1) := by decide +kernel
theorem dL_law_269 : decode cL_law 269 = .ok (.iload 4, 2) := by decide +kernel
theorem dL_law_271 : decode cL_law 271 = .ok (.iconst 3, 1) := by decide +kernel
theorem dL_law_272 : decode cL_law 272 = .ok (.iadd, 1) := by decide +kernel
theorem dL_law_273 : decode cL_law 273 = .ok (.iaload, 1) := by decide +kernel
theorem dL_law_274 : decode cL_law 274 = .ok (.i2l, 1) := by decide +kernel
theorem dL_law_275 : decode cL_law 275 = .ok (.bipush 32, 2) := by decide +kernel
theorem dL_law_277 : decode cL_law 277 = .ok (.lshl, 1) := by decide +kernel
theorem dL_law_278 : decode cL_law 278 = .ok (.aload_n 0, 1) := by decide +kernel
theorem dL_law_279 : decode cL_law 279 = .ok (.iload 4, 2) := by decide +kernel
theorem dL_law_281 : decode cL_law 281 = .ok (.iconst 4, 1) := by decide +kernel
theorem dL_law_282 : decode cL_law 282 = .ok (.iadd, 1) := by decide +kernel
theorem dL_law_283 : decode cL_law 283 = .ok (.iaload, 1) := by decide +kernel
theorem dL_law_284 : decode cL_law 284 = .ok (.i2l, 1) := by decide +kernel
theorem dL_law_285 : decode cL_law 285 = .ok (.ldc2_w 84, 3) := by decide +kernel
theorem dL_law_288 : decode cL_law 288 = .ok (.land, 1) := by decide +kernel
theorem dL_law_289 : decode cL_law 289 = .ok (.lor, 1) := by decide +kernel
theorem dL_law_290 : decode cL_law 290 = .ok (.aload_n 3, 1) := by decide +kernel
theorem dL_law_291 : decode cL_law 291 = .ok (.invokestatic 86, 3) := by decide +kernel
theorem dL_law_294 : decode cL_law 294 = .ok (.istore 5, 2) := by decide +kernel
theorem dL_law_296 : decode cL_law 296 = .ok (.aload_n 2, 1) := by decide +kernel
theorem dL_law_297 : decode cL_law 297 = .ok (.aload_n 0, 1) := by decide +kernel
theorem dL_law_298 : decode cL_law 298 = .ok (.iload 4, 2) := by decide +kernel
theorem dL_law_300 : decode cL_law 300 = .ok (.iconst 1, 1) := by decide +kernel
theorem dL_law_301 : decode cL_law 301 = .ok (.iadd, 1) := by decide +kernel
theorem dL_law_302 : decode cL_law 302 = .ok (.iaload, 1) := by decide +kernel
theorem dL_law_303 : decode cL_law 303 = .ok (.aload_n 0, 1) := by decide +kernel
theorem dL_law_304 : decode cL_law 304 = .ok (.iload 4, 2) := by decide +kernel
theorem dL_law_306 : decode cL_law 306 = .ok (.iconst 2, 1) := by decide +kernel
theorem dL_law_307 : decode cL_law 307 = .ok (.iadd, 1) := by decide +kernel
theorem dL_law_308 : decode cL_law 308 = .ok (.iaload, 1) := by decide +kernel
theorem dL_law_309 : decode cL_law 309 = .ok (.aload_n 0, 1) := by decide +kernel
theorem dL_law_310 : decode cL_law 310 = .ok (.iload 4, 2) := by decide +kernel
theorem dL_law_312 : decode cL_law 312 = .ok (.iconst 3, 1) := by decide +kernel
theorem dL_law_313 : decode cL_law 313 = .ok (.iadd, 1) := by decide +kernel
theorem dL_law_314 : decode cL_law 314 = .ok (.iaload, 1) := by decide +kernel
theorem dL_law_315 : decode cL_law 315 = .ok (.i2l, 1) := by decide +kernel
theorem dL_law_316 : decode cL_law 316 = .ok (.bipush 32, 2) := by decide +kernel
theorem dL_law_318 : decode cL_law 318 = .ok (.lshl, 1) := by decide +kernel
theorem dL_law_319 : decode cL_law 319 = .ok (.aload_n 0, 1) := by decide +kernel
theorem dL_law_320 : decode cL_law 320 = .ok (.iload 4, 2) := by decide +kernel
theorem dL_law_322 : decode cL_law 322 = .ok (.iconst 4, 1) := by decide +kernel
theorem dL_law_323 : decode cL_law 323 = .ok (.iadd, 1) := by decide +kernel
theorem dL_law_324 : decode cL_law 324 = .ok (.iaload, 1) := by decide +kernel
theorem dL_law_325 : decode cL_law 325 = .ok (.i2l, 1) := by decide +kernel
theorem dL_law_326 : decode cL_law 326 = .ok (.ldc2_w 84, 3) := by decide +kernel
theorem dL_law_329 : decode cL_law 329 = .ok (.land, 1) := by decide +kernel
theorem dL_law_330 : decode cL_law 330 = .ok (.lor, 1) := by decide +kernel
theorem dL_law_331 : decode cL_law 331 = .ok (.invokevirtual 89, 3) := by decide +kernel
theorem dL_law_334 : decode cL_law 334 = .ok (.istore 6, 2) := by decide +kernel
theorem dL_law_336 : decode cL_law 336 = .ok (.aload_n 2, 1) := by decide +kernel
theorem dL_law_337 : decode cL_law 337 = .ok (.invokevirtual 77, 3) := by decide +kernel
theorem dL_law_340 : decode cL_law 340 = .ok (.iload 5, 2) := by decide +kernel
theorem dL_law_342 : decode cL_law 342 = .ok (.if_icmp .eq 5, 3) := by decide +kernel
theorem dL_law_345 : decode cL_law 345 = .ok (.iconst 0, 1) := by decide +kernel
theorem dL_law_346 : decode cL_law 346 = .ok (.ireturn, 1) := by decide +kernel
theorem dL_law_347 : decode cL_law 347 = .ok (.iload 5, 2) := by decide +kernel
theorem dL_law_349 : decode cL_law 349 = .ok (.ifCond .ne 15, 3) := by decide +kernel
theorem dL_law_352 : decode cL_law 352 = .ok (.aload_n 3, 1) := by decide +kernel
theorem dL_law_353 : decode cL_law 353 = .ok (.iconst 0, 1) := by decide +kernel
theorem dL_law_354 : decode cL_law 354 = .ok (.laload, 1) := by decide +kernel
theorem dL_law_355 : decode cL_law 355 = .ok (.iload 6, 2) := by decide +kernel
theorem dL_law_357 : decode cL_law 357 = .ok (.i2l, 1) := by decide +kernel
theorem dL_law_358 : decode cL_law 358 = .ok (.lcmp, 1) := by decide +kernel
theorem dL_law_359 : decode cL_law 359 = .ok (.ifCond .eq 5, 3) := by decide +kernel
theorem dL_law_362 : decode cL_law 362 = .ok (.iconst 0, 1) := by decide +kernel
theorem dL_law_363 : decode cL_law 363 = .ok (.ireturn, 1) := by decide +kernel
theorem dL_law_364 : decode cL_law 364 = .ok (.goto 806, 3) := by decide +kernel
theorem dL_law_367 : decode cL_law 367 = .ok (.aload_n 1, 1) := by decide +kernel
theorem dL_law_368 : decode cL_law 368 = .ok (.aload_n 0, 1) := by decide +kernel
theorem dL_law_369 : decode cL_law 369 = .ok (.iload 4, 2) := by decide +kernel
theorem dL_law_371 : decode cL_law 371 = .ok (.iconst 1, 1) := by decide +kernel
theorem dL_law_372 : decode cL_law 372 = .ok (.iadd, 1) := by decide +kernel
theorem dL_law_373 : decode cL_law 373 = .ok (.iaload, 1) := by decide +kernel
theorem dL_law_374 : decode cL_law 374 = .ok (.aload_n 0, 1) := by decide +kernel
theorem dL_law_375 : decode cL_law 375 = .ok (.iload 4, 2) := by decide +kernel
theorem dL_law_377 : decode cL_law 377 = .ok (.iconst 2, 1) := by decide +kernel
theorem dL_law_378 : decode cL_law 378 = .ok (.iadd, 1) := by decide +kernel
theorem dL_law_379 : decode cL_law 379 = .ok (.iaload, 1) := by decide +kernel
theorem dL_law_380 : decode cL_law 380 = .ok (.aload_n 0, 1) := by decide +kernel
theorem dL_law_381 : decode cL_law 381 = .ok (.iload 4, 2) := by decide +kernel
theorem dL_law_383 : decode cL_law 383 = .ok (.iconst 3, 1) := by decide +kernel
theorem dL_law_384 : decode cL_law 384 = .ok (.iadd, 1) := by decide +kernel
theorem dL_law_385 : decode cL_law 385 = .ok (.iaload, 1) := by decide +kernel
theorem dL_law_386 : decode cL_law 386 = .ok (.aload_n 3, 1) := by decide +kernel
theorem dL_law_387 : decode cL_law 387 = .ok (.invokestatic 90, 3) := by decide +kernel
theorem dL_law_390 : decode cL_law 390 = .ok (.istore 5, 2) := by decide +kernel
theorem dL_law_392 : decode cL_law 392 = .ok (.aload_n 2, 1) := by decide +kernel
theorem dL_law_393 : decode cL_law 393 = .ok (.aload_n 0, 1) := by decide +kernel
theorem dL_law_394 : decode cL_law 394 = .ok (.iload 4, 2) := by decide +kernel
theorem dL_law_396 : decode cL_law 396 = .ok (.iconst 1, 1) := by decide +kernel
theorem dL_law_397 : decode cL_law 397 = .ok (.iadd, 1) := by decide +kernel
theorem dL_law_398 : decode cL_law 398 = .ok (.iaload, 1) := by decide +kernel
theorem dL_law_399 : decode cL_law 399 = .ok (.aload_n 0, 1) := by decide +kernel
theorem dL_law_400 : decode cL_law 400 = .ok (.iload 4, 2) := by decide +kernel
theorem dL_law_402 : decode cL_law 402 = .ok (.iconst 2, 1) := by decide +kernel
theorem dL_law_403 : decode cL_law 403 = .ok (.iadd, 1) := by decide +kernel
theorem dL_law_404 : decode cL_law 404 = .ok (.iaload, 1) := by decide +kernel
theorem dL_law_405 : decode cL_law 405 = .ok (.aload_n 0, 1) := by decide +kernel
theorem dL_law_406 : decode cL_law 406 = .ok (.iload 4, 2) := by decide +kernel
theorem dL_law_408 : decode cL_law 408 = .ok (.iconst 3, 1) := by decide +kernel
theorem dL_law_409 : decode cL_law 409 = .ok (.iadd, 1) := by decide +kernel
theorem dL_law_410 : decode cL_law 410 = .ok (.iaload, 1) := by decide +kernel
theorem dL_law_411 : decode cL_law 411 = .ok (.invokevirtual 93, 3) := by decide +kernel
theorem dL_law_414 : decode cL_law 414 = .ok (.istore 6, 2) := by decide +kernel
theorem dL_law_416 : decode cL_law 416 = .ok (.aload_n 2, 1) := by decide +kernel
theorem dL_law_417 : decode cL_law 417 = .ok (.invokevirtual 77, 3) := by decide +kernel
theorem dL_law_420 : decode cL_law 420 = .ok (.iload 5, 2) := by decide +kernel
theorem dL_law_422 : decode cL_law 422 = .ok (.if_icmp .eq 5, 3) := by decide +kernel
theorem dL_law_425 : decode cL_law 425 = .ok (.iconst 0, 1) := by decide +kernel
theorem dL_law_426 : decode cL_law 426 = .ok (.ireturn, 1) := by decide +kernel
theorem dL_law_427 : decode cL_law 427 = .ok (.iload 5, 2) := by decide +kernel
theorem dL_law_429 : decode cL_law 429 = .ok (.ifCond .ne 15, 3) := by decide +kernel
theorem dL_law_432 : decode cL_law 432 = .ok (.aload_n 3, 1) := by decide +kernel
theorem dL_law_433 : decode cL_law 433 = .ok (.iconst 0, 1) := by decide +kernel
theorem dL_law_434 : decode cL_law 434 = .ok (.laload, 1) := by decide +kernel
theorem dL_law_435 : decode cL_law 435 = .ok (.iload 6, 2) := by decide +kernel
theorem dL_law_437 : decode cL_law 437 = .ok (.i2l, 1) := by decide +kernel
theorem dL_law_438 : decode cL_law 438 = .ok (.lcmp, 1) := by decide +kernel
theorem dL_law_439 : decode cL_law 439 = .ok (.ifCond .eq 5, 3) := by decide +kernel
theorem dL_law_442 : decode cL_law 442 = .ok (.iconst 0, 1) := by decide +kernel
theorem dL_law_443 : decode cL_law 443 = .ok (.ireturn, 1) := by decide +kernel
theorem dL_law_444 : decode cL_law 444 = .ok (.goto 726, 3) := by decide +kernel
theorem dL_law_447 : decode cL_law 447 = .ok (.aload_n 1, 1) := by decide +kernel
theorem dL_law_448 : decode cL_law 448 = .ok (.aload_n 0, 1) := by decide +kernel
theorem dL_law_449 : decode cL_law 449 = .ok (.iload 4, 2) := by decide +kernel
theorem dL_law_451 : decode cL_law 451 = .ok (.iconst 1, 1) := by decide +kernel
theorem dL_law_452 : decode cL_law 452 = .ok (.iadd, 1) := by decide +kernel
theorem dL_law_453 : decode cL_law 453 = .ok (.iaload, 1) := by decide +kernel
theorem dL_law_454 : decode cL_law 454 = .ok (.aload_n 3, 1) := by decide +kernel
theorem dL_law_455 : decode cL_law 455 = .ok (.invokestatic 94, 3) := by decide +kernel
theorem dL_law_458 : decode cL_law 458 = .ok (.istore 5, 2) := by decide +kernel
theorem dL_law_460 : decode cL_law 460 = .ok (.aload_n 2, 1) := by decide +kernel
theorem dL_law_461 : decode cL_law 461 = .ok (.aload_n 0, 1) := by decide +kernel
theorem dL_law_462 : decode cL_law 462 = .ok (.iload 4, 2) := by decide +kernel
theorem dL_law_464 : decode cL_law 464 = .ok (.iconst 1, 1) := by decide +kernel
theorem dL_law_465 : decode cL_law 465 = .ok (.iadd, 1) := by decide +kernel
theorem dL_law_466 : decode cL_law 466 = .ok (.iaload, 1) := by decide +kernel
theorem dL_law_467 : decode cL_law 467 = .ok (.invokevirtual 97, 3) := by decide +kernel
theorem dL_law_470 : decode cL_law 470 = .ok (.istore 6, 2) := by decide +kernel
theorem dL_law_472 : decode cL_law 472 = .ok (.aload_n 2, 1) := by decide +kernel
theorem dL_law_473 : decode cL_law 473 = .ok (.invokevirtual 77, 3) := by decide +kernel
theorem dL_law_476 : decode cL_law 476 = .ok (.iload 5, 2) := by decide +kernel
theorem dL_law_478 : decode cL_law 478 = .ok (.if_icmp .eq 5, 3) := by decide +kernel
theorem dL_law_481 : decode cL_law 481 = .ok (.iconst 0, 1) := by decide +kernel
theorem dL_law_482 : decode cL_law 482 = .ok (.ireturn, 1) := by decide +kernel
theorem dL_law_483 : decode cL_law 483 = .ok (.iload 5, 2) := by decide +kernel
theorem dL_law_485 : decode cL_law 485 = .ok (.ifCond .ne 15, 3) := by decide +kernel
theorem dL_law_488 : decode cL_law 488 = .ok (.aload_n 3, 1) := by decide +kernel
theorem dL_law_489 : decode cL_law 489 = .ok (.iconst 0, 1) := by decide +kernel
theorem dL_law_490 : decode cL_law 490 = .ok (.laload, 1) := by decide +kernel
theorem dL_law_491 : decode cL_law 491 = .ok (.iload 6, 2) := by decide +kernel
theorem dL_law_493 : decode cL_law 493 = .ok (.i2l, 1) := by decide +kernel
theorem dL_law_494 : decode cL_law 494 = .ok (.lcmp, 1) := by decide +kernel
theorem dL_law_495 : decode cL_law 495 = .ok (.ifCond .eq 5, 3) := by decide +kernel
theorem dL_law_498 : decode cL_law 498 = .ok (.iconst 0, 1) := by decide +kernel
theorem dL_law_499 : decode cL_law 499 = .ok (.ireturn, 1) := by decide +kernel
theorem dL_law_500 : decode cL_law 500 = .ok (.goto 670, 3) := by decide +kernel
theorem dL_law_503 : decode cL_law 503 = .ok (.aload_n 1, 1) := by decide +kernel
theorem dL_law_504 : decode cL_law 504 = .ok (.aload_n 0, 1) := by decide +kernel
theorem dL_law_505 : decode cL_law 505 = .ok (.iload 4, 2) := by decide +kernel
theorem dL_law_507 : decode cL_law 507 = .ok (.iconst 1, 1) := by decide +kernel
theorem dL_law_508 : decode cL_law 508 = .ok (.iadd, 1) := by decide +kernel
theorem dL_law_509 : decode cL_law 509 = .ok (.iaload, 1) := by decide +kernel
theorem dL_law_510 : decode cL_law 510 = .ok (.aload_n 0, 1) := by decide +kernel
theorem dL_law_511 : decode cL_law 511 = .ok (.iload 4, 2) := by decide +kernel
theorem dL_law_513 : decode cL_law 513 = .ok (.iconst 2, 1) := by decide +kernel
theorem dL_law_514 : decode cL_law 514 = .ok (.iadd, 1) := by decide +kernel
theorem dL_law_515 : decode cL_law 515 = .ok (.iaload, 1) := by decide +kernel
theorem dL_law_516 : decode cL_law 516 = .ok (.i2l, 1) := by decide +kernel
theorem dL_law_517 : decode cL_law 517 = .ok (.bipush 32, 2) := by decide +kernel
theorem dL_law_519 : decode cL_law 519 = .ok (.lshl, 1) := by decide +kernel
theorem dL_law_520 : decode cL_law 520 = .ok (.aload_n 0, 1) := by decide +kernel
theorem dL_law_521 : decode cL_law 521 = .ok (.iload 4, 2) := by decide +kernel
theorem dL_law_523 : decode cL_law 523 = .ok (.iconst 3, 1) := by decide +kernel
theorem dL_law_524 : decode cL_law 524 = .ok (.iadd, 1) := by decide +kernel
theorem dL_law_525 : decode cL_law 525 = .ok (.iaload, 1) := by decide +kernel
theorem dL_law_526 : decode cL_law 526 = .ok (.i2l, 1) := by decide +kernel
theorem dL_law_527 : decode cL_law 527 = .ok (.ldc2_w 84, 3) := by decide +kernel
theorem dL_law_530 : decode cL_law 530 = .ok (.land, 1) := by decide +kernel
theorem dL_law_531 : decode cL_law 531 = .ok (.lor, 1) := by decide +kernel
theorem dL_law_532 : decode cL_law 532 = .ok (.aload_n 3, 1) := by decide +kernel
theorem dL_law_533 : decode cL_law 533 = .ok (.invokestatic 98, 3) := by decide +kernel
theorem dL_law_536 : decode cL_law 536 = .ok (.istore 5, 2) := by decide +kernel
theorem dL_law_538 : decode cL_law 538 = .ok (.aload_n 2, 1) := by decide +kernel
theorem dL_law_539 : decode cL_law 539 = .ok (.aload_n 0, 1) := by decide +kernel
theorem dL_law_540 : decode cL_law 540 = .ok (.iload 4, 2) := by decide +kernel
theorem dL_law_542 : decode cL_law 542 = .ok (.iconst 1, 1) := by decide +kernel
theorem dL_law_543 : decode cL_law 543 = .ok (.iadd, 1) := by decide +kernel
theorem dL_law_544 : decode cL_law 544 = .ok (.iaload, 1) := by decide +kernel
theorem dL_law_545 : decode cL_law 545 = .ok (.aload_n 0, 1) := by decide +kernel
theorem dL_law_546 : decode cL_law 546 = .ok (.iload 4, 2) := by decide +kernel
theorem dL_law_548 : decode cL_law 548 = .ok (.iconst 2, 1) := by decide +kernel
theorem dL_law_549 : decode cL_law 549 = .ok (.iadd, 1) := by decide +kernel
theorem dL_law_550 : decode cL_law 550 = .ok (.iaload, 1) := by decide +kernel
theorem dL_law_551 : decode cL_law 551 = .ok (.i2l, 1) := by decide +kernel
theorem dL_law_552 : decode cL_law 552 = .ok (.bipush 32, 2) := by decide +kernel
theorem dL_law_554 : decode cL_law 554 = .ok (.lshl, 1) := by decide +kernel
theorem dL_law_555 : decode cL_law 555 = .ok (.aload_n 0, 1) := by decide +kernel
theorem dL_law_556 : decode cL_law 556 = .ok (.iload 4, 2) := by decide +kernel
theorem dL_law_558 : decode cL_law 558 = .ok (.iconst 3, 1) := by decide +kernel
theorem dL_law_559 : decode cL_law 559 = .ok (.iadd, 1) := by decide +kernel
theorem dL_law_560 : decode cL_law 560 = .ok (.iaload, 1) := by decide +kernel
theorem dL_law_561 : decode cL_law 561 = .ok (.i2l, 1) := by decide +kernel
theorem dL_law_562 : decode cL_law 562 = .ok (.ldc2_w 84, 3) := by decide +kernel
theorem dL_law_565 : decode cL_law 565 = .ok (.land, 1) := by decide +kernel
theorem dL_law_566 : decode cL_law 566 = .ok (.lor, 1) := by decide +kernel
theorem dL_law_567 : decode cL_law 567 = .ok (.invokevirtual 101, 3) := by decide +kernel
theorem dL_law_570 : decode cL_law 570 = .ok (.lstore 6, 2) := by decide +kernel
theorem dL_law_572 : decode cL_law 572 = .ok (.aload_n 2, 1) := by decide +kernel
theorem dL_law_573 : decode cL_law 573 = .ok (.invokevirtual 77, 3) := by decide +kernel
theorem dL_law_576 : decode cL_law 576 = .ok (.iload 5, 2) := by decide +kernel
theorem dL_law_578 : decode cL_law 578 = .ok (.if_icmp .eq 5, 3) := by decide +kernel
theorem dL_law_581 : decode cL_law 581 = .ok (.iconst 0, 1) := by decide +kernel
theorem dL_law_582 : decode cL_law 582 = .ok (.ireturn, 1) := by decide +kernel
theorem dL_law_583 : decode cL_law 583 = .ok (.iload 5, 2) := by decide +kernel
theorem dL_law_585 : decode cL_law 585 = .ok (.ifCond .ne 14, 3) := by decide +kernel
theorem dL_law_588 : decode cL_law 588 = .ok (.aload_n 3, 1) := by decide +kernel
theorem dL_law_589 : decode cL_law 589 = .ok (.iconst 0, 1) := by decide +kernel
theorem dL_law_590 : decode cL_law 590 = .ok (.laload, 1) := by decide +kernel
theorem dL_law_591 : decode cL_law 591 = .ok (.lload 6, 2) := by decide +kernel
theorem dL_law_593 : decode cL_law 593 = .ok (.lcmp, 1) := by decide +kernel
theorem dL_law_594 : decode cL_law 594 = .ok (.ifCond .eq 5, 3) := by decide +kernel
theorem dL_law_597 : decode cL_law 597 = .ok (.iconst 0, 1) := by decide +kernel
theorem dL_law_598 : decode cL_law 598 = .ok (.ireturn, 1) := by decide +kernel
theorem dL_law_599 : decode cL_law 599 = .ok (.goto 571, 3) := by decide +kernel
theorem dL_law_602 : decode cL_law 602 = .ok (.aload_n 1, 1) := by decide +kernel
theorem dL_law_603 : decode cL_law 603 = .ok (.aload_n 0, 1) := by decide +kernel
theorem dL_law_604 : decode cL_law 604 = .ok (.iload 4, 2) := by decide +kernel
theorem dL_law_606 : decode cL_law 606 = .ok (.iconst 1, 1) := by decide +kernel
theorem dL_law_607 : decode cL_law 607 = .ok (.iadd, 1) := by decide +kernel
theorem dL_law_608 : decode cL_law 608 = .ok (.iaload, 1) := by decide +kernel
theorem dL_law_609 : decode cL_law 609 = .ok (.aload_n 0, 1) := by decide +kernel
theorem dL_law_610 : decode cL_law 610 = .ok (.iload 4, 2) := by decide +kernel
theorem dL_law_612 : decode cL_law 612 = .ok (.iconst 2, 1) := by decide +kernel
theorem dL_law_613 : decode cL_law 613 = .ok (.iadd, 1) := by decide +kernel
theorem dL_law_614 : decode cL_law 614 = .ok (.iaload, 1) := by decide +kernel
theorem dL_law_615 : decode cL_law 615 = .ok (.aload_n 3, 1) := by decide +kernel
theorem dL_law_616 : decode cL_law 616 = .ok (.invokestatic 102, 3) := by decide +kernel
theorem dL_law_619 : decode cL_law 619 = .ok (.istore 5, 2) := by decide +kernel
theorem dL_law_621 : decode cL_law 621 = .ok (.aload_n 2, 1) := by decide +kernel
theorem dL_law_622 : decode cL_law 622 = .ok (.aload_n 0, 1) := by decide +kernel
theorem dL_law_623 : decode cL_law 623 = .ok (.iload 4, 2) := by decide +kernel
theorem dL_law_625 : decode cL_law 625 = .ok (.iconst 1, 1) := by decide +kernel
theorem dL_law_626 : decode cL_law 626 = .ok (.iadd, 1) := by decide +kernel
theorem dL_law_627 : decode cL_law 627 = .ok (.iaload, 1) := by decide +kernel
theorem dL_law_628 : decode cL_law 628 = .ok (.aload_n 0, 1) := by decide +kernel
theorem dL_law_629 : decode cL_law 629 = .ok (.iload 4, 2) := by decide +kernel
theorem dL_law_631 : decode cL_law 631 = .ok (.iconst 2, 1) := by decide +kernel
theorem dL_law_632 : decode cL_law 632 = .ok (.iadd, 1) := by decide +kernel
theorem dL_law_633 : decode cL_law 633 = .ok (.iaload, 1) := by decide +kernel
theorem dL_law_634 : decode cL_law 634 = .ok (.invokevirtual 104, 3) := by decide +kernel
theorem dL_law_637 : decode cL_law 637 = .ok (.lstore 6, 2) := by decide +kernel
theorem dL_law_639 : decode cL_law 639 = .ok (.aload_n 2, 1) := by decide +kernel
theorem dL_law_640 : decode cL_law 640 = .ok (.invokevirtual 77, 3) := by decide +kernel
theorem dL_law_643 : decode cL_law 643 = .ok (.iload 5, 2) := by decide +kernel
theorem dL_law_645 : decode cL_law 645 = .ok (.if_icmp .eq 5, 3) := by decide +kernel
theorem dL_law_648 : decode cL_law 648 = .ok (.iconst 0, 1) := by decide +kernel
theorem dL_law_649 : decode cL_law 649 = .ok (.ireturn, 1) := by decide +kernel
theorem dL_law_650 : decode cL_law 650 = .ok (.iload 5, 2) := by decide +kernel
theorem dL_law_652 : decode cL_law 652 = .ok (.ifCond .ne 14, 3) := by decide +kernel
theorem dL_law_655 : decode cL_law 655 = .ok (.aload_n 3, 1) := by decide +kernel
theorem dL_law_656 : decode cL_law 656 = .ok (.iconst 0, 1) := by decide +kernel
theorem dL_law_657 : decode cL_law 657 = .ok (.laload, 1) := by decide +kernel
theorem dL_law_658 : decode cL_law 658 = .ok (.lload 6, 2) := by decide +kernel
theorem dL_law_660 : decode cL_law 660 = .ok (.lcmp, 1) := by decide +kernel
theorem dL_law_661 : decode cL_law 661 = .ok (.ifCond .eq 5, 3) := by decide +kernel
theorem dL_law_664 : decode cL_law 664 = .ok (.iconst 0, 1) := by decide +kernel
theorem dL_law_665 : decode cL_law 665 = .ok (.ireturn, 1) := by decide +kernel
theorem dL_law_666 : decode cL_law 666 = .ok (.goto 504, 3) := by decide +kernel
theorem dL_law_669 : decode cL_law 669 = .ok (.aload_n 1, 1) := by decide +kernel
theorem dL_law_670 : decode cL_law 670 = .ok (.aload_n 0, 1) := by decide +kernel
theorem dL_law_671 : decode cL_law 671 = .ok (.iload 4, 2) := by decide +kernel
theorem dL_law_673 : decode cL_law 673 = .ok (.iconst 1, 1) := by decide +kernel
theorem dL_law_674 : decode cL_law 674 = .ok (.iadd, 1) := by decide +kernel
theorem dL_law_675 : decode cL_law 675 = .ok (.iaload, 1) := by decide +kernel
theorem dL_law_676 : decode cL_law 676 = .ok (.aload_n 3, 1) := by decide +kernel
theorem dL_law_677 : decode cL_law 677 = .ok (.invokestatic 105, 3) := by decide +kernel
theorem dL_law_680 : decode cL_law 680 = .ok (.istore 5, 2) := by decide +kernel
theorem dL_law_682 : decode cL_law 682 = .ok (.aload_n 2, 1) := by decide +kernel
theorem dL_law_683 : decode cL_law 683 = .ok (.aload_n 0, 1) := by decide +kernel
theorem dL_law_684 : decode cL_law 684 = .ok (.iload 4, 2) := by decide +kernel
theorem dL_law_686 : decode cL_law 686 = .ok (.iconst 1, 1) := by decide +kernel
theorem dL_law_687 : decode cL_law 687 = .ok (.iadd, 1) := by decide +kernel
theorem dL_law_688 : decode cL_law 688 = .ok (.iaload, 1) := by decide +kernel
theorem dL_law_689 : decode cL_law 689 = .ok (.invokevirtual 107, 3) := by decide +kernel
theorem dL_law_692 : decode cL_law 692 = .ok (.istore 6, 2) := by decide +kernel
theorem dL_law_694 : decode cL_law 694 = .ok (.aload_n 2, 1) := by decide +kernel
theorem dL_law_695 : decode cL_law 695 = .ok (.invokevirtual 77, 3) := by decide +kernel
theorem dL_law_698 : decode cL_law 698 = .ok (.iload 5, 2) := by decide +kernel
theorem dL_law_700 : decode cL_law 700 = .ok (.if_icmp .eq 5, 3) := by decide +kernel
theorem dL_law_703 : decode cL_law 703 = .ok (.iconst 0, 1) := by decide +kernel
theorem dL_law_704 : decode cL_law 704 = .ok (.ireturn, 1) := by decide +kernel
theorem dL_law_705 : decode cL_law 705 = .ok (.iload 5, 2) := by decide +kernel
theorem dL_law_707 : decode cL_law 707 = .ok (.ifCond .ne 22, 3) := by decide +kernel
theorem dL_law_710 : decode cL_law 710 = .ok (.aload_n 3, 1) := by decide +kernel
theorem dL_law_711 : decode cL_law 711 = .ok (.iconst 0, 1) := by decide +kernel
theorem dL_law_712 : decode cL_law 712 = .ok (.laload, 1) := by decide +kernel
theorem dL_law_713 : decode cL_law 713 = .ok (.iload 6, 2) := by decide +kernel
theorem dL_law_715 : decode cL_law 715 = .ok (.ifCond .eq 7, 3) := by decide +kernel
theorem dL_law_718 : decode cL_law 718 = .ok (.lconst 1, 1) := by decide +kernel
theorem dL_law_719 : decode cL_law 719 = .ok (.goto 4, 3) := by decide +kernel
theorem dL_law_722 : decode cL_law 722 = .ok (.lconst 0, 1) := by decide +kernel
theorem dL_law_723 : decode cL_law 723 = .ok (.lcmp, 1) := by decide +kernel
theorem dL_law_724 : decode cL_law 724 = .ok (.ifCond .eq 5, 3) := by decide +kernel
theorem dL_law_727 : decode cL_law 727 = .ok (.iconst 0, 1) := by decide +kernel
theorem dL_law_728 : decode cL_law 728 = .ok (.ireturn, 1) := by decide +kernel
theorem dL_law_729 : decode cL_law 729 = .ok (.goto 441, 3) := by decide +kernel
theorem dL_law_732 : decode cL_law 732 = .ok (.aload_n 1, 1) := by decide +kernel
theorem dL_law_733 : decode cL_law 733 = .ok (.aload_n 0, 1) := by decide +kernel
theorem dL_law_734 : decode cL_law 734 = .ok (.iload 4, 2) := by decide +kernel
theorem dL_law_736 : decode cL_law 736 = .ok (.iconst 1, 1) := by decide +kernel
theorem dL_law_737 : decode cL_law 737 = .ok (.iadd, 1) := by decide +kernel
theorem dL_law_738 : decode cL_law 738 = .ok (.iaload, 1) := by decide +kernel
theorem dL_law_739 : decode cL_law 739 = .ok (.aload_n 3, 1) := by decide +kernel
theorem dL_law_740 : decode cL_law 740 = .ok (.invokestatic 108, 3) := by decide +kernel
theorem dL_law_743 : decode cL_law 743 = .ok (.istore 5, 2) := by decide +kernel
theorem dL_law_745 : decode cL_law 745 = .ok (.aload_n 2, 1) := by decide +kernel
theorem dL_law_746 : decode cL_law 746 = .ok (.aload_n 0, 1) := by decide +kernel
theorem dL_law_747 : decode cL_law 747 = .ok (.iload 4, 2) := by decide +kernel
theorem dL_law_749 : decode cL_law 749 = .ok (.iconst 1, 1) := by decide +kernel
theorem dL_law_750 : decode cL_law 750 = .ok (.iadd, 1) := by decide +kernel
theorem dL_law_751 : decode cL_law 751 = .ok (.iaload, 1) := by decide +kernel
theorem dL_law_752 : decode cL_law 752 = .ok (.invokevirtual 110, 3) := by decide +kernel
theorem dL_law_755 : decode cL_law 755 = .ok (.lstore 6, 2) := by decide +kernel
theorem dL_law_757 : decode cL_law 757 = .ok (.aload_n 2, 1) := by decide +kernel
theorem dL_law_758 : decode cL_law 758 = .ok (.invokevirtual 77, 3) := by decide +kernel
theorem dL_law_761 : decode cL_law 761 = .ok (.iload 5, 2) := by decide +kernel
theorem dL_law_763 : decode cL_law 763 = .ok (.if_icmp .eq 5, 3) := by decide +kernel
theorem dL_law_766 : decode cL_law 766 = .ok (.iconst 0, 1) := by decide +kernel
theorem dL_law_767 : decode cL_law 767 = .ok (.ireturn, 1) := by decide +kernel
theorem dL_law_768 : decode cL_law 768 = .ok (.iload 5, 2) := by decide +kernel
theorem dL_law_770 : decode cL_law 770 = .ok (.ifCond .ne 14, 3) := by decide +kernel
theorem dL_law_773 : decode cL_law 773 = .ok (.aload_n 3, 1) := by decide +kernel
theorem dL_law_774 : decode cL_law 774 = .ok (.iconst 0, 1) := by decide +kernel
theorem dL_law_775 : decode cL_law 775 = .ok (.laload, 1) := by decide +kernel
theorem dL_law_776 : decode cL_law 776 = .ok (.lload 6, 2) := by decide +kernel
theorem dL_law_778 : decode cL_law 778 = .ok (.lcmp, 1) := by decide +kernel
theorem dL_law_779 : decode cL_law 779 = .ok (.ifCond .eq 5, 3) := by decide +kernel
theorem dL_law_782 : decode cL_law 782 = .ok (.iconst 0, 1) := by decide +kernel
theorem dL_law_783 : decode cL_law 783 = .ok (.ireturn, 1) := by decide +kernel
theorem dL_law_784 : decode cL_law 784 = .ok (.goto 386, 3) := by decide +kernel
theorem dL_law_787 : decode cL_law 787 = .ok (.aload_n 1, 1) := by decide +kernel
theorem dL_law_788 : decode cL_law 788 = .ok (.aload_n 0, 1) := by decide +kernel
theorem dL_law_789 : decode cL_law 789 = .ok (.iload 4, 2) := by decide +kernel
theorem dL_law_791 : decode cL_law 791 = .ok (.iconst 1, 1) := by decide +kernel
theorem dL_law_792 : decode cL_law 792 = .ok (.iadd, 1) := by decide +kernel
theorem dL_law_793 : decode cL_law 793 = .ok (.iaload, 1) := by decide +kernel
theorem dL_law_794 : decode cL_law 794 = .ok (.aload_n 0, 1) := by decide +kernel
theorem dL_law_795 : decode cL_law 795 = .ok (.iload 4, 2) := by decide +kernel
theorem dL_law_797 : decode cL_law 797 = .ok (.iconst 2, 1) := by decide +kernel
theorem dL_law_798 : decode cL_law 798 = .ok (.iadd, 1) := by decide +kernel
theorem dL_law_799 : decode cL_law 799 = .ok (.iaload, 1) := by decide +kernel
theorem dL_law_800 : decode cL_law 800 = .ok (.ifCond .eq 7, 3) := by decide +kernel
theorem dL_law_803 : decode cL_law 803 = .ok (.iconst 1, 1) := by decide +kernel
theorem dL_law_804 : decode cL_law 804 = .ok (.goto 4, 3) := by decide +kernel
theorem dL_law_807 : decode cL_law 807 = .ok (.iconst 0, 1) := by decide +kernel
theorem dL_law_808 : decode cL_law 808 = .ok (.aload_n 3, 1) := by decide +kernel
theorem dL_law_809 : decode cL_law 809 = .ok (.invokestatic 111, 3) := by decide +kernel
theorem dL_law_812 : decode cL_law 812 = .ok (.istore 5, 2) := by decide +kernel
theorem dL_law_814 : decode cL_law 814 = .ok (.aload_n 2, 1) := by decide +kernel
theorem dL_law_815 : decode cL_law 815 = .ok (.aload_n 0, 1) := by decide +kernel
theorem dL_law_816 : decode cL_law 816 = .ok (.iload 4, 2) := by decide +kernel
theorem dL_law_818 : decode cL_law 818 = .ok (.iconst 1, 1) := by decide +kernel
theorem dL_law_819 : decode cL_law 819 = .ok (.iadd, 1) := by decide +kernel
theorem dL_law_820 : decode cL_law 820 = .ok (.iaload, 1) := by decide +kernel
theorem dL_law_821 : decode cL_law 821 = .ok (.aload_n 0, 1) := by decide +kernel
theorem dL_law_822 : decode cL_law 822 = .ok (.iload 4, 2) := by decide +kernel
theorem dL_law_824 : decode cL_law 824 = .ok (.iconst 2, 1) := by decide +kernel
theorem dL_law_825 : decode cL_law 825 = .ok (.iadd, 1) := by decide +kernel
theorem dL_law_826 : decode cL_law 826 = .ok (.iaload, 1) := by decide +kernel
theorem dL_law_827 : decode cL_law 827 = .ok (.ifCond .eq 7, 3) := by decide +kernel
theorem dL_law_830 : decode cL_law 830 = .ok (.iconst 1, 1) := by decide +kernel
theorem dL_law_831 : decode cL_law 831 = .ok (.goto 4, 3) := by decide +kernel
theorem dL_law_834 : decode cL_law 834 = .ok (.iconst 0, 1) := by decide +kernel
theorem dL_law_835 : decode cL_law 835 = .ok (.invokevirtual 114, 3) := by decide +kernel
theorem dL_law_838 : decode cL_law 838 = .ok (.lstore 6, 2) := by decide +kernel
theorem dL_law_840 : decode cL_law 840 = .ok (.aload_n 2, 1) := by decide +kernel
theorem dL_law_841 : decode cL_law 841 = .ok (.invokevirtual 77, 3) := by decide +kernel
theorem dL_law_844 : decode cL_law 844 = .ok (.iload 5, 2) := by decide +kernel
theorem dL_law_846 : decode cL_law 846 = .ok (.if_icmp .eq 5, 3) := by decide +kernel
theorem dL_law_849 : decode cL_law 849 = .ok (.iconst 0, 1) := by decide +kernel
theorem dL_law_850 : decode cL_law 850 = .ok (.ireturn, 1) := by decide +kernel
theorem dL_law_851 : decode cL_law 851 = .ok (.iload 5, 2) := by decide +kernel
theorem dL_law_853 : decode cL_law 853 = .ok (.ifCond .ne 14, 3) := by decide +kernel
theorem dL_law_856 : decode cL_law 856 = .ok (.aload_n 3, 1) := by decide +kernel
theorem dL_law_857 : decode cL_law 857 = .ok (.iconst 0, 1) := by decide +kernel
theorem dL_law_858 : decode cL_law 858 = .ok (.laload, 1) := by decide +kernel
theorem dL_law_859 : decode cL_law 859 = .ok (.lload 6, 2) := by decide +kernel
theorem dL_law_861 : decode cL_law 861 = .ok (.lcmp, 1) := by decide +kernel
theorem dL_law_862 : decode cL_law 862 = .ok (.ifCond .eq 5, 3) := by decide +kernel
theorem dL_law_865 : decode cL_law 865 = .ok (.iconst 0, 1) := by decide +kernel
theorem dL_law_866 : decode cL_law 866 = .ok (.ireturn, 1) := by decide +kernel
theorem dL_law_867 : decode cL_law 867 = .ok (.goto 303, 3) := by decide +kernel
theorem dL_law_870 : decode cL_law 870 = .ok (.aload_n 1, 1) := by decide +kernel
theorem dL_law_871 : decode cL_law 871 = .ok (.aload_n 0, 1) := by decide +kernel
theorem dL_law_872 : decode cL_law 872 = .ok (.iload 4, 2) := by decide +kernel
theorem dL_law_874 : decode cL_law 874 = .ok (.iconst 1, 1) := by decide +kernel
theorem dL_law_875 : decode cL_law 875 = .ok (.iadd, 1) := by decide +kernel
theorem dL_law_876 : decode cL_law 876 = .ok (.iaload, 1) := by decide +kernel
theorem dL_law_877 : decode cL_law 877 = .ok (.aload_n 0, 1) := by decide +kernel
theorem dL_law_878 : decode cL_law 878 = .ok (.iload 4, 2) := by decide +kernel
theorem dL_law_880 : decode cL_law 880 = .ok (.iconst 2, 1) := by decide +kernel
theorem dL_law_881 : decode cL_law 881 = .ok (.iadd, 1) := by decide +kernel
theorem dL_law_882 : decode cL_law 882 = .ok (.iaload, 1) := by decide +kernel
theorem dL_law_883 : decode cL_law 883 = .ok (.aload_n 3, 1) := by decide +kernel
theorem dL_law_884 : decode cL_law 884 = .ok (.invokestatic 115, 3) := by decide +kernel
theorem dL_law_887 : decode cL_law 887 = .ok (.istore 5, 2) := by decide +kernel
theorem dL_law_889 : decode cL_law 889 = .ok (.aload_n 2, 1) := by decide +kernel
theorem dL_law_890 : decode cL_law 890 = .ok (.aload_n 0, 1) := by decide +kernel
theorem dL_law_891 : decode cL_law 891 = .ok (.iload 4, 2) := by decide +kernel
theorem dL_law_893 : decode cL_law 893 = .ok (.iconst 1, 1) := by decide +kernel
theorem dL_law_894 : decode cL_law 894 = .ok (.iadd, 1) := by decide +kernel
theorem dL_law_895 : decode cL_law 895 = .ok (.iaload, 1) := by decide +kernel
theorem dL_law_896 : decode cL_law 896 = .ok (.aload_n 0, 1) := by decide +kernel
theorem dL_law_897 : decode cL_law 897 = .ok (.iload 4, 2) := by decide +kernel
theorem dL_law_899 : decode cL_law 899 = .ok (.iconst 2, 1) := by decide +kernel
theorem dL_law_900 : decode cL_law 900 = .ok (.iadd, 1) := by decide +kernel
theorem dL_law_901 : decode cL_law 901 = .ok (.iaload, 1) := by decide +kernel
theorem dL_law_902 : decode cL_law 902 = .ok (.invokevirtual 117, 3) := by decide +kernel
theorem dL_law_905 : decode cL_law 905 = .ok (.istore 6, 2) := by decide +kernel
theorem dL_law_907 : decode cL_law 907 = .ok (.aload_n 2, 1) := by decide +kernel
theorem dL_law_908 : decode cL_law 908 = .ok (.invokevirtual 77, 3) := by decide +kernel
theorem dL_law_911 : decode cL_law 911 = .ok (.iload 5, 2) := by decide +kernel
theorem dL_law_913 : decode cL_law 913 = .ok (.if_icmp .eq 5, 3) := by decide +kernel
theorem dL_law_916 : decode cL_law 916 = .ok (.iconst 0, 1) := by decide +kernel
theorem dL_law_917 : decode cL_law 917 = .ok (.ireturn, 1) := by decide +kernel
theorem dL_law_918 : decode cL_law 918 = .ok (.iload 5, 2) := by decide +kernel
theorem dL_law_920 : decode cL_law 920 = .ok (.ifCond .ne 15, 3) := by decide +kernel
theorem dL_law_923 : decode cL_law 923 = .ok (.aload_n 3, 1) := by decide +kernel
theorem dL_law_924 : decode cL_law 924 = .ok (.iconst 0, 1) := by decide +kernel
theorem dL_law_925 : decode cL_law 925 = .ok (.laload, 1) := by decide +kernel
theorem dL_law_926 : decode cL_law 926 = .ok (.iload 6, 2) := by decide +kernel
theorem dL_law_928 : decode cL_law 928 = .ok (.i2l, 1) := by decide +kernel
theorem dL_law_929 : decode cL_law 929 = .ok (.lcmp, 1) := by decide +kernel
theorem dL_law_930 : decode cL_law 930 = .ok (.ifCond .eq 5, 3) := by decide +kernel
theorem dL_law_933 : decode cL_law 933 = .ok (.iconst 0, 1) := by decide +kernel
theorem dL_law_934 : decode cL_law 934 = .ok (.ireturn, 1) := by decide +kernel
theorem dL_law_935 : decode cL_law 935 = .ok (.goto 235, 3) := by decide +kernel
theorem dL_law_938 : decode cL_law 938 = .ok (.aload_n 1, 1) := by decide +kernel
theorem dL_law_939 : decode cL_law 939 = .ok (.aload_n 0, 1) := by decide +kernel
theorem dL_law_940 : decode cL_law 940 = .ok (.iload 4, 2) := by decide +kernel
theorem dL_law_942 : decode cL_law 942 = .ok (.iconst 1, 1) := by decide +kernel
theorem dL_law_943 : decode cL_law 943 = .ok (.iadd, 1) := by decide +kernel
theorem dL_law_944 : decode cL_law 944 = .ok (.iaload, 1) := by decide +kernel
theorem dL_law_945 : decode cL_law 945 = .ok (.aload_n 0, 1) := by decide +kernel
theorem dL_law_946 : decode cL_law 946 = .ok (.iload 4, 2) := by decide +kernel
theorem dL_law_948 : decode cL_law 948 = .ok (.iconst 2, 1) := by decide +kernel
theorem dL_law_949 : decode cL_law 949 = .ok (.iadd, 1) := by decide +kernel
theorem dL_law_950 : decode cL_law 950 = .ok (.iaload, 1) := by decide +kernel
theorem dL_law_951 : decode cL_law 951 = .ok (.aload_n 0, 1) := by decide +kernel
theorem dL_law_952 : decode cL_law 952 = .ok (.iload 4, 2) := by decide +kernel
theorem dL_law_954 : decode cL_law 954 = .ok (.iconst 3, 1) := by decide +kernel
theorem dL_law_955 : decode cL_law 955 = .ok (.iadd, 1) := by decide +kernel
theorem dL_law_956 : decode cL_law 956 = .ok (.iaload, 1) := by decide +kernel
theorem dL_law_957 : decode cL_law 957 = .ok (.aload_n 3, 1) := by decide +kernel
theorem dL_law_958 : decode cL_law 958 = .ok (.invokestatic 118, 3) := by decide +kernel
theorem dL_law_961 : decode cL_law 961 = .ok (.istore 5, 2) := by decide +kernel
theorem dL_law_963 : decode cL_law 963 = .ok (.aload_n 2, 1) := by decide +kernel
theorem dL_law_964 : decode cL_law 964 = .ok (.aload_n 0, 1) := by decide +kernel
theorem dL_law_965 : decode cL_law 965 = .ok (.iload 4, 2) := by decide +kernel
theorem dL_law_967 : decode cL_law 967 = .ok (.iconst 1, 1) := by decide +kernel
theorem dL_law_968 : decode cL_law 968 = .ok (.iadd, 1) := by decide +kernel
theorem dL_law_969 : decode cL_law 969 = .ok (.iaload, 1) := by decide +kernel
theorem dL_law_970 : decode cL_law 970 = .ok (.aload_n 0, 1) := by decide +kernel
theorem dL_law_971 : decode cL_law 971 = .ok (.iload 4, 2) := by decide +kernel
theorem dL_law_973 : decode cL_law 973 = .ok (.iconst 2, 1) := by decide +kernel
theorem dL_law_974 : decode cL_law 974 = .ok (.iadd, 1) := by decide +kernel
theorem dL_law_975 : decode cL_law 975 = .ok (.iaload, 1) := by decide +kernel
theorem dL_law_976 : decode cL_law 976 = .ok (.aload_n 0, 1) := by decide +kernel
theorem dL_law_977 : decode cL_law 977 = .ok (.iload 4, 2) := by decide +kernel
theorem dL_law_979 : decode cL_law 979 = .ok (.iconst 3, 1) := by decide +kernel
theorem dL_law_980 : decode cL_law 980 = .ok (.iadd, 1) := by decide +kernel
theorem dL_law_981 : decode cL_law 981 = .ok (.iaload, 1) := by decide +kernel
theorem dL_law_982 : decode cL_law 982 = .ok (.invokevirtual 120, 3) := by decide +kernel
theorem dL_law_985 : decode cL_law 985 = .ok (.istore 6, 2) := by decide +kernel
theorem dL_law_987 : decode cL_law 987 = .ok (.aload_n 2, 1) := by decide +kernel
theorem dL_law_988 : decode cL_law 988 = .ok (.invokevirtual 77, 3) := by decide +kernel
theorem dL_law_991 : decode cL_law 991 = .ok (.iload 5, 2) := by decide +kernel
theorem dL_law_993 : decode cL_law 993 = .ok (.if_icmp .eq 5, 3) := by decide +kernel
theorem dL_law_996 : decode cL_law 996 = .ok (.iconst 0, 1) := by decide +kernel
theorem dL_law_997 : decode cL_law 997 = .ok (.ireturn, 1) := by decide +kernel
theorem dL_law_998 : decode cL_law 998 = .ok (.iload 5, 2) := by decide +kernel
theorem dL_law_1000 : decode cL_law 1000 = .ok (.ifCond .ne 15, 3) := by decide +kernel
theorem dL_law_1003 : decode cL_law 1003 = .ok (.aload_n 3, 1) := by decide +kernel
theorem dL_law_1004 : decode cL_law 1004 = .ok (.iconst 0, 1) := by decide +kernel
theorem dL_law_1005 : decode cL_law 1005 = .ok (.laload, 1) := by decide +kernel
theorem dL_law_1006 : decode cL_law 1006 = .ok (.iload 6, 2) := by decide +kernel
theorem dL_law_1008 : decode cL_law 1008 = .ok (.i2l, 1) := by decide +kernel
theorem dL_law_1009 : decode cL_law 1009 = .ok (.lcmp, 1) := by decide +kernel
theorem dL_law_1010 : decode cL_law 1010 = .ok (.ifCond .eq 5, 3) := by decide +kernel
theorem dL_law_1013 : decode cL_law 1013 = .ok (.iconst 0, 1) := by decide +kernel
theorem dL_law_1014 : decode cL_law 1014 = .ok (.ireturn, 1) := by decide +kernel
theorem dL_law_1015 : decode cL_law 1015 = .ok (.goto 155, 3) := by decide +kernel
theorem dL_law_1018 : decode cL_law 1018 = .ok (.aload_n 1, 1) := by decide +kernel
theorem dL_law_1019 : decode cL_law 1019 = .ok (.aload_n 0, 1) := by decide +kernel
theorem dL_law_1020 : decode cL_law 1020 = .ok (.iload 4, 2) := by decide +kernel
theorem dL_law_1022 : decode cL_law 1022 = .ok (.iconst 1, 1) := by decide +kernel
theorem dL_law_1023 : decode cL_law 1023 = .ok (.iadd, 1) := by decide +kernel
theorem dL_law_1024 : decode cL_law 1024 = .ok (.iaload, 1) := by decide +kernel
theorem dL_law_1025 : decode cL_law 1025 = .ok (.aload_n 3, 1) := by decide +kernel
theorem dL_law_1026 : decode cL_law 1026 = .ok (.invokestatic 121, 3) := by decide +kernel
theorem dL_law_1029 : decode cL_law 1029 = .ok (.istore 5, 2) := by decide +kernel
theorem dL_law_1031 : decode cL_law 1031 = .ok (.aload_n 2, 1) := by decide +kernel
theorem dL_law_1032 : decode cL_law 1032 = .ok (.aload_n 0, 1) := by decide +kernel
theorem dL_law_1033 : decode cL_law 1033 = .ok (.iload 4, 2) := by decide +kernel
theorem dL_law_1035 : decode cL_law 1035 = .ok (.iconst 1, 1) := by decide +kernel
theorem dL_law_1036 : decode cL_law 1036 = .ok (.iadd, 1) := by decide +kernel
theorem dL_law_1037 : decode cL_law 1037 = .ok (.iaload, 1) := by decide +kernel
theorem dL_law_1038 : decode cL_law 1038 = .ok (.invokevirtual 123, 3) := by decide +kernel
theorem dL_law_1041 : decode cL_law 1041 = .ok (.istore 6, 2) := by decide +kernel
theorem dL_law_1043 : decode cL_law 1043 = .ok (.aload_n 2, 1) := by decide +kernel
theorem dL_law_1044 : decode cL_law 1044 = .ok (.invokevirtual 77, 3) := by decide +kernel
theorem dL_law_1047 : decode cL_law 1047 = .ok (.iload 5, 2) := by decide +kernel
theorem dL_law_1049 : decode cL_law 1049 = .ok (.if_icmp .eq 5, 3) := by decide +kernel
theorem dL_law_1052 : decode cL_law 1052 = .ok (.iconst 0, 1) := by decide +kernel
theorem dL_law_1053 : decode cL_law 1053 = .ok (.ireturn, 1) := by decide +kernel
theorem dL_law_1054 : decode cL_law 1054 = .ok (.iload 5, 2) := by decide +kernel
theorem dL_law_1056 : decode cL_law 1056 = .ok (.ifCond .ne 15, 3) := by decide +kernel
theorem dL_law_1059 : decode cL_law 1059 = .ok (.aload_n 3, 1) := by decide +kernel
theorem dL_law_1060 : decode cL_law 1060 = .ok (.iconst 0, 1) := by decide +kernel
theorem dL_law_1061 : decode cL_law 1061 = .ok (.laload, 1) := by decide +kernel
theorem dL_law_1062 : decode cL_law 1062 = .ok (.iload 6, 2) := by decide +kernel
theorem dL_law_1064 : decode cL_law 1064 = .ok (.i2l, 1) := by decide +kernel
theorem dL_law_1065 : decode cL_law 1065 = .ok (.lcmp, 1) := by decide +kernel
theorem dL_law_1066 : decode cL_law 1066 = .ok (.ifCond .eq 5, 3) := by decide +kernel
theorem dL_law_1069 : decode cL_law 1069 = .ok (.iconst 0, 1) := by decide +kernel
theorem dL_law_1070 : decode cL_law 1070 = .ok (.ireturn, 1) := by decide +kernel
theorem dL_law_1071 : decode cL_law 1071 = .ok (.goto 99, 3) := by decide +kernel
theorem dL_law_1074 : decode cL_law 1074 = .ok (.aload_n 1, 1) := by decide +kernel
theorem dL_law_1075 : decode cL_law 1075 = .ok (.aload_n 0, 1) := by decide +kernel
theorem dL_law_1076 : decode cL_law 1076 = .ok (.iload 4, 2) := by decide +kernel
theorem dL_law_1078 : decode cL_law 1078 = .ok (.iconst 1, 1) := by decide +kernel
theorem dL_law_1079 : decode cL_law 1079 = .ok (.iadd, 1) := by decide +kernel
theorem dL_law_1080 : decode cL_law 1080 = .ok (.iaload, 1) := by decide +kernel
theorem dL_law_1081 : decode cL_law 1081 = .ok (.aload_n 0, 1) := by decide +kernel
theorem dL_law_1082 : decode cL_law 1082 = .ok (.iload 4, 2) := by decide +kernel
theorem dL_law_1084 : decode cL_law 1084 = .ok (.iconst 2, 1) := by decide +kernel
theorem dL_law_1085 : decode cL_law 1085 = .ok (.iadd, 1) := by decide +kernel
theorem dL_law_1086 : decode cL_law 1086 = .ok (.iaload, 1) := by decide +kernel
theorem dL_law_1087 : decode cL_law 1087 = .ok (.ifCond .eq 7, 3) := by decide +kernel
theorem dL_law_1090 : decode cL_law 1090 = .ok (.iconst 1, 1) := by decide +kernel
theorem dL_law_1091 : decode cL_law 1091 = .ok (.goto 4, 3) := by decide +kernel
theorem dL_law_1094 : decode cL_law 1094 = .ok (.iconst 0, 1) := by decide +kernel
theorem dL_law_1095 : decode cL_law 1095 = .ok (.aload_n 3, 1) := by decide +kernel
theorem dL_law_1096 : decode cL_law 1096 = .ok (.invokestatic 124, 3) := by decide +kernel
theorem dL_law_1099 : decode cL_law 1099 = .ok (.istore 5, 2) := by decide +kernel
theorem dL_law_1101 : decode cL_law 1101 = .ok (.aload_n 2, 1) := by decide +kernel
theorem dL_law_1102 : decode cL_law 1102 = .ok (.aload_n 0, 1) := by decide +kernel
theorem dL_law_1103 : decode cL_law 1103 = .ok (.iload 4, 2) := by decide +kernel
theorem dL_law_1105 : decode cL_law 1105 = .ok (.iconst 1, 1) := by decide +kernel
theorem dL_law_1106 : decode cL_law 1106 = .ok (.iadd, 1) := by decide +kernel
theorem dL_law_1107 : decode cL_law 1107 = .ok (.iaload, 1) := by decide +kernel
theorem dL_law_1108 : decode cL_law 1108 = .ok (.aload_n 0, 1) := by decide +kernel
theorem dL_law_1109 : decode cL_law 1109 = .ok (.iload 4, 2) := by decide +kernel
theorem dL_law_1111 : decode cL_law 1111 = .ok (.iconst 2, 1) := by decide +kernel
theorem dL_law_1112 : decode cL_law 1112 = .ok (.iadd, 1) := by decide +kernel
theorem dL_law_1113 : decode cL_law 1113 = .ok (.iaload, 1) := by decide +kernel
theorem dL_law_1114 : decode cL_law 1114 = .ok (.ifCond .eq 7, 3) := by decide +kernel
theorem dL_law_1117 : decode cL_law 1117 = .ok (.iconst 1, 1) := by decide +kernel
theorem dL_law_1118 : decode cL_law 1118 = .ok (.goto 4, 3) := by decide +kernel
theorem dL_law_1121 : decode cL_law 1121 = .ok (.iconst 0, 1) := by decide +kernel
theorem dL_law_1122 : decode cL_law 1122 = .ok (.invokevirtual 126, 3) := by decide +kernel
theorem dL_law_1125 : decode cL_law 1125 = .ok (.lstore 6, 2) := by decide +kernel
theorem dL_law_1127 : decode cL_law 1127 = .ok (.aload_n 2, 1) := by decide +kernel
theorem dL_law_1128 : decode cL_law 1128 = .ok (.invokevirtual 77, 3) := by decide +kernel
theorem dL_law_1131 : decode cL_law 1131 = .ok (.iload 5, 2) := by decide +kernel
theorem dL_law_1133 : decode cL_law 1133 = .ok (.if_icmp .eq 5, 3) := by decide +kernel
theorem dL_law_1136 : decode cL_law 1136 = .ok (.iconst 0, 1) := by decide +kernel
theorem dL_law_1137 : decode cL_law 1137 = .ok (.ireturn, 1) := by decide +kernel
theorem dL_law_1138 : decode cL_law 1138 = .ok (.iload 5, 2) := by decide +kernel
theorem dL_law_1140 : decode cL_law 1140 = .ok (.ifCond .ne 14, 3) := by decide +kernel
theorem dL_law_1143 : decode cL_law 1143 = .ok (.aload_n 3, 1) := by decide +kernel
theorem dL_law_1144 : decode cL_law 1144 = .ok (.iconst 0, 1) := by decide +kernel
theorem dL_law_1145 : decode cL_law 1145 = .ok (.laload, 1) := by decide +kernel
theorem dL_law_1146 : decode cL_law 1146 = .ok (.lload 6, 2) := by decide +kernel
theorem dL_law_1148 : decode cL_law 1148 = .ok (.lcmp, 1) := by decide +kernel
theorem dL_law_1149 : decode cL_law 1149 = .ok (.ifCond .eq 5, 3) := by decide +kernel
theorem dL_law_1152 : decode cL_law 1152 = .ok (.iconst 0, 1) := by decide +kernel
theorem dL_law_1153 : decode cL_law 1153 = .ok (.ireturn, 1) := by decide +kernel
theorem dL_law_1154 : decode cL_law 1154 = .ok (.goto 16, 3) := by decide +kernel
theorem dL_law_1157 : decode cL_law 1157 = .ok (.aload_n 1, 1) := by decide +kernel
theorem dL_law_1158 : decode cL_law 1158 = .ok (.invokevirtual 127, 3) := by decide +kernel
theorem dL_law_1161 : decode cL_law 1161 = .ok (.aload_n 2, 1) := by decide +kernel
theorem dL_law_1162 : decode cL_law 1162 = .ok (.invokevirtual 130, 3) := by decide +kernel
theorem dL_law_1165 : decode cL_law 1165 = .ok (.if_icmp .eq 5, 3) := by decide +kernel
theorem dL_law_1168 : decode cL_law 1168 = .ok (.iconst 0, 1) := by decide +kernel
theorem dL_law_1169 : decode cL_law 1169 = .ok (.ireturn, 1) := by decide +kernel
theorem dL_law_1170 : decode cL_law 1170 = .ok (.iinc 4 5, 3) := by decide +kernel
theorem dL_law_1173 : decode cL_law 1173 = .ok (.goto (-1150), 3) := by decide +kernel
theorem dL_law_1176 : decode cL_law 1176 = .ok (.iconst 1, 1) := by decide +kernel
theorem dL_law_1177 : decode cL_law 1177 = .ok (.ireturn, 1) := by decide +kernel
abbrev vwCl : List vw_C := [(RX0, TX0, 11), (RX1, TX1, 1), (RX2, TX2, 14)]
end
section
theorem zz_first : True := trivial
end
