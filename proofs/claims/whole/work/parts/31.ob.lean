/-! the law's helpers: what they rest on, what they answer -/
abbrev xN : String := "java/util/NoSuchElementException"
abbrev xA : String := "java/lang/IllegalArgumentException"
abbrev xS : String := "java/lang/IllegalStateException"
def KX (D : va_G) (cI cJ cZ cG : ClassId) (z : Nat) (H : Heap) (U : State) : Prop := KZ D cI cJ cZ cG z H U ∧ va_Nc xA xN U ∧ va_Nc xS xN U ∧ va_Nc xS xA U
theorem KX_puK (D : va_G) (cI cJ cZ cG : ClassId) (z : Nat) (H : Heap) : puK (KX D cI cJ cZ cG z H) := fun _ _ hW h => ⟨KZ_puK D cI cJ cZ cG z H _ _ hW h.1, va_Nc.moved hW.alike h.2.1, va_Nc.moved hW.alike h.2.2.1, va_Nc.moved hW.alike h.2.2.2⟩
theorem KX.kept {D : va_G} {cI cJ cZ cG : ClassId} {z : Nat} {H H1 : Heap} {U : State} (h : KX D cI cJ cZ cG z H U) (hq : ∀ a : Nat, a < H.size → ¬ z ≤ a → H1[a]? = H[a]?) : KX D cI cJ cZ cG z H1 U := ⟨h.1.kept hq, h.2⟩
theorem updL0 (f : Nat → Int64) (v : Int64) : vp_updL f (0 : Int32).toNatClampNeg v 0 = v := by
  show vp_updL f 0 v 0 = v
  simp [vp_updL]
section CT
variable {p : Program} {l : Launch} {e : Env} {R : Room} {s : State} {m : MethodId} {args : Array Value} {below : List Frame} {meth : Method} {c : Code} {Q : State → Prop}
variable {y : MethodName} {bytes cc : ByteArray} {maxL nL n index pc : Nat} {ret : Option FieldType} {ws : List Cond} {rm : Room} {K : State → Prop} {Ts : List Cond} {own C : String} {b : Addr} {As rest st0 : List Value} {ls : Array Slot} {E : String}
/-- a call that throws, caught here -/
theorem ct_V (S : CallFix p m c cc nL s args Ts own) (hM : th l y ws rm (.ref b :: As) K s.heap E) (hw : puK K) (hk : K s) (cw : CallW R s args own C index y bytes maxL ret ws rm 1 6 n) (hrecv : ∃ cellB : Cell, s.heap[b]? = some cellB ∧ cellB.vm.isStatics = false ∧ s.vm.findClass C = some cellB.cls)
    (hn : As.length = n) (hl : ls.size = nL) (hstack : st0 = As.reverse ++ .ref b :: rest) (hW : (rest.map fun v => v.category).sum ≤ 8) (hdg : decode cc pc = .ok (.invokevirtual index, 3)) (hf : 1 ≤ R.cells ∧ 6 ≤ R.slots)
    {name : String} (pre : List ExceptionTableEntry) (x : ExceptionTableEntry) (suf : List ExceptionTableEntry) (hsplit : c.exceptionTable.toList = pre ++ x :: suf)
    (hpass : ∀ z ∈ pre, covers z pc = false ∨ (z.catchType ≠ 0 ∧ ∃ nm : String, (Cond.classLink own z.catchType nm).before args s = true ∧ va_Nc E nm s)) (hx : covers x pc = true) (h0 : x.catchType ≠ 0)
    (hlink : (Cond.classLink own x.catchType name).before args s = true) (hcast : (Cond.castable E name).before args s = true)
    (kk : ∀ (H1 : Heap) (q : Addr), s.heap.size ≤ H1.size → (∀ a : Nat, a < s.heap.size → H1[a]? = s.heap[a]?) → W p l e R s m args below meth c H1 [] 4 35 Q (F0 m x.handlerPc ls [.ref q])) : W p l e R s m args below meth c s.heap [] 0 0 Q (F0 m pc ls st0) := by
  have hown : s.vm.findClass own = some m.cls := S.2.2.2.1
  have hr := vx_runV (H := s.heap) (locs := []) (cells := 0) (slots := 0) (meth := meth) (below := below) (e := e) S hM cw ⟨pu_blind hw, hrecv, fun U hU hWm => ⟨rfl, hU, hw s U hWm hk⟩⟩ (g := F0 m pc ls st0) rfl hn hl hstack (lv_room (m := m) (pc := pc) (ls := ls) (rest := st0) hW) hdg ⟨by omega, by omega⟩
  intro T hT X
  rcases hr T hT X with ⟨v, st', t, T', L, h0', X', hL, e1, e2, hF, st⟩ | ⟨q, st', t, T', L, E9, ce, h0', X', hL, e1, e2, ⟨rfl, hz, hk'⟩, hce, hcv, hcl, st⟩
  · exact hF.elim
  · have hLn : L = [] := by
      cases L with
      | nil => rfl
      | cons q r => exact (hL q List.mem_cons_self).elim
    subst hLn
    obtain ⟨t2, a1, b1⟩ := vx_widen (k := 4) (n := 35) (by omega) (by omega) (vx_catch (pc := pc) (ls := ls) (rest := rest) hown pre x suf hsplit hpass hx h0 hlink hcast (H := T'.heap) (by rw [e1]; exact hce) hcv hcl (kk T'.heap q (by rw [e1]; exact hz) (fun a ha => by rw [e1]; exact hk' a ha))) T' rfl X'
    exact ⟨t2, st.trans a1, b1⟩
end CT
abbrev OW (cI cJ cG : ClassId) (o b P : Nat) (ad : Nat → ga) (st : Nat → Option GS) (f : Nat → Int64) : va_W := [(o, .inl (cJ, 1, .inr (.inl f)))] ++ BW cI cJ cG b P ad st
/-- a helper answers k; if k is 0 it has written v; the board is then st' -/
def LC (l : Launch) (y : MethodName) (ws : List Cond) (As : List Value) (D : va_G) (cI cJ cZ cG : ClassId) (z : Nat) (o b P : Nat) (ad : Nat → ga) (st : Nat → Option GS) (f : Nat → Int64) (H0 : Heap) (r : Int32 × (Nat → Option GS) × Int64) : Prop :=
  wr l y ws ({ frames := 9, cells := 4, slots := 35, locals := 200 }) As (KX D cI cJ cZ cG z H0) H0 (some (.int r.1)) D (OW cI cJ cG o b P ad st f) (fun w => ∃ (ad' : Nat → ga) (f' : Nat → Int64), w = OW cI cJ cG o b P ad' r.2.1 f' ∧ (r.1 = 0 → f' 0 = r.2.2)) 4 35
theorem fit_eq {st : Nat → Option GS} {j : Nat} {x : GS} {b1 : Int32} : F_X1_fit st j x b1 = (1, F_X0_startAs x b1) := by
  unfold F_X1_fit
  split
  · rfl
  · split <;> rfl
def ob_fit (st : Nat → Option GS) (b0 b1 : Int32) : Int32 × (Nat → Option GS) × Int64 := if f_X1_isPlace b0 = 0 then (1, st, 0) else if e_X1_needKind b1 = 2 then (2, st, 0) else oe (st b0.toNatClampNeg) (0, va_up st b0.toNatClampNeg (some (g0 b1)), 0) (fun x =>
  if gK x = b1 ∨ f_X1_stepsTaking st b0 ≤ f_X0_ownStepsTaking x b0 then (0, va_up st b0.toNatClampNeg (some (F_X0_startAs x b1)), 1) else (3, st, 0))
def ob_step (st : Nat → Option GS) (b0 b1 : Int32) : Int32 × (Nat → Option GS) × Int64 := oe (gat st b0) (1, st, 0) (fun x => if e_X1_needSort (gK x) b1 0 = 2 then (2, st, 0) else if gC x < (8 : Int32) then (0, va_up st b0.toNatClampNeg (some (F_X1_step x b1).2), (F_X1_step x b1).1.toInt64) else (3, st, 0))
def ob_stepBy (st : Nat → Option GS) (b0 b1 : Int32) (b2 : Int64) : Int32 × (Nat → Option GS) × Int64 := oe (gat st b0) (1, st, 0) (fun x => if e_X1_needSort (gK x) b1 1 = 2 then (2, st, 0) else if e_X1_needGood (gK x) b2 = 2 then (2, st, 0) else if gC x < (8 : Int32) then (0, va_up st b0.toNatClampNeg (some (F_X1_stepBy x b1 b2).2), (F_X1_stepBy x b1 b2).1.toInt64) else (3, st, 0))
def ob_stepOf (st : Nat → Option GS) (b0 b1 b2 : Int32) : Int32 × (Nat → Option GS) × Int64 := oe (gat st b0) (1, st, 0) (fun x => oe (gat st b2) (1, st, 0) (fun y => if e_X1_needSort (gK x) b1 1 = 2 then (2, st, 0) else if gK y = gK x then (if gC x < (8 : Int32) then (0, va_up st b0.toNatClampNeg (some (F_X1_stepOf x b2.toNatClampNeg b1).2), (F_X1_stepOf x b2.toNatClampNeg b1).1.toInt64) else (3, st, 0)) else (2, st, 0)))
def ob_bare (st : Nat → Option GS) (b0 : Int32) : Int32 × (Nat → Option GS) × Int64 := oe (gat st b0) (1, st, 0) (fun x => (0, va_up st b0.toNatClampNeg (some (F_X1_bare x).2), (F_X1_bare x).1.toInt64))
def ob_read (st : Nat → Option GS) (b0 : Int32) (b1 : Int64) : Int32 × (Nat → Option GS) × Int64 := oe (gat st b0) (1, st, 0) (fun x => if e_X1_needGood (gK x) b1 = 2 then (2, st, 0) else (0, va_up st b0.toNatClampNeg (some (F_X1_takeReading st x b1).2), (F_X1_takeReading st x b1).1))
def ob_hand (st : Nat → Option GS) (b0 b1 : Int32) : Int32 × (Nat → Option GS) × Int64 := oe (gat st b0) (1, st, 0) (fun y => oe (gat st b1) (1, st, 0) (fun x => if b0 = b1 then (2, st, 0) else if f_X1_canHandOn (gK y) (gK x) = 0 then (2, st, 0) else
  (0, va_up st b1.toNatClampNeg (some (F_X1_takeReading st x (f_X1_handedOn (gV y) (gK y) (gK x))).2), (F_X1_takeReading st x (f_X1_handedOn (gV y) (gK y) (gK x))).1)))
def ob_clear (st : Nat → Option GS) (b0 : Int32) : Int32 × (Nat → Option GS) × Int64 := oe (gat st b0) (1, st, 0) (fun x => (0, va_up st b0.toNatClampNeg (some (F_X1_clear x).2), if (F_X1_clear x).1 = 0 then 0 else 1))
def ob_value (st : Nat → Option GS) (b0 : Int32) : Int32 × (Nat → Option GS) × Int64 := oe (gat st b0) (1, st, 0) (fun x => (0, st, gV x))
def ob_mark (st : Nat → Option GS) (b0 b1 : Int32) : Int32 × (Nat → Option GS) × Int64 := oe (gat st b0) (1, st, 0) (fun x => if gM x = 0 then (2, st, 0) else (0, st, f_X1_mark x b1))
def ob_about (st : Nat → Option GS) (b0 b1 : Int32) : Int32 × (Nat → Option GS) × Int64 := oe (gat st b0) (1, st, 0) (fun x => if ¬ b1 = 0 ∧ ¬ b1 = 1 ∧ ¬ b1 = 2 ∧ ¬ b1 = 3 ∧ ¬ b1 = 4 ∧ ¬ b1 = 5 then (2, st, 0) else (0, st, (f_X1_about st x b0.toNatClampNeg b1).toInt64))
def ob_stepAt (st : Nat → Option GS) (b0 b1 b2 : Int32) : Int32 × (Nat → Option GS) × Int64 := oe (gat st b0) (1, st, 0) (fun x => if b1 < 0 then (1, st, 0) else if b1 < gC x then (if ¬ b2 = 0 ∧ ¬ b2 = 1 ∧ ¬ b2 = 2 then (2, st, 0) else (0, st, (f_X1_stepAt x b1 b2).toInt64)) else (1, st, 0))
def ob_rank (st : Nat → Option GS) (b0 : Int32) : Int32 × (Nat → Option GS) × Int64 := oe (gat st b0) (1, st, 0) (fun x => (0, st, (f_X1_rank st x).toInt64))
def ob_most (st : Nat → Option GS) (b0 b1 : Int32) : Int32 × (Nat → Option GS) × Int64 := if e_X1_needKind b0 = 2 then (1, st, 0) else match mostL st b0 b1 13 none 0 with
  | none => (2, st, 0)
  | some q => (0, st, gV q.2)
theorem e_kind (a : Int32) : e_X1_needKind a = 0 ∨ e_X1_needKind a = 2 := by
  unfold e_X1_needKind
  split
  · exact Or.inr rfl
  · split
    · exact Or.inl rfl
    · exact Or.inr rfl
theorem e_sort (a b c : Int32) : e_X1_needSort a b c = 0 ∨ e_X1_needSort a b c = 2 := by
  unfold e_X1_needSort
  split
  · exact Or.inr rfl
  · split
    · split
      · exact Or.inl rfl
      · exact Or.inr rfl
    · exact Or.inr rfl
theorem e_good (a : Int32) (b : Int64) : e_X1_needGood a b = 0 ∨ e_X1_needGood a b = 2 := by
  unfold e_X1_needGood
  split
  · exact Or.inr rfl
  · exact Or.inl rfl
theorem ne2 {a : Int32} (h : a = 0) : ¬ a = 2 := by rw [h]; decide
