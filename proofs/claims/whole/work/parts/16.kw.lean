/-! what the tables say beside the good words: kept when they grow warm -/
def kw_warm (w : Cond) : Prop := ∀ (s U : State), s.WarmedH U.vm → va_Nw w s → va_Nw w U
theorem kw_cast {w : Cond} (h1 : w.onTables = true) (h2 : w.keepsCast = true) : kw_warm w := fun s U hW h =>
  va_tabs h1 (rfl : (s.setVm U.vm).vm = U.vm) (Cond.before_shiftedCast (args := #[]) (State.Shifted.of_warmed hW) w h2 h)
def kw : List Cond := [
  .fieldLinkNest RX1 124 "GaugeBoard$Gauge" "sorts" "[I" "GaugeBoard", .fieldLinkNest RX1 128 "GaugeBoard$Gauge" "sources" "[I" "GaugeBoard", .fieldLinkNest RX1 196 "GaugeBoard$Gauge" "operands" "[J" "GaugeBoard",
  .fieldLinkNest RX1 36 "GaugeBoard$Gauge" "kind" "I" "GaugeBoard", .fieldLinkNest RX1 75 "GaugeBoard$Gauge" "stepCount" "I" "GaugeBoard", .fieldLinkNest RX1 90 "GaugeBoard$Gauge" "value" "J" "GaugeBoard",
  .fieldLinkNest RX1 98 "GaugeBoard$Gauge" "marked" "Z" "GaugeBoard", .fieldLinkNest RX1 104 "GaugeBoard$Gauge" "high" "J" "GaugeBoard", .fieldLinkNest RX1 107 "GaugeBoard$Gauge" "low" "J" "GaugeBoard",
  .fieldLinkNest RX1 110 "GaugeBoard$Gauge" "readings" "I" "GaugeBoard", .fieldLinkNest RX1 113 "GaugeBoard$Gauge" "swings" "I" "GaugeBoard",
  .methodLinkNest RX1 34 yX0_init "GaugeBoard", .methodLinkNest RX1 44 yX0_ownStepsTaking "GaugeBoard", .methodLinkNest RX1 52 yX0_startAs "GaugeBoard", .methodLinkNest RX1 62 yX0_addStep "GaugeBoard", .methodLinkNest RX1 192 yX0_takeValue "GaugeBoard",
  .methodLinkNest RX0 50 yX1_signOf "GaugeBoard", .methodLinkNest RX0 57 yX1_higher "GaugeBoard", .methodLinkNest RX0 64 yX1_lower "GaugeBoard",
  .castable "java/util/NoSuchElementException" "java/util/NoSuchElementException", .castable "java/lang/IllegalArgumentException" "java/lang/IllegalArgumentException", .castable "java/lang/IllegalStateException" "java/lang/IllegalStateException",
  .declares ⟨"java/lang/RuntimeException", "<init>", "(Ljava/lang/String;)V"⟩, .declares ⟨"java/lang/Exception", "<init>", "(Ljava/lang/String;)V"⟩, .declares ⟨"java/lang/Throwable", "<init>", "(Ljava/lang/String;)V"⟩]
theorem kw_all : ∀ w ∈ kw, kw_warm w := by
  intro w hw
  simp only [kw, List.mem_cons, List.not_mem_nil, or_false] at hw
  rcases hw with rfl | rfl | rfl | rfl | rfl | rfl | rfl | rfl | rfl | rfl | rfl | rfl | rfl | rfl | rfl | rfl | rfl | rfl | rfl | rfl | rfl | rfl | rfl | rfl | rfl
  all_goals first | exact fun s U hW h => va_Nw.warmF hW h | exact fun s U hW h => va_Nw.warmM hW h | exact kw_cast rfl rfl
abbrev tys0 (cI cJ cZ cG : ClassId) : List (ClassId × FieldType) := [(cI, .int), (cJ, .long), (cZ, .boolean), (cG, .object RX0)]
/-- the classes, the arrays, the words -/
def KW (D : va_G) (cI cJ cZ cG : ClassId) (U : State) : Prop := va_K D vwCl (tys0 cI cJ cZ cG) U ∧ ∀ w ∈ kw, va_Nw w U
theorem KW_puK (D : va_G) (cI cJ cZ cG : ClassId) : puK (KW D cI cJ cZ cG) := fun _ _ hW h => ⟨va_K.moved hW.alike h.1, fun w hw => kw_all w hw _ _ hW (h.2 w hw)⟩
theorem KW.n {D : va_G} {cI cJ cZ cG : ClassId} {U : State} (h : KW D cI cJ cZ cG U) (k : Nat) {w : Cond} (hk : kw[k]? = some w) (ht : w.onTables = true) {args : Array Value} : w.before args U = true := va_Nw.use ht (h.2 w (List.mem_of_getElem? hk))
/-- the texts of the throws -/
def kt : List (String × Nat × String) := [(RX1, 21, "there is no such place"), (RX1, 149, "there is no such kind"), (RX1, 49, "a step of another gauge takes its value"), (RX1, 147, "the gauge is not there"), (RX1, 154, "the gauge's kind has no such sort"),
  (RX1, 159, "the sort wants an operand or wants none"), (RX0, 45, "there are eight steps"), (RX1, 165, "the bits are not good for the gauge's kind"), (RX1, 72, "the other gauge is of another kind"), (RX1, 82, "a gauge can't hand on to itself"),
  (RX1, 88, "these kinds can't hand on"), (RX1, 102, "the mark is not set"), (RX1, 120, "a gauge has nothing of this number"), (RX1, 122, "there is no such step"), (RX1, 135, "a step has nothing of this number"), (RX1, 145, "there is no gauge of this kind")]
def KT (U : State) : Prop := ∀ q ∈ kt, ∃ sa : Nat, vk_R q.1 q.2.1 q.2.2 sa U
/-- .. and, for a throw, the statics of Throwable, which lie below z -/
def KZ (D : va_G) (cI cJ cZ cG : ClassId) (z : Nat) (H : Heap) (U : State) : Prop := KW D cI cJ cZ cG U ∧ KT U ∧ vx_Zq Bundle.tN "UNASSIGNED_STACK" Bundle.steD (fun q => z ≤ q) U H ∧ vx_Zq Bundle.tN "SUPPRESSED_SENTINEL" Bundle.listD (fun q => z ≤ q) U H
theorem KZ_puK (D : va_G) (cI cJ cZ cG : ClassId) (z : Nat) (H : Heap) : puK (KZ D cI cJ cZ cG z H) := fun _ _ hW h =>
  ⟨KW_puK D cI cJ cZ cG _ _ hW h.1, fun q hq => by obtain ⟨sa, hs⟩ := h.2.1 q hq; exact ⟨sa, vk_R.warm hW hs⟩, vx_Zq.moved hW.alike h.2.2.1, vx_Zq.moved hW.alike h.2.2.2⟩
theorem KZ.kept {D : va_G} {cI cJ cZ cG : ClassId} {z : Nat} {H H1 : Heap} {U : State} (h : KZ D cI cJ cZ cG z H U) (hq : ∀ a : Nat, a < H.size → ¬ z ≤ a → H1[a]? = H[a]?) : KZ D cI cJ cZ cG z H1 U := ⟨h.1, h.2.1, h.2.2.1.kept hq, h.2.2.2.kept hq⟩
/-- a method that throws E: the old cells stay, one cell of six slots comes -/
def th (l : Launch) (y : MethodName) (ws : List Cond) (rm : Room) (As : List Value) (K : State → Prop) (H0 : Heap) (E : String) : Prop :=
  vx_Met l y ws rm (va_Pc As (fun U => U.heap = H0 ∧ K U)) (fun _ _ _ _ => False) (fun E' _ t => E' = E ∧ H0.size ≤ t.heap.size ∧ ∀ q : Nat, q < H0.size → t.heap[q]? = H0[q]?) 1 6 (fun _ => False)
section TH
variable {p : Program} {l : Launch} {e : Env} {R : Room} {s : State} {m : MethodId} {args : Array Value} {below : List Frame} {meth : Method} {c : Code} {H : Heap} {locs : List Loc} {cells slots : Nat} {Q : State → Prop}
variable {y : MethodName} {bytes cc : ByteArray} {maxL nL n index pc : Nat} {ret : Option FieldType} {ws : List Cond} {rm : Room} {K : State → Prop} {Ts : List Cond} {own C host : String} {b : Addr} {As rest st0 : List Value} {ls : Array Slot} {E : String}
abbrev thX (E : String) (H0 : Heap) : String → State → State → Prop := fun E' _ t => E' = E ∧ H0.size ≤ t.heap.size ∧ ∀ q : Nat, q < H0.size → t.heap[q]? = H0[q]?
/-- a call that throws, in a method that doesn't catch: the method throws it -/
theorem th_go {free : Addr → Prop} {Qc : Array Value → State → Outcome → State → Prop} (hr : vx_Run p l e R s m args below meth c s.heap [] 0 0 1 6 (F0 m pc ls st0) rest (fun _ _ _ => False) (thX E s.heap) (fun _ => False))
    (hout : ∀ x ∈ c.exceptionTable.toList, False) (hlocks : meth.locks = false) : W p l e R s m args below meth c s.heap [] 0 0 (vx_MQ below Qc (thX E s.heap) args s 1 6 free) (F0 m pc ls st0) := by
  intro T hT X
  rcases hr T hT X with ⟨v, st', t, T', L, h0, X', hL, e1, e2, hF, st⟩ | ⟨q, st', t, T', L, E9, ce, h0, X', hL, e1, e2, ⟨rfl, hz, hk⟩, hce, hcv, hcl, st⟩
  · exact hF.elim
  · have hLn : L = [] := by
      cases L with
      | nil => rfl
      | cons q r => exact (hL q List.mem_cons_self).elim
    subst hLn
    obtain ⟨t2, a1, b1⟩ := vx_out (Qc := Qc) (XC := thX E9 s.heap) (free := free) (mc := 1) (ms := 6) (pc := pc) (ls := ls) (rest := rest) (E := E9) (ce := ce) (q := q) (fun x hx => (hout x hx).elim) hlocks (by rw [e1]; exact hce) hcv hcl
      (fun t9 ht9 _ => ⟨rfl, by rw [ht9, e1]; exact hz, fun q9 hq9 => by rw [ht9, e1]; exact hk q9 hq9⟩) (fun _ h => absurd h (by simp)) (Nat.le_refl _) (Nat.le_refl _) T' rfl X'
    exact ⟨t2, st.trans a1, b1⟩
end TH
/-! a method that writes: its cells wc become cells w1 as W1 says -/
def wr (l : Launch) (y : MethodName) (ws : List Cond) (rm : Room) (As : List Value) (K : State → Prop) (H0 : Heap) (v : Option Value) (D : va_G) (wc : va_W) (W1 : va_W → Prop) (mc ms : Nat) : Prop :=
  Met l y ws rm (va_Pc As (fun U => U.heap = H0 ∧ K U)) (fun _ _ o t => o = .returned v ∧ ∃ w1, W1 w1 ∧ va_P D vwCl w1 t.heap ∧ va_D (va_A wc H0.size) w1 ∧ H0.size ≤ t.heap.size ∧ ∀ q : Nat, q < H0.size → ¬ va_A wc H0.size q → t.heap[q]? = H0[q]?) mc ms (va_A wc H0.size)
section WR
variable {p : Program} {l : Launch} {e : Env} {R : Room} {s : State} {m : MethodId} {args : Array Value} {below : List Frame} {meth : Method} {c : Code} {H : Heap} {locs : List Loc} {cells slots : Nat} {Q : State → Prop}
variable {y : MethodName} {bytes cc : ByteArray} {maxL nL n index pc mc ms : Nat} {ret : Option FieldType} {ws : List Cond} {rm : Room} {K : State → Prop} {Ts : List Cond} {own C host : String} {b : Addr} {As rest st0 : List Value} {ls : Array Slot} {v : Option Value}
variable {D : va_G} {wc Rw : va_W} {W1 : va_W → Prop} {A : Nat → Prop} {H0 : Heap}
theorem wr_go (hr : va_Run p l e R s m args below meth c H locs cells slots mc ms (F0 m pc ls st0) rest (fun _ o t => o = .returned v ∧ ∃ w1, W1 w1 ∧ va_P D vwCl w1 t.heap ∧ va_D (va_A wc H.size) w1 ∧ H.size ≤ t.heap.size ∧ ∀ q : Nat, q < H.size → ¬ va_A wc H.size q → t.heap[q]? = H[q]?) (va_A wc H.size))
    (hP : va_P D vwCl (wc ++ Rw) H) (hD : va_D A (wc ++ Rw)) (hS : va_S A H0 H locs) (hA : ∀ q, H0.size ≤ q → A q)
    (kk : ∀ (w1 : va_W) (H1 : Heap) (locs1 : List Loc), W1 w1 → va_P D vwCl (w1 ++ Rw) H1 → va_D A (w1 ++ Rw) → va_S A H0 H1 locs1 → W p l e R s m args below meth c H1 locs1 (cells + mc) (slots + ms) Q (F0 m (pc + 3) ls (v.toList ++ rest))) : W p l e R s m args below meth c H locs cells slots Q (F0 m pc ls st0) := by
  intro T hT X
  obtain ⟨v', st', t, T', L, h0, X', hL, e1, e2, ⟨hv, w1, hW1, hP1, hD1, hz, hk⟩, st⟩ := hr T hT X
  cases hv
  have hF := wd_free hD hS hA
  obtain ⟨hP2, hD2⟩ := wd_join hP hD hk hF hP1 hD1
  obtain ⟨t2, a1, b1⟩ := kk w1 T'.heap (locs ++ L) hW1 (by rw [e1]; exact hP2) hD2
    ⟨Nat.le_trans hS.1 (by rw [e1]; exact hz), fun q g1 g2 => by rw [e1, hk q (Nat.lt_of_lt_of_le g1 hS.1) (fun z => g2 (hF q z))]; exact hS.2.1 q g1 g2, fun q hq => by
      rcases List.mem_append.mp hq with h | h
      · exact hS.2.2 q h
      · exact hF _ (hL q h)⟩ T' rfl X'
  exact ⟨t2, st t2 a1, b1⟩
theorem wr_V (S : CallFix p m c cc nL s args Ts own) (hM : wr l y ws rm (.ref b :: As) K H v D wc W1 mc ms) (hw : puK K) (hk : K s) (cw : CallW R s args own C index y bytes maxL ret ws rm mc ms n) (hrecv : ∃ cellB : Cell, H[b]? = some cellB ∧ cellB.vm.isStatics = false ∧ s.vm.findClass C = some cellB.cls)
    (hn : As.length = n) (hl : ls.size = nL) (hstack : st0 = As.reverse ++ .ref b :: rest) (hW : (rest.map fun v => v.category).sum ≤ 8) (hdg : decode cc pc = .ok (.invokevirtual index, 3)) (hf : cells + mc ≤ R.cells ∧ slots + ms ≤ R.slots)
    (hP : va_P D vwCl (wc ++ Rw) H) (hD : va_D A (wc ++ Rw)) (hS : va_S A H0 H locs) (hA : ∀ q, H0.size ≤ q → A q)
    (kk : ∀ (w1 : va_W) (H1 : Heap) (locs1 : List Loc), W1 w1 → va_P D vwCl (w1 ++ Rw) H1 → va_D A (w1 ++ Rw) → va_S A H0 H1 locs1 → W p l e R s m args below meth c H1 locs1 (cells + mc) (slots + ms) Q (F0 m (pc + 3) ls (v.toList ++ rest))) : W p l e R s m args below meth c H locs cells slots Q (F0 m pc ls st0) :=
  wr_go (va_runV S hM cw ⟨pu_blind hw, hrecv, fun U hU hWm => ⟨rfl, hU, hw s U hWm hk⟩⟩ rfl hn hl hstack (lv_room (m := m) (pc := pc) (ls := ls) (rest := st0) hW) hdg hf) hP hD hS hA kk
theorem wr_VN (S : CallFix p m c cc nL s args Ts own) (hM : wr l y ws rm (.ref b :: As) K H v D wc W1 mc ms) (hw : puK K) (hk : K s) (cw : va_CN R s args own index y host bytes maxL ret ws rm mc ms n ∧ (Cond.instanceMethod y).before args s = true ∧ (Cond.selects C y y).before args s = true) (hrecv : ∃ cellB : Cell, H[b]? = some cellB ∧ cellB.vm.isStatics = false ∧ s.vm.findClass C = some cellB.cls)
    (hn : As.length = n) (hl : ls.size = nL) (hstack : st0 = As.reverse ++ .ref b :: rest) (hW : (rest.map fun v => v.category).sum ≤ 8) (hdg : decode cc pc = .ok (.invokevirtual index, 3)) (hf : cells + mc ≤ R.cells ∧ slots + ms ≤ R.slots)
    (hP : va_P D vwCl (wc ++ Rw) H) (hD : va_D A (wc ++ Rw)) (hS : va_S A H0 H locs) (hA : ∀ q, H0.size ≤ q → A q)
    (kk : ∀ (w1 : va_W) (H1 : Heap) (locs1 : List Loc), W1 w1 → va_P D vwCl (w1 ++ Rw) H1 → va_D A (w1 ++ Rw) → va_S A H0 H1 locs1 → W p l e R s m args below meth c H1 locs1 (cells + mc) (slots + ms) Q (F0 m (pc + 3) ls (v.toList ++ rest))) : W p l e R s m args below meth c H locs cells slots Q (F0 m pc ls st0) :=
  wr_go (va_runVN S hM cw ⟨pu_blind hw, hrecv, fun U hU hWm => ⟨rfl, hU, hw s U hWm hk⟩⟩ rfl hn hl hstack (lv_room (m := m) (pc := pc) (ls := ls) (rest := st0) hW) hdg hf) hP hD hS hA kk
theorem wr_I (S : CallFix p m c cc nL s args Ts own) (hM : wr l y ws rm (.ref b :: As) K H v D wc W1 mc ms) (hw : puK K) (hk : K s) (cw : CallB R s args own index y bytes maxL none ws rm mc ms n ∧ y.name = "<init>" ∧ (Cond.instanceMethod y).before args s = true)
    (hn : As.length = n) (hl : ls.size = nL) (hstack : st0 = As.reverse ++ .ref b :: rest) (hW : (rest.map fun v => v.category).sum ≤ 8) (hdg : decode cc pc = .ok (.invokespecial index, 3)) (hf : cells + mc ≤ R.cells ∧ slots + ms ≤ R.slots)
    (hP : va_P D vwCl (wc ++ Rw) H) (hD : va_D A (wc ++ Rw)) (hS : va_S A H0 H locs) (hA : ∀ q, H0.size ≤ q → A q)
    (kk : ∀ (w1 : va_W) (H1 : Heap) (locs1 : List Loc), W1 w1 → va_P D vwCl (w1 ++ Rw) H1 → va_D A (w1 ++ Rw) → va_S A H0 H1 locs1 → W p l e R s m args below meth c H1 locs1 (cells + mc) (slots + ms) Q (F0 m (pc + 3) ls (v.toList ++ rest))) : W p l e R s m args below meth c H locs cells slots Q (F0 m pc ls st0) :=
  wr_go (va_runI S hM cw ⟨pu_blind hw, fun U hU hWm => ⟨rfl, hU, hw s U hWm hk⟩⟩ rfl hn hl hstack (lv_room (m := m) (pc := pc) (ls := ls) (rest := st0) hW) hdg hf) hP hD hS hA kk
theorem wr_IN (S : CallFix p m c cc nL s args Ts own) (hM : wr l y ws rm (.ref b :: As) K H v D wc W1 mc ms) (hw : puK K) (hk : K s) (cw : va_CN R s args own index y host bytes maxL none ws rm mc ms n ∧ y.name = "<init>" ∧ (Cond.instanceMethod y).before args s = true)
    (hn : As.length = n) (hl : ls.size = nL) (hstack : st0 = As.reverse ++ .ref b :: rest) (hW : (rest.map fun v => v.category).sum ≤ 8) (hdg : decode cc pc = .ok (.invokespecial index, 3)) (hf : cells + mc ≤ R.cells ∧ slots + ms ≤ R.slots)
    (hP : va_P D vwCl (wc ++ Rw) H) (hD : va_D A (wc ++ Rw)) (hS : va_S A H0 H locs) (hA : ∀ q, H0.size ≤ q → A q)
    (kk : ∀ (w1 : va_W) (H1 : Heap) (locs1 : List Loc), W1 w1 → va_P D vwCl (w1 ++ Rw) H1 → va_D A (w1 ++ Rw) → va_S A H0 H1 locs1 → W p l e R s m args below meth c H1 locs1 (cells + mc) (slots + ms) Q (F0 m (pc + 3) ls (v.toList ++ rest))) : W p l e R s m args below meth c H locs cells slots Q (F0 m pc ls st0) :=
  wr_go (va_runIN S hM cw ⟨pu_blind hw, fun U hU hWm => ⟨rfl, hU, hw s U hWm hk⟩⟩ rfl hn hl hstack (lv_room (m := m) (pc := pc) (ls := ls) (rest := st0) hW) hdg hf) hP hD hS hA kk
end WR
theorem in12 {g : Int32} (h1 : ¬ g < 0) (h2 : ¬ (12 : Int32) ≤ g) : vp_in g 12 := vp_in_iff.mpr (by
  rw [Int32.lt_iff_toInt_lt] at h1
  rw [Int32.le_iff_toInt_le] at h2
  have a1 : (0 : Int32).toInt = 0 := by decide
  have a2 : (12 : Int32).toInt = 12 := by decide
  omega)
