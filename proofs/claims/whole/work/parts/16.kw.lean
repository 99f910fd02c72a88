/-! what the tables say beside the good words: kept when they grow warm -/
def kw_warm (w : Cond) : Prop := ∀ (s U : State), s.WarmedH U.vm → va_Nw w s → va_Nw w U
theorem kw_cast {w : Cond} (h1 : w.onTables = true) (h2 : w.keepsCast = true) : kw_warm w := fun s U hW h =>
  va_tabs h1 (rfl : (s.setVm U.vm).vm = U.vm) (Cond.before_shiftedCast (args := #[]) (State.Shifted.of_warmed hW) w h2 h)
def kw : List Cond := [
  .fieldLinkNest RX1 124 "GaugeBoard$Gauge" "sorts" "[I" "GaugeBoard", .fieldLinkNest RX1 128 "GaugeBoard$Gauge" "sources" "[I" "GaugeBoard", .fieldLinkNest RX1 196 "GaugeBoard$Gauge" "operands" "[J" "GaugeBoard",
  .fieldLinkNest RX1 36 "GaugeBoard$Gauge" "kind" "I" "GaugeBoard", .fieldLinkNest RX1 75 "GaugeBoard$Gauge" "stepCount" "I" "GaugeBoard", .fieldLinkNest RX1 90 "GaugeBoard$Gauge" "value" "J" "GaugeBoard",
  .fieldLinkNest RX1 98 "GaugeBoard$Gauge" "marked" "Z" "GaugeBoard", .fieldLinkNest RX1 104 "GaugeBoard$Gauge" "high" "J" "GaugeBoard", .fieldLinkNest RX1 107 "GaugeBoard$Gauge" "low" "J" "GaugeBoard",
  .fieldLinkNest RX1 110 "GaugeBoard$Gauge" "readings" "I" "GaugeBoard", .fieldLinkNest RX1 113 "GaugeBoard$Gauge" "swings" "I" "GaugeBoard",
  .methodLinkNest RX1 34 yX0_init "GaugeBoard", .methodLinkNest RX1 44 yX0_ownStepsTaking "GaugeBoard", .methodLinkNest RX1 52 yX0_startAs "GaugeBoard", .methodLinkNest RX1 62 yX0_addStep "GaugeBoard", .methodLinkNest RX1 192 yX0_takeValue "GaugeBoard",
  .methodLinkNest RX0 50 yX1_signOf "GaugeBoard", .methodLinkNest RX0 57 yX1_higher "GaugeBoard", .methodLinkNest RX0 64 yX1_lower "GaugeBoard",
  .castable "java/util/NoSuchElementException" "java/util/NoSuchElementException", .castable "java/lang/IllegalArgumentException" "java/lang/IllegalArgumentException", .castable "java/lang/IllegalStateException" "java/lang/IllegalStateException",
  .declares ⟨"java/lang/RuntimeException", "<init>", "(Ljava/lang/String;)V"⟩, .declares ⟨"java/lang/Exception", "<init>", "(Ljava/lang/String;)V"⟩, .declares ⟨"java/lang/Throwable", "<init>", "(Ljava/lang/String;)V"⟩]
theorem kw_all : ∀ w ∈ kw, kw_warm w := by
  intro w hw
  simp only [kw, List.mem_cons, List.not_mem_nil, or_false] at hw
  rcases hw with rfl | rfl | rfl | rfl | rfl | rfl | rfl | rfl | rfl | rfl | rfl | rfl | rfl | rfl | rfl | rfl | rfl | rfl | rfl | rfl | rfl | rfl | rfl | rfl | rfl
  all_goals first | exact fun s U hW h => va_Nw.warmF hW h | exact fun s U hW h => va_Nw.warmM hW h | exact kw_cast rfl rfl
abbrev tys0 (cI cJ cZ cG : ClassId) : List (ClassId × FieldType) := [(cI, .int), (cJ, .long), (cZ, .boolean), (cG, .object RX0)]
/-- the classes, the arrays, the words -/
def KW (D : va_G) (cI cJ cZ cG : ClassId) (U : State) : Prop := va_K D vwCl (tys0 cI cJ cZ cG) U ∧ ∀ w ∈ kw, va_Nw w U
theorem KW_puK (D : va_G) (cI cJ cZ cG : ClassId) : puK (KW D cI cJ cZ cG) := fun _ _ hW h => ⟨va_K.moved hW.alike h.1, fun w hw => kw_all w hw _ _ hW (h.2 w hw)⟩
theorem KW.n {D : va_G} {cI cJ cZ cG : ClassId} {U : State} (h : KW D cI cJ cZ cG U) (k : Nat) {w : Cond} (hk : kw[k]? = some w) (ht : w.onTables = true) {args : Array Value} : w.before args U = true := va_Nw.use ht (h.2 w (List.mem_of_getElem? hk))
/-- the texts of the throws -/
def kt : List (String × Nat × String) := [(RX1, 21, "there is no such place"), (RX1, 149, "there is no such kind"), (RX1, 49, "a step of another gauge takes its value"), (RX1, 147, "the gauge is not there"), (RX1, 154, "the gauge's kind has no such sort"),
  (RX1, 159, "the sort wants an operand or wants none"), (RX0, 45, "there are eight steps"), (RX1, 165, "the bits are not good for the gauge's kind"), (RX1, 72, "the other gauge is of another kind"), (RX1, 82, "a gauge can't hand on to itself"),
  (RX1, 88, "these kinds can't hand on"), (RX1, 102, "the mark is not set"), (RX1, 120, "a gauge has nothing of this number"), (RX1, 122, "there is no such step"), (RX1, 135, "a step has nothing of this number"), (RX1, 145, "there is no gauge of this kind")]
def KT (U : State) : Prop := ∀ q ∈ kt, ∃ sa : Nat, vk_R q.1 q.2.1 q.2.2 sa U
/-- .. and, for a throw, the statics of Throwable, which lie below z -/
def KZ (D : va_G) (cI cJ cZ cG : ClassId) (z : Nat) (H : Heap) (U : State) : Prop := KW D cI cJ cZ cG U ∧ KT U ∧ vx_Zq Bundle.tN "UNASSIGNED_STACK" Bundle.steD (fun q => z ≤ q) U H ∧ vx_Zq Bundle.tN "SUPPRESSED_SENTINEL" Bundle.listD (fun q => z ≤ q) U H
theorem KZ_puK (D : va_G) (cI cJ cZ cG : ClassId) (z : Nat) (H : Heap) : puK (KZ D cI cJ cZ cG z H) := fun _ _ hW h =>
  ⟨KW_puK D cI cJ cZ cG _ _ hW h.1, fun q hq => by obtain ⟨sa, hs⟩ := h.2.1 q hq; exact ⟨sa, vk_R.warm hW hs⟩, vx_Zq.moved hW.alike h.2.2.1, vx_Zq.moved hW.alike h.2.2.2⟩
theorem KZ.kept {D : va_G} {cI cJ cZ cG : ClassId} {z : Nat} {H H1 : Heap} {U : State} (h : KZ D cI cJ cZ cG z H U) (hq : ∀ a : Nat, a < H.size → ¬ z ≤ a → H1[a]? = H[a]?) : KZ D cI cJ cZ cG z H1 U := ⟨h.1, h.2.1, h.2.2.1.kept hq, h.2.2.2.kept hq⟩
/-- a method that throws E: the old cells stay, one cell of six slots comes -/
def th (l : Launch) (y : MethodName) (ws : List Cond) (rm : Room) (As : List Value) (K : State → Prop) (H0 : Heap) (E : String) : Prop :=
  vx_Met l y ws rm (va_Pc As (fun U => U.heap = H0 ∧ K U)) (fun _ _ _ _ => False) (fun E' _ t => E' = E ∧ H0.size ≤ t.heap.size ∧ ∀ q : Nat, q < H0.size → t.heap[q]? = H0[q]?) 1 6 (fun _ => False)
section TH
variable {p : Program} {l : Launch} {e : Env} {R : Room} {s : State} {m : MethodId} {args : Array Value} {below : List Frame} {meth : Method} {c : Code} {H : Heap} {locs : List Loc} {cells slots : Nat} {Q : State → Prop}
variable {y : MethodName} {bytes cc : ByteArray} {maxL nL n index pc : Nat} {ret : Option FieldType} {ws : List Cond} {rm : Room} {K : State → Prop} {Ts : List Cond} {own C host : String} {b : Addr} {As rest st0 : List Value} {ls : Array Slot} {E : String}
abbrev thX (E : String) (H0 : Heap) : String → State → State → Prop := fun E' _ t => E' = E ∧ H0.size ≤ t.heap.size ∧ ∀ q : Nat, q < H0.size → t.heap[q]? = H0[q]?
/-- a call that throws, in a method that doesn't catch: the method throws it -/
theorem th_go {free : Addr → Prop} {Qc : Array Value → State → Outcome → State → Prop} (hr : vx_Run p l e R s m args below meth c s.heap [] 0 0 1 6 (F0 m pc ls st0) rest (fun _ _ _ => False) (thX E s.heap) (fun _ => False))
    (hout : ∀ x ∈ c.exceptionTable.toList, False) (hlocks : meth.locks = false) : W p l e R s m args below meth c s.heap [] 0 0 (vx_MQ below Qc (thX E s.heap) args s 1 6 free) (F0 m pc ls st0) := by
  intro T hT X
  rcases hr T hT X with ⟨v, st', t, T', L, h0, X', hL, e1, e2, hF, st⟩ | ⟨q, st', t, T', L, E9, ce, h0, X', hL, e1, e2, ⟨rfl, hz, hk⟩, hce, hcv, hcl, st⟩
  · exact hF.elim
  · have hLn : L = [] := by
      cases L with
      | nil => rfl
      | cons q r => exact (hL q List.mem_cons_self).elim
    subst hLn
    obtain ⟨t2, a1, b1⟩ := vx_out (Qc := Qc) (XC := thX E9 s.heap) (free := free) (mc := 1) (ms := 6) (pc := pc) (ls := ls) (rest := rest) (E := E9) (ce := ce) (q := q) (fun x hx => (hout x hx).elim) hlocks (by rw [e1]; exact hce) hcv hcl
      (fun t9 ht9 _ => ⟨rfl, by rw [ht9, e1]; exact hz, fun q9 hq9 => by rw [ht9, e1]; exact hk q9 hq9⟩) (fun _ h => nomatch h) (Nat.le_refl _) (Nat.le_refl _) T' rfl X'
    exact ⟨t2, st.trans a1, b1⟩
end TH
