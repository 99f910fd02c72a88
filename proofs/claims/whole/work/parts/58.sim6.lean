/-! fit -/
def oc (y : GS) (b : Int32) : Nat → Nat → Nat
  | 0, _ => 0
  | k + 1, q => if gC y ≤ nI q then 0 else (if gSr y (nI q).toNatClampNeg = b then 1 else 0) + oc y b k (q + 1)
theorem oc_le (y : GS) (b : Int32) : ∀ k q : Nat, oc y b k q ≤ k := by
  intro k
  induction k with
  | zero => intro q; exact Nat.le_refl _
  | succ k ih =>
    intro q
    rw [oc]
    have := ih (q + 1)
    split
    · omega
    · split <;> omega
theorem oc_lp {y : GS} (hc : vp_in (gC y) 9) (b : Int32) : ∀ k q n : Nat, q ≤ 8 → q + k = 9 → lp_X0_ownStepsTaking y b k (nI n) q = nI (n + oc y b k q) := by
  intro k
  induction k with
  | zero => intro q n _ _; omega
  | succ k ih =>
    intro q n hq hk
    rw [lp_X0_ownStepsTaking, oc]
    by_cases c : gC y ≤ nI q
    · rw [if_pos c, if_pos c, Nat.add_zero]
    · have hq8 : q < 8 := in_lt (in_cnt hc (vp_in_nI (show q < 9 by omega) (by decide)) c) (by omega)
      rw [if_neg c, if_neg c]
      by_cases e : gSr y (nI q).toNatClampNeg = b
      · rw [if_pos e, if_pos e, nI_1, ih (q + 1) (n + 1) (by omega) (by omega)]
        exact congrArg nI (by omega)
      · rw [if_neg e, if_neg e, ih (q + 1) n (by omega) (by omega), Nat.zero_add]
theorem oc_eq {y : GS} (hc : vp_in (gC y) 9) (b : Int32) : f_X0_ownStepsTaking y b = nI (oc y b 9 0) := by
  have h := oc_lp hc b 9 0 0 (by omega) rfl
  rw [Nat.zero_add] at h
  exact h
theorem oc_pos {y : GS} {b : Int32} {k0 : Nat} (h8 : k0 < 8) (hc : nI k0 < gC y) (hs : gSr y k0 = b) : ∀ k q : Nat, q ≤ k0 → q + k = 9 → 1 ≤ oc y b k q := by
  intro k
  induction k with
  | zero => intro q _ _; omega
  | succ k ih =>
    intro q hq hk
    rw [oc]
    have hlt : ¬ gC y ≤ nI q := by
      have h1 : nI q ≤ nI k0 := nI_le hq (by omega)
      rw [Int32.le_iff_toInt_le] at h1 ⊢
      rw [Int32.lt_iff_toInt_lt] at hc
      omega
    rw [if_neg hlt]
    by_cases e : q = k0
    · subst e
      rw [nI_clamp (show q < 2 ^ 31 by omega), if_pos hs]
      omega
    · have := ih (q + 1) (by omega) (by omega)
      omega
def tf (st : Nat → Option GS) (b : Int32) (i : Nat) : Nat := oe (st i) 0 (fun y => oc y b 9 0)
def tc (f : Nat → Nat) : Nat → Nat → Nat
  | 0, _ => 0
  | k + 1, i => if 12 ≤ i then 0 else f i + tc f k (i + 1)
theorem tf_le (st : Nat → Option GS) (b : Int32) (i : Nat) : tf st b i ≤ 9 := by
  unfold tf
  rcases st i with _ | y
  · exact Nat.zero_le _
  · exact oc_le y b 9 0
theorem tc_le {f : Nat → Nat} (hf : ∀ i, f i ≤ 9) : ∀ k i : Nat, tc f k i ≤ 9 * k := by
  intro k
  induction k with
  | zero => intro i; exact Nat.le_refl _
  | succ k ih =>
    intro i
    rw [tc]
    have := ih (i + 1)
    have := hf i
    split <;> omega
theorem tc_1 {f : Nat → Nat} : ∀ k i : Nat, i + k = 13 → ∀ a, i ≤ a → a < 12 → f a ≤ tc f k i := by
  intro k
  induction k with
  | zero => intro i h a h1 h2; omega
  | succ k ih =>
    intro i h a h1 h2
    rw [tc, if_neg (by omega)]
    by_cases e : a = i
    · subst e; omega
    · have := ih (i + 1) (by omega) a (by omega) h2
      omega
theorem tc_2 {f : Nat → Nat} : ∀ k i : Nat, i + k = 13 → ∀ a b, i ≤ a → a < b → b < 12 → f a + f b ≤ tc f k i := by
  intro k
  induction k with
  | zero => intro i h a b h1 h2 h3; omega
  | succ k ih =>
    intro i h a b h1 h2 h3
    rw [tc, if_neg (by omega)]
    by_cases e : a = i
    · subst e
      have := tc_1 (f := f) k (a + 1) (by omega) b (by omega) h3
      omega
    · have := ih (i + 1) (by omega) a b (by omega) h2 h3
      omega
theorem tc_lp {st : Nat → Option GS} (hI : BI st) (b : Int32) : ∀ k i n : Nat, i ≤ 12 → i + k = 13 → lp_X1_stepsTaking st b k (nI n) i = nI (n + tc (tf st b) k i) := by
  intro k
  induction k with
  | zero => intro i n _ _; omega
  | succ k ih =>
    intro i n hi hk
    rw [lp_X1_stepsTaking, tc]
    by_cases c : (12 : Int32) ≤ nI i
    · have : 12 ≤ i := (nI_leI (a := 12) (by omega) (by omega)).mp c
      rw [if_pos c, if_pos this, Nat.add_zero]
    · have hi2 := nlt12 c hi
      rw [if_neg c, if_neg (by omega)]
      unfold tf
      rcases hs : st i with _ | y
      · rw [oe_none rfl, oe_none rfl, ih (i + 1) n (by omega) (by omega), Nat.zero_add]
        rfl
      · rw [oe_some rfl, oe_some rfl, oc_eq (hI i hi2 y hs).1, nI_add, ih (i + 1) _ (by omega) (by omega), Nat.add_assoc]
        rfl
theorem tc_eq {st : Nat → Option GS} (hI : BI st) (b : Int32) : f_X1_stepsTaking st b = nI (tc (tf st b) 13 0) := by
  have h := tc_lp hI b 13 0 0 (by omega) rfl
  rw [Nat.zero_add] at h
  exact h
/-- no step of another takes it -/
theorem no_taker {st : Nat → Option GS} (hI : BI st) {j : Nat} (hj : j < 12) {y : GS} (hst : st j = some y) (hle : f_X1_stepsTaking st (nI j) ≤ f_X0_ownStepsTaking y (nI j)) {i : Nat} {z : GS} (hi : i < 12) (hne : i ≠ j) (hz : st i = some z) {k : Nat} (hk : k < 8) (hc : nI k < gC z) (hs : gSr z k = nI j) : False := by
  rw [tc_eq hI, oc_eq (hI j hj y hst).1] at hle
  have b1 := tc_le (tf_le st (nI j)) 13 0
  have b2 := oc_le y (nI j) 9 0
  have h1 := (nI_leI (by omega) (by omega)).mp hle
  have h2 := oc_pos hk hc hs 9 0 (by omega) rfl
  have fj : tf st (nI j) j = oc y (nI j) 9 0 := by unfold tf; rw [oe_some hst]
  have fi : tf st (nI j) i = oc z (nI j) 9 0 := by unfold tf; rw [oe_some hz]
  rcases Nat.lt_or_ge i j with u | u
  · have := tc_2 (f := tf st (nI j)) 13 0 rfl i j (by omega) u hj
    omega
  · have := tc_2 (f := tf st (nI j)) 13 0 rfl j i (by omega) (by omega) hi
    omega
theorem fit_sim {st : Nat → Option GS} {x : MS} (h : Sim st x) {j : Nat} (hj : j < 12) {b1 : Int32} (hk1 : kOK b1) {y' : GS} (e1 : gK y' = b1) (e2 : gC y' = 0) (e3 : gV y' = 0) (e4 : gM y' = 0) (e5 : gR y' = 0) (e6 : gW y' = 0)
    (hk : ∀ (i : Nat) (z : GS), i < 12 → i ≠ j → st i = some z → ∀ k : Nat, k < 8 → nI k < gC z → gSr z k = nI j → gK y' = gK z) :
    Sim (va_up st j (some y')) ((0 : Int32), upd (mT x) j 1, upd (mK x) j b1, vp_updL (mV x) j 0, upd (mS x) j 0, upd (mR x) j 0, upd (mW x) j 0, upd (mM x) j 0, mH x, mL x, mO x, mP x, mB x, mG x) := by
  refine sim_up h hj (fun i hi e => ⟨⟨u_ne e, u_ne e, uL_ne e, u_ne e, u_ne e, u_ne e, u_ne e, rfl, rfl⟩, fun k hk => ⟨rfl, rfl, rfl, rfl⟩⟩) hk ?_
  refine ⟨u_eq', by rw [e1]; exact u_eq', by rw [e3]; exact uL_eq, by rw [e2]; exact u_eq', by rw [e5]; exact u_eq', by rw [e6]; exact u_eq', by rw [e4]; exact u_eq', Or.inl e4, by rw [e2]; exact (show vp_in (nI 0) 9 from vp_in_nI (by decide) (by decide)), by rw [e1]; exact hk1, by rw [e3]; exact G2_l (r := 0) (by decide) _, fun hm => absurd e4 hm, fun k hk hc => ?_⟩
  rw [e2] at hc
  exact absurd hc (nI_pos (by omega))
theorem sq_fit : simq_fit Sim := by
  intro st x b0 b1 h
  unfold ob_fit F_X2_fit
  by_cases hp : f_X1_isPlace b0 = 0
  · rw [if_pos hp]
    unfold f_X1_isPlace at hp
    by_cases h1 : b0 < 0
    · rw [if_pos h1]
      exact ⟨rfl, fun z => absurd (show (1 : Int32) = 0 from z) (by decide), sim_th h 1⟩
    · rw [if_neg h1] at hp ⊢
      by_cases h2 : (12 : Int32) ≤ b0
      · have h3 : ¬ b0 ≤ 11 := by
          rw [Int32.le_iff_toInt_le, show (12 : Int32).toInt = 12 by decide] at h2
          rw [Int32.le_iff_toInt_le, show (11 : Int32).toInt = 11 by decide]
          omega
        rw [if_neg h3]
        exact ⟨rfl, fun z => absurd (show (1 : Int32) = 0 from z) (by decide), sim_th h 1⟩
      · rw [if_neg h2] at hp
        exact absurd hp (by decide)
  · rw [if_neg hp]
    obtain ⟨j, hj, rfl⟩ := vp_in_of (place_in hp) (by decide)
    have a1 : ¬ nI j < 0 := nI_pos (by omega)
    have a2 : nI j ≤ 11 := by show nI j ≤ nI 11; exact nI_le (by omega) (by decide)
    rw [if_neg a1, if_pos a2, c31 hj]
    rcases e_kind b1 with hok | hno
    · have hk := kind_of hok
      have b1a : ¬ b1 < 0 := by rcases hk with rfl | rfl | rfl | rfl <;> decide
      have b1b : b1 ≤ 3 := by rcases hk with rfl | rfl | rfl | rfl <;> decide
      rw [if_neg (ne2 hok), if_neg b1a, if_pos b1b]
      rcases hs : st j with _ | y
      · rw [oe_none rfl, ((h j hj).1 hs).1, if_pos (show (0 : Int32) = 0 from rfl)]
        refine ⟨rfl, fun _ => rfl, fit_sim h hj hk rfl rfl rfl rfl rfl rfl (fun i z hi hne hz k hk8 hc hsr => ?_)⟩
        obtain ⟨r1, r2, r3, r4⟩ := ((h i hi).2 z hz).sp hk8 hc
        rcases r4 with ⟨_, _, p⟩ | ⟨_, _, p, _⟩ | ⟨_, _, g, y2, hg, p, q, w⟩
        · rw [p] at hsr; exact absurd hsr (m1_nI hj)
        · rw [p] at hsr; exact absurd hsr (m1_nI hj)
        · rw [p] at hsr
          have e : g = j := (nI_eq (by omega) (by omega)).mp hsr
          subst e
          rw [hs] at q
          cases q
      · have hr := (h j hj).2 y hs
        have et : f_X2_takers ((0 : Int32), mT x, mK x, mV x, mS x, mR x, mW x, mM x, mH x, mL x, mO x, mP x, mB x, mG x) (nI j) = f_X1_stepsTaking st (nI j) := (tk_eq (sim_th h 0) hj).symm
        have eo : f_X2_ownTakers ((0 : Int32), mT x, mK x, mV x, mS x, mR x, mW x, mM x, mH x, mL x, mO x, mP x, mB x, mG x) (nI j) = f_X0_ownStepsTaking y (nI j) := (own_eq (sim_th h 0) hj hs hj).symm
        rw [oe_some rfl, hr.T, if_neg (show ¬ (1 : Int32) = 0 by decide), hr.K, et, eo]
        by_cases hor : gK y = b1 ∨ f_X1_stepsTaking st (nI j) ≤ f_X0_ownStepsTaking y (nI j)
        · rw [if_pos hor]
          have fin : Sim (va_up st j (some (F_X0_startAs y b1))) ((0 : Int32), upd (mT x) j 1, upd (mK x) j b1, vp_updL (mV x) j 0, upd (mS x) j 0, upd (mR x) j 0, upd (mW x) j 0, upd (mM x) j 0, mH x, mL x, mO x, mP x, mB x, mG x) := by
            refine fit_sim h hj hk rfl rfl rfl rfl rfl rfl (fun i z hi hne hz k hk8 hc hsr => ?_)
            rcases hor with e | e
            · exact e.symm.trans (src_kind h hj hs hi hz hk8 hc hsr)
            · exact (no_taker (sim_bi h) hj hs e hi hne hz hk8 hc hsr).elim
          by_cases e : gK y = b1
          · rw [if_pos e]
            exact ⟨rfl, fun _ => rfl, fin⟩
          · rw [if_neg e, if_pos (hor.resolve_left e)]
            exact ⟨rfl, fun _ => rfl, fin⟩
        · rw [if_neg hor, if_neg (not_or.mp hor).1, if_neg (not_or.mp hor).2]
          exact ⟨rfl, fun z => absurd (show (3 : Int32) = 0 from z) (by decide), sim_th h 3⟩
    · rw [if_pos hno]
      unfold e_X1_needKind at hno
      by_cases h1 : b1 < 0
      · rw [if_pos h1]
        exact ⟨rfl, fun z => absurd (show (2 : Int32) = 0 from z) (by decide), sim_th h 2⟩
      · rw [if_neg h1] at hno ⊢
        by_cases h2 : b1 ≤ 3
        · rw [if_pos h2] at hno; exact absurd hno (by decide)
        · rw [if_neg h2]
          exact ⟨rfl, fun z => absurd (show (2 : Int32) = 0 from z) (by decide), sim_th h 2⟩
theorem simOK : SimOK Sim := ⟨sim_init, fun _ _ h => sim_bi h, fun _ _ h => sim_mi h, sq_fit, sq_step, sq_stepBy, sq_stepOf, sq_bare, sq_read, sq_hand, sq_clear, sq_value, sq_mark, sq_about, sq_stepAt, sq_rank, sq_most, sq_gauges⟩
