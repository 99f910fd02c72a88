/-! calls that change nothing -/
theorem sq_value : simq_value Sim := by
  intro st x b0 h
  unfold ob_value F_X2_value
  rcases hg : gat st b0 with _ | y
  · rw [oe_none rfl, if_pos (th_no h hg)]
    exact ⟨rfl, fun z => absurd (show (1 : Int32) = 0 from z) (by decide), sim_th h 1⟩
  · obtain ⟨j, hj, rfl, hst⟩ := gat_some hg
    rw [oe_some rfl, if_neg (th_yes h hj hst), c31 hj]
    exact ⟨rfl, fun _ => ((h j hj).2 y hst).V.symm, sim_th h 0⟩
theorem sq_mark : simq_mark Sim := by
  intro st x b0 b1 h _
  unfold ob_mark F_X2_mark
  rcases hg : gat st b0 with _ | y
  · rw [oe_none rfl, if_pos (th_no h hg)]
    exact ⟨rfl, fun z => absurd (show (1 : Int32) = 0 from z) (by decide), sim_th h 1⟩
  · obtain ⟨j, hj, rfl, hst⟩ := gat_some hg
    have hr := (h j hj).2 y hst
    rw [oe_some rfl, if_neg (th_yes h hj hst), c31 hj, hr.M]
    by_cases hm : gM y = 0
    · rw [if_pos hm, if_pos hm]
      exact ⟨rfl, fun z => absurd (show (2 : Int32) = 0 from z) (by decide), sim_th h 2⟩
    · rw [if_neg hm, if_neg hm]
      unfold f_X1_mark
      by_cases hb : b1 = 0
      · rw [if_pos hb, if_pos hb]
        exact ⟨rfl, fun _ => (hr.HL hm).2.1.symm, sim_th h 0⟩
      · rw [if_neg hb, if_neg hb]
        exact ⟨rfl, fun _ => (hr.HL hm).1.symm, sim_th h 0⟩
theorem ga_lp {st : Nat → Option GS} {x : MS} (h : Sim st x) : ∀ (k i : Nat) (n : Int32), i ≤ 12 → i + k ≤ 13 → lp_X1_gauges st k n i = (lp_X2_gauges x k n i).1 ∧ Sim st (lp_X2_gauges x k n i).2 := by
  intro k
  induction k with
  | zero => intro i n _ _; exact ⟨rfl, h⟩
  | succ k ih =>
    intro i n hi hk
    rw [lp_X1_gauges, lp_X2_gauges]
    by_cases c : (12 : Int32) ≤ nI i
    · rw [if_pos c, if_pos c]
      exact ⟨rfl, sim_th h 0⟩
    · have hi2 := nlt12 c hi
      rw [if_neg c, if_neg c, c31 hi2]
      rcases hs : st i with _ | y
      · rw [oe_none rfl, ((h i hi2).1 hs).1, if_pos rfl]
        exact ih (i + 1) n (by omega) (by omega)
      · rw [oe_some rfl, ((h i hi2).2 y hs).T, if_neg (by decide)]
        exact ih (i + 1) (n + 1) (by omega) (by omega)
theorem sq_gauges : ∀ (st : Nat → Option GS) (x : MS), Sim st x → f_X1_gauges st = (F_X2_gauges x).1 ∧ Sim st (F_X2_gauges x).2 := fun st x h => ga_lp h 13 0 0 (by omega) (by omega)
theorem rk_lp {st : Nat → Option GS} {x : MS} (h : Sim st x) {j : Nat} (hj : j < 12) {y0 : GS} (hst : st j = some y0) : ∀ (k i : Nat) (n : Int32), i ≤ 12 → i + k = 13 → mth (lp_X2_rank x (nI j) k n i).2 = 0 ∧ lp_X1_rank st y0 k n i = (lp_X2_rank x (nI j) k n i).1 ∧ Sim st (lp_X2_rank x (nI j) k n i).2 := by
  have hr := (h j hj).2 y0 hst
  intro k
  induction k with
  | zero => intro i n _ _; omega
  | succ k ih =>
    intro i n hi hk
    rw [lp_X1_rank, lp_X2_rank]
    by_cases c : (12 : Int32) ≤ nI i
    · rw [if_pos c, if_pos c]
      exact ⟨rfl, rfl, sim_th h 0⟩
    · have hi2 := nlt12 c hi
      rw [if_neg c, if_neg c, c31 hi2, c31 hj]
      have go : ∀ n, mth (lp_X2_rank x (nI j) k n (i + 1)).2 = 0 ∧ lp_X1_rank st y0 k n (i + 1) = (lp_X2_rank x (nI j) k n (i + 1)).1 ∧ Sim st (lp_X2_rank x (nI j) k n (i + 1)).2 := fun n => ih (i + 1) n (by omega) (by omega)
      rcases hs : st i with _ | y
      · rw [oe_none rfl, ((h i hi2).1 hs).1, if_pos rfl]
        exact go n
      · have hy := (h i hi2).2 y hs
        rw [oe_some rfl, hy.T, if_neg (by decide), hy.K, hr.K, hy.V, hr.V]
        by_cases e : gK y = gK y0
        · rw [if_pos e, if_pos e, above_eq hr.k4 (e ▸ hy.g2) hr.g2]
          split
          · exact go (n + 1)
          · exact go n
        · rw [if_neg e, if_neg e]
          exact go n
theorem sq_rank : simq_rank Sim := by
  intro st x b0 h
  unfold ob_rank F_X2_rank
  rcases hg : gat st b0 with _ | y
  · rw [oe_none rfl, if_pos (th_no h hg)]
    exact ⟨rfl, fun z => absurd (show (1 : Int32) = 0 from z) (by decide), sim_th h 1⟩
  · obtain ⟨j, hj, rfl, hst⟩ := gat_some hg
    rw [oe_some rfl, if_neg (th_yes h hj hst)]
    obtain ⟨a, b, c⟩ := rk_lp h hj hst 13 0 0 (by omega) rfl
    exact ⟨a, fun _ => congrArg Int32.toInt64 b, c⟩
/-- a gauge's own steps that take gauge g -/
theorem own_lp {st : Nat → Option GS} {x : MS} (h : Sim st x) {i : Nat} (hi : i < 12) {y : GS} (hst : st i = some y) {g : Nat} (hg : g < 12) : ∀ (k q : Nat) (n : Int32), q ≤ 8 → q + k = 9 → lp_X0_ownStepsTaking y (nI g) k n q = lp_X2_takersIn x (nI i) (nI g) k n q := by
  have hr := (h i hi).2 y hst
  intro k
  induction k with
  | zero => intro q n _ _; omega
  | succ k ih =>
    intro q n hq hk
    rw [lp_X0_ownStepsTaking, lp_X2_takersIn, c31 hi, hr.S]
    by_cases c : gC y ≤ nI q
    · rw [if_pos c, if_pos c]
    · have hq8 : q < 8 := in_lt (in_cnt hr.c9 (vp_in_nI (show q < 9 by omega) (by decide)) c) (by omega)
      rw [if_neg c, if_neg c, i96 hi hq8, nI_clamp (show q < 2 ^ 31 by omega)]
      obtain ⟨r1, r2, r3, r4⟩ := hr.sp hq8 (Int32.not_le.mp c)
      rw [r3]
      have go : ∀ n, lp_X0_ownStepsTaking y (nI g) k n (q + 1) = lp_X2_takersIn x (nI i) (nI g) k n (q + 1) := fun n => ih (q + 1) n (by omega) (by omega)
      rcases r4 with ⟨_, p2, p3⟩ | ⟨_, p2, p3, _⟩ | ⟨_, p2, _⟩
      · rw [p2, if_neg (show ¬ (0 : Int32) = 2 by decide), p3, if_neg (m1_nI hg)]; exact go n
      · rw [p2, if_neg (show ¬ (1 : Int32) = 2 by decide), p3, if_neg (m1_nI hg)]; exact go n
      · rw [p2, if_pos (show (2 : Int32) = 2 from rfl)]
        split
        · exact go (n + 1)
        · exact go n
theorem own_eq {st : Nat → Option GS} {x : MS} (h : Sim st x) {i : Nat} (hi : i < 12) {y : GS} (hst : st i = some y) {g : Nat} (hg : g < 12) : f_X0_ownStepsTaking y (nI g) = f_X2_takersIn x (nI i) (nI g) := own_lp h hi hst hg 9 0 0 (by omega) rfl
theorem tk_lp {st : Nat → Option GS} {x : MS} (h : Sim st x) {g : Nat} (hg : g < 12) : ∀ (k i : Nat) (n : Int32), i ≤ 12 → i + k = 13 → lp_X1_stepsTaking st (nI g) k n i = lp_X2_takers x (nI g) k n i := by
  intro k
  induction k with
  | zero => intro i n _ _; omega
  | succ k ih =>
    intro i n hi hk
    rw [lp_X1_stepsTaking, lp_X2_takers]
    by_cases c : (12 : Int32) ≤ nI i
    · rw [if_pos c, if_pos c]
    · have hi2 := nlt12 c hi
      rw [if_neg c, if_neg c, c31 hi2]
      rcases hs : st i with _ | y
      · rw [oe_none rfl, ((h i hi2).1 hs).1, if_pos rfl]
        exact ih (i + 1) n (by omega) (by omega)
      · rw [oe_some rfl, ((h i hi2).2 y hs).T, if_neg (by decide), own_eq h hi2 hs hg]
        exact ih (i + 1) _ (by omega) (by omega)
theorem tk_eq {st : Nat → Option GS} {x : MS} (h : Sim st x) {g : Nat} (hg : g < 12) : f_X1_stepsTaking st (nI g) = f_X2_takers x (nI g) := tk_lp h hg 13 0 0 (by omega) rfl
theorem sq_about : simq_about Sim := by
  intro st x b0 b1 h
  unfold ob_about F_X2_about
  rcases hg : gat st b0 with _ | y
  · rw [oe_none rfl, if_pos (th_no h hg)]
    exact ⟨rfl, fun z => absurd (show (1 : Int32) = 0 from z) (by decide), sim_th h 1⟩
  · obtain ⟨j, hj, rfl, hst⟩ := gat_some hg
    have hr := (h j hj).2 y hst
    rw [oe_some rfl, if_neg (th_yes h hj hst), c31 hj]
    by_cases hw : ¬ b1 = 0 ∧ ¬ b1 = 1 ∧ ¬ b1 = 2 ∧ ¬ b1 = 3 ∧ ¬ b1 = 4 ∧ ¬ b1 = 5
    · rw [if_pos hw]
      have out : b1 < 0 ∨ ¬ b1 ≤ 5 := by
        rw [Int32.lt_iff_toInt_lt, Int32.le_iff_toInt_le, show (0 : Int32).toInt = 0 by decide, show (5 : Int32).toInt = 5 by decide]
        obtain ⟨n0, n1, n2, n3, n4, n5⟩ := hw
        have m0 : ¬ b1.toInt = 0 := fun z => n0 (Int32.toInt_inj.mp (z.trans (by decide)))
        have m1 : ¬ b1.toInt = 1 := fun z => n1 (Int32.toInt_inj.mp (z.trans (by decide)))
        have m2 : ¬ b1.toInt = 2 := fun z => n2 (Int32.toInt_inj.mp (z.trans (by decide)))
        have m3 : ¬ b1.toInt = 3 := fun z => n3 (Int32.toInt_inj.mp (z.trans (by decide)))
        have m4 : ¬ b1.toInt = 4 := fun z => n4 (Int32.toInt_inj.mp (z.trans (by decide)))
        have m5 : ¬ b1.toInt = 5 := fun z => n5 (Int32.toInt_inj.mp (z.trans (by decide)))
        omega
      rcases out with z | z
      · rw [if_pos z]
        exact ⟨rfl, fun z => absurd (show (2 : Int32) = 0 from z) (by decide), sim_th h 2⟩
      · rw [if_neg z]
        split <;> exact ⟨rfl, fun z => absurd (show (2 : Int32) = 0 from z) (by decide), sim_th h 2⟩
    · rw [if_neg hw]
      have ins : b1 = 0 ∨ b1 = 1 ∨ b1 = 2 ∨ b1 = 3 ∨ b1 = 4 ∨ b1 = 5 := by
        by_cases n0 : b1 = 0
        · exact Or.inl n0
        · by_cases n1 : b1 = 1
          · exact Or.inr (Or.inl n1)
          · by_cases n2 : b1 = 2
            · exact Or.inr (Or.inr (Or.inl n2))
            · by_cases n3 : b1 = 3
              · exact Or.inr (Or.inr (Or.inr (Or.inl n3)))
              · by_cases n4 : b1 = 4
                · exact Or.inr (Or.inr (Or.inr (Or.inr (Or.inl n4))))
                · by_cases n5 : b1 = 5
                  · exact Or.inr (Or.inr (Or.inr (Or.inr (Or.inr n5))))
                  · exact absurd ⟨n0, n1, n2, n3, n4, n5⟩ hw
      unfold f_X1_about
      rcases ins with rfl | rfl | rfl | rfl | rfl | rfl
      · rw [if_neg (show ¬ (0 : Int32) < 0 by decide), if_pos (show (0 : Int32) ≤ 5 by decide), if_pos (show (0 : Int32) = 0 from rfl), if_pos (show (0 : Int32) = 0 from rfl)]
        exact ⟨rfl, fun _ => congrArg Int32.toInt64 hr.K.symm, sim_th h 0⟩
      · rw [if_neg (show ¬ (1 : Int32) < 0 by decide), if_pos (show (1 : Int32) ≤ 5 by decide), if_neg (show ¬ (1 : Int32) = 0 by decide), if_neg (show ¬ (1 : Int32) = 0 by decide), if_pos (show (1 : Int32) = 1 from rfl), if_pos (show (1 : Int32) = 1 from rfl)]
        exact ⟨rfl, fun _ => congrArg Int32.toInt64 hr.S.symm, sim_th h 0⟩
      · rw [if_neg (show ¬ (2 : Int32) < 0 by decide), if_pos (show (2 : Int32) ≤ 5 by decide), if_neg (show ¬ (2 : Int32) = 0 by decide), if_neg (show ¬ (2 : Int32) = 0 by decide), if_neg (show ¬ (2 : Int32) = 1 by decide), if_neg (show ¬ (2 : Int32) = 1 by decide), if_pos (show (2 : Int32) = 2 from rfl), if_pos (show (2 : Int32) = 2 from rfl)]
        exact ⟨rfl, fun _ => congrArg Int32.toInt64 hr.R.symm, sim_th h 0⟩
      · rw [if_neg (show ¬ (3 : Int32) < 0 by decide), if_pos (show (3 : Int32) ≤ 5 by decide), if_neg (show ¬ (3 : Int32) = 0 by decide), if_neg (show ¬ (3 : Int32) = 0 by decide), if_neg (show ¬ (3 : Int32) = 1 by decide), if_neg (show ¬ (3 : Int32) = 1 by decide), if_neg (show ¬ (3 : Int32) = 2 by decide), if_neg (show ¬ (3 : Int32) = 2 by decide), if_pos (show (3 : Int32) = 3 from rfl), if_pos (show (3 : Int32) = 3 from rfl)]
        exact ⟨rfl, fun _ => congrArg Int32.toInt64 hr.W.symm, sim_th h 0⟩
      · rw [if_neg (show ¬ (4 : Int32) < 0 by decide), if_pos (show (4 : Int32) ≤ 5 by decide), if_neg (show ¬ (4 : Int32) = 0 by decide), if_neg (show ¬ (4 : Int32) = 0 by decide), if_neg (show ¬ (4 : Int32) = 1 by decide), if_neg (show ¬ (4 : Int32) = 1 by decide), if_neg (show ¬ (4 : Int32) = 2 by decide), if_neg (show ¬ (4 : Int32) = 2 by decide), if_neg (show ¬ (4 : Int32) = 3 by decide), if_neg (show ¬ (4 : Int32) = 3 by decide), if_pos (show (4 : Int32) = 4 from rfl), if_pos (show (4 : Int32) = 4 from rfl), hr.V]
        unfold f_X1_signOf
        split
        · exact ⟨rfl, fun _ => rfl, sim_th h 0⟩
        · exact ⟨rfl, fun _ => rfl, sim_th h 0⟩
      · rw [if_neg (show ¬ (5 : Int32) < 0 by decide), if_pos (show (5 : Int32) ≤ 5 by decide), if_neg (show ¬ (5 : Int32) = 0 by decide), if_neg (show ¬ (5 : Int32) = 0 by decide), if_neg (show ¬ (5 : Int32) = 1 by decide), if_neg (show ¬ (5 : Int32) = 1 by decide), if_neg (show ¬ (5 : Int32) = 2 by decide), if_neg (show ¬ (5 : Int32) = 2 by decide), if_neg (show ¬ (5 : Int32) = 3 by decide), if_neg (show ¬ (5 : Int32) = 3 by decide), if_neg (show ¬ (5 : Int32) = 4 by decide), if_neg (show ¬ (5 : Int32) = 4 by decide), if_pos (show (5 : Int32) = 5 from rfl)]
        exact ⟨rfl, fun _ => congrArg Int32.toInt64 (tk_eq (sim_th h 0) hj), sim_th h 0⟩
theorem sq_stepAt : simq_stepAt Sim := by
  intro st x b0 b1 b2 h
  unfold ob_stepAt F_X2_stepAt
  rcases hg : gat st b0 with _ | y
  · rw [oe_none rfl, if_pos (th_no h hg)]
    exact ⟨rfl, fun z => absurd (show (1 : Int32) = 0 from z) (by decide), sim_th h 1⟩
  · obtain ⟨j, hj, rfl, hst⟩ := gat_some hg
    have hr := (h j hj).2 y hst
    rw [oe_some rfl, if_neg (th_yes h hj hst), c31 hj, hr.S]
    by_cases k0 : b1 < 0
    · rw [if_pos k0, if_pos k0]
      exact ⟨rfl, fun z => absurd (show (1 : Int32) = 0 from z) (by decide), sim_th h 1⟩
    · rw [if_neg k0, if_neg k0]
      by_cases k1 : b1 < gC y
      · rw [if_pos k1, if_pos k1]
        obtain ⟨k, hk, rfl⟩ := vp_in_of (in_rg hr.c9 k0 k1) (by decide)
        rw [i96 hj hk]
        obtain ⟨r1, r2, r3, r4⟩ := hr.sp hk k1
        by_cases hw : ¬ b2 = 0 ∧ ¬ b2 = 1 ∧ ¬ b2 = 2
        · rw [if_pos hw]
          have out : b2 < 0 ∨ ¬ b2 ≤ 2 := by
            rw [Int32.lt_iff_toInt_lt, Int32.le_iff_toInt_le, show (0 : Int32).toInt = 0 by decide, show (2 : Int32).toInt = 2 by decide]
            obtain ⟨n0, n1, n2⟩ := hw
            have m0 : ¬ b2.toInt = 0 := fun z => n0 (Int32.toInt_inj.mp (z.trans (by decide)))
            have m1 : ¬ b2.toInt = 1 := fun z => n1 (Int32.toInt_inj.mp (z.trans (by decide)))
            have m2 : ¬ b2.toInt = 2 := fun z => n2 (Int32.toInt_inj.mp (z.trans (by decide)))
            omega
          rcases out with z | z
          · rw [if_pos z]
            exact ⟨rfl, fun z => absurd (show (2 : Int32) = 0 from z) (by decide), sim_th h 2⟩
          · rw [if_neg z]
            split <;> exact ⟨rfl, fun z => absurd (show (2 : Int32) = 0 from z) (by decide), sim_th h 2⟩
        · rw [if_neg hw]
          have ins : b2 = 0 ∨ b2 = 1 ∨ b2 = 2 := by
            by_cases n0 : b2 = 0
            · exact Or.inl n0
            · by_cases n1 : b2 = 1
              · exact Or.inr (Or.inl n1)
              · by_cases n2 : b2 = 2
                · exact Or.inr (Or.inr n2)
                · exact absurd ⟨n0, n1, n2⟩ hw
          unfold f_X1_stepAt
          rw [nI_clamp (show k < 2 ^ 31 by omega)]
          rcases ins with rfl | rfl | rfl
          · rw [if_neg (show ¬ (0 : Int32) < 0 by decide), if_pos (show (0 : Int32) ≤ 2 by decide), if_pos (show (0 : Int32) = 0 from rfl), if_pos (show (0 : Int32) = 0 from rfl)]
            exact ⟨rfl, fun _ => congrArg Int32.toInt64 r1.symm, sim_th h 0⟩
          · rw [if_neg (show ¬ (1 : Int32) < 0 by decide), if_pos (show (1 : Int32) ≤ 2 by decide), if_neg (show ¬ (1 : Int32) = 0 by decide), if_neg (show ¬ (1 : Int32) = 0 by decide), if_pos (show (1 : Int32) = 1 from rfl), if_pos (show (1 : Int32) = 1 from rfl)]
            refine ⟨rfl, fun _ => congrArg Int32.toInt64 ?_, sim_th h 0⟩
            show f_X1_operandForm (gSo y k) (gSr y k) = mP x (8 * j + k)
            unfold f_X1_operandForm
            rw [show f_X1_wantsOperand (gSo y k) = f_X2_wants (gSo y k) from rfl]
            rcases r4 with ⟨p1, p2, p3⟩ | ⟨p1, p2, p3, _⟩ | ⟨p1, p2, g, y2, hg2, p3, _⟩
            · rw [if_pos p1, p2]
            · rw [if_neg p1, if_pos p3, p2]
            · rw [if_neg p1, if_neg (by rw [p3]; exact fun z => m1_nI hg2 z.symm), p2]
          · rw [if_neg (show ¬ (2 : Int32) < 0 by decide), if_pos (show (2 : Int32) ≤ 2 by decide), if_neg (show ¬ (2 : Int32) = 0 by decide), if_neg (show ¬ (2 : Int32) = 0 by decide), if_neg (show ¬ (2 : Int32) = 1 by decide), if_neg (show ¬ (2 : Int32) = 1 by decide), if_pos (show (2 : Int32) = 2 from rfl)]
            exact ⟨rfl, fun _ => congrArg Int32.toInt64 r3.symm, sim_th h 0⟩
      · rw [if_neg k1, if_neg k1]
        exact ⟨rfl, fun z => absurd (show (1 : Int32) = 0 from z) (by decide), sim_th h 1⟩
