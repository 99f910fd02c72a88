/-! calls that write: clear, bare, the steps -/
theorem sim_same {st : Nat → Option GS} {x : MS} (h : Sim st x) {j : Nat} (hj : j < 12) {y y' : GS} (hst : st j = some y) (hK : gK y' = gK y) : ∀ (i : Nat) (z : GS), i < 12 → i ≠ j → st i = some z → ∀ k : Nat, k < 8 → nI k < gC z → gSr z k = nI j → gK y' = gK z :=
  fun i z hi _ hz k hk hc hs => hK.trans (src_kind h hj hst hi hz hk hc hs)
theorem sq_clear : simq_clear Sim := by
  intro st x b0 h
  unfold ob_clear F_X2_clear
  rcases hg : gat st b0 with _ | y
  · rw [oe_none rfl, if_pos (th_no h hg)]
    exact ⟨rfl, fun z => absurd (show (1 : Int32) = 0 from z) (by decide), sim_th h 1⟩
  · obtain ⟨j, hj, rfl, hst⟩ := gat_some hg
    have hr := (h j hj).2 y hst
    rw [oe_some rfl, if_neg (th_yes h hj hst), c31 hj]
    refine ⟨rfl, fun _ => ?_, ?_⟩
    · show (if gM y = 0 then (0 : Int64) else 1) = (if mM x j = 0 then 0 else 1)
      rw [hr.M]
    · refine sim_up h hj (fun i hi e => ⟨⟨rfl, rfl, rfl, rfl, rfl, rfl, u_ne e, rfl, rfl⟩, fun k hk => ⟨rfl, rfl, rfl, rfl⟩⟩) (sim_same h hj hst rfl) ?_
      refine ⟨hr.T, hr.K, hr.V, hr.S, hr.R, hr.W, u_eq', Or.inl rfl, hr.c9, hr.k4, hr.g2, fun hm => absurd rfl hm, fun k hk hc => ?_⟩
      exact rs_cg (rs_up (hr.sp hk hc) hst rfl rfl rfl rfl rfl) rfl rfl rfl rfl
theorem sq_bare : simq_bare Sim := by
  intro st x b0 h
  unfold ob_bare F_X2_bare
  rcases hg : gat st b0 with _ | y
  · rw [oe_none rfl, if_pos (th_no h hg)]
    exact ⟨rfl, fun z => absurd (show (1 : Int32) = 0 from z) (by decide), sim_th h 1⟩
  · obtain ⟨j, hj, rfl, hst⟩ := gat_some hg
    have hr := (h j hj).2 y hst
    rw [oe_some rfl, if_neg (th_yes h hj hst), c31 hj]
    refine ⟨rfl, fun _ => congrArg Int32.toInt64 hr.S.symm, ?_⟩
    refine sim_up h hj (fun i hi e => ⟨⟨rfl, rfl, rfl, u_ne e, rfl, rfl, rfl, rfl, rfl⟩, fun k hk => ⟨rfl, rfl, rfl, rfl⟩⟩) (sim_same h hj hst rfl) ?_
    refine ⟨hr.T, hr.K, hr.V, u_eq', hr.R, hr.W, hr.M, hr.M01, show vp_in (nI 0) 9 from vp_in_nI (by decide) (by decide), hr.k4, hr.g2, hr.HL, fun k hk hc => ?_⟩
    exact absurd hc (nI_pos (by omega))
/-- a step more -/
theorem add_sim {st : Nat → Option GS} {x : MS} (h : Sim st x) {j : Nat} (hj : j < 12) {y : GS} (hst : st j = some y) (hlt : gC y < 8) {s src fm : Int32} {op : Int64} (hs : ¬ f_X2_has (gK y) s = 0)
    (hf : (f_X2_wants s = 0 ∧ fm = 0 ∧ src = -1) ∨ ((¬ f_X2_wants s = 0) ∧ fm = 1 ∧ src = -1 ∧ G2 (gK y) op) ∨ ((¬ f_X2_wants s = 0) ∧ fm = 2 ∧ ∃ (g : Nat) (y2 : GS), g < 12 ∧ src = nI g ∧ st g = some y2 ∧ gK y2 = gK y)) :
    mth (F_X2_adds (0, x.2) (nI j) s fm op src).2 = 0 ∧ (F_X2_adds (0, x.2) (nI j) s fm op src).1 = (F_X0_addStep y s src op).1 ∧ Sim (va_up st j (some (F_X0_addStep y s src op).2)) (F_X2_adds (0, x.2) (nI j) s fm op src).2 := by
  have hr := (h j hj).2 y hst
  obtain ⟨c, hc, ec⟩ := vp_in_of (in8' hr.c9 hlt) (by decide)
  have hne : ¬ gC y = 8 := fun z => by rw [z] at hlt; exact absurd hlt (by decide)
  unfold F_X2_adds F_X0_addStep
  rw [c31 hj, if_neg (show ¬ mS (0, x.2) j = 8 by rw [show mS (0, x.2) j = gC y from hr.S]; exact hne)]
  rw [show mS ((0 : Int32), x.2) = mS x from rfl, hr.S, ec, i96 hj hc, nI_clamp (show c < 2 ^ 31 by omega), nI_1]
  refine ⟨rfl, u_eq', ?_⟩
  refine sim_up h hj (fun i hi e => ⟨⟨rfl, rfl, rfl, u_ne e, rfl, rfl, rfl, rfl, rfl⟩, fun k hk => ⟨u_ne (by omega), u_ne (by omega), uL_ne (by omega), u_ne (by omega)⟩⟩) (sim_same h hj hst rfl) ?_
  refine ⟨hr.T, hr.K, hr.V, u_eq', hr.R, hr.W, hr.M, hr.M01, vp_in_nI (show c + 1 < 9 by omega) (by decide), hr.k4, hr.g2, hr.HL, fun k hk hkc => ?_⟩
  have hkc2 : k < c + 1 := (nI_ltI (by omega) (by omega)).mp hkc
  by_cases e : k = c
  · subst e
    refine ⟨?_, ?_, ?_, ?_⟩
    · show upd (mO x) (8 * j + k) s (8 * j + k) = upd (gSo y) k s k
      rw [u_eq', u_eq']
    · show ¬ f_X2_has (gK y) (upd (gSo y) k s k) = 0
      rw [u_eq']; exact hs
    · show upd (mG x) (8 * j + k) src (8 * j + k) = upd (gSr y) k src k
      rw [u_eq', u_eq']
    · show (f_X2_wants (upd (gSo y) k s k) = 0 ∧ upd (mP x) (8 * j + k) fm (8 * j + k) = 0 ∧ upd (gSr y) k src k = -1) ∨ ((¬ f_X2_wants (upd (gSo y) k s k) = 0) ∧ upd (mP x) (8 * j + k) fm (8 * j + k) = 1 ∧ upd (gSr y) k src k = -1 ∧ vp_updL (mB x) (8 * j + k) op (8 * j + k) = vp_updL (gOp y) k op k ∧ G2 (gK y) (vp_updL (gOp y) k op k)) ∨
        ((¬ f_X2_wants (upd (gSo y) k s k) = 0) ∧ upd (mP x) (8 * j + k) fm (8 * j + k) = 2 ∧ ∃ (g : Nat) (y2 : GS), g < 12 ∧ upd (gSr y) k src k = nI g ∧ va_up st j (some (upd (gSo y) k s, upd (gSr y) k src, vp_updL (gOp y) k op, gK y, nI (k + 1), gV y, gM y, gH y, gL y, gR y, gW y)) g = some y2 ∧ gK y2 = gK y)
      rw [u_eq', u_eq', u_eq', uL_eq, uL_eq]
      rcases hf with ⟨p1, p2, p3⟩ | ⟨p1, p2, p3, p4⟩ | ⟨p1, p2, g, y2, p3, p4, p5, p6⟩
      · exact Or.inl ⟨p1, p2, p3⟩
      · exact Or.inr (Or.inl ⟨p1, p2, p3, rfl, p4⟩)
      · refine Or.inr (Or.inr ⟨p1, p2, g, ?_⟩)
        by_cases e2 : g = j
        · subst e2
          exact ⟨_, p3, p4, va_up_self .., rfl⟩
        · exact ⟨y2, p3, p4, by rw [va_up_ne _ _ e2]; exact p5, p6⟩
  · have hkc3 : nI k < gC y := by rw [ec]; exact nI_lt (by omega) (by omega)
    exact rs_cg (rs_up (hr.sp hk hkc3) hst rfl (u_ne (by omega)) (u_ne (by omega)) (uL_ne (by omega)) (u_ne (by omega))) (u_ne e) (u_ne e) (uL_ne e) rfl
theorem add_full {st : Nat → Option GS} {x : MS} (h : Sim st x) {j : Nat} (hj : j < 12) {y : GS} (hst : st j = some y) (hge : ¬ gC y < 8) {s src fm : Int32} {op : Int64} : mth (F_X2_adds (0, x.2) (nI j) s fm op src).2 = 3 ∧ Sim st (F_X2_adds (0, x.2) (nI j) s fm op src).2 := by
  have hr := (h j hj).2 y hst
  obtain ⟨c, hc, ec⟩ := vp_in_of hr.c9 (by decide)
  have he : gC y = 8 := by
    rw [ec] at hge ⊢
    have : ¬ nI c < nI 8 := hge
    rw [nI_ltI (by omega) (by omega)] at this
    rw [show c = 8 by omega]
    rfl
  unfold F_X2_adds
  rw [c31 hj, if_pos (show mS (0, x.2) j = 8 from hr.S.trans he)]
  exact ⟨rfl, sim_th h 3⟩
theorem wants01 (s : Int32) : f_X2_wants s = 0 ∨ f_X2_wants s = 1 := by
  unfold f_X2_wants
  repeat' split
  all_goals first | exact Or.inl rfl | exact Or.inr rfl
theorem sort_ok {k s w : Int32} (hk : kOK k) (h : e_X1_needSort k s w = 0) : (¬ f_X2_has k s = 0) ∧ f_X2_wants s = w := by
  have h2 := not_congr (sort2 hk s w)
  have h3 := h2.mp (ne2 h)
  exact ⟨fun z => h3 (Or.inl z), Classical.byContradiction (fun z => h3 (Or.inr z))⟩
theorem sq_step : simq_step Sim := by
  intro st x b0 b1 h
  unfold ob_step F_X2_step F_X1_step
  rcases hg : gat st b0 with _ | y
  · rw [oe_none rfl, if_pos (th_no h hg)]
    exact ⟨rfl, fun z => absurd (show (1 : Int32) = 0 from z) (by decide), sim_th h 1⟩
  · obtain ⟨j, hj, rfl, hst⟩ := gat_some hg
    have hr := (h j hj).2 y hst
    rw [oe_some rfl, if_neg (th_yes h hj hst), c31 hj, hr.K]
    rcases e_sort (gK y) b1 0 with hok | hno
    · obtain ⟨q1, q2⟩ := sort_ok hr.k4 hok
      rw [if_neg (ne2 hok), if_neg q1, if_pos q2]
      by_cases hlt : gC y < 8
      · rw [if_pos hlt]
        obtain ⟨a, b, c⟩ := add_sim h hj hst hlt (src := -1) (fm := 0) (op := 0) q1 (Or.inl ⟨q2, rfl, rfl⟩)
        exact ⟨a, fun _ => congrArg Int32.toInt64 b.symm, c⟩
      · rw [if_neg hlt]
        obtain ⟨a, b⟩ := add_full h hj hst hlt (s := b1) (src := -1) (fm := 0) (op := 0)
        exact ⟨a, fun z => absurd (show (3 : Int32) = 0 from z) (by decide), b⟩
    · rw [if_pos hno]
      rcases (sort2 hr.k4 b1 0).mp hno with z | z
      · rw [if_pos z]
        exact ⟨rfl, fun z => absurd (show (2 : Int32) = 0 from z) (by decide), sim_th h 2⟩
      · rw [if_neg z]
        split <;> exact ⟨rfl, fun z => absurd (show (2 : Int32) = 0 from z) (by decide), sim_th h 2⟩
theorem sq_stepBy : simq_stepBy Sim := by
  intro st x b0 b1 b2 h
  unfold ob_stepBy F_X2_stepBy F_X1_stepBy
  rcases hg : gat st b0 with _ | y
  · rw [oe_none rfl, if_pos (th_no h hg)]
    exact ⟨rfl, fun z => absurd (show (1 : Int32) = 0 from z) (by decide), sim_th h 1⟩
  · obtain ⟨j, hj, rfl, hst⟩ := gat_some hg
    have hr := (h j hj).2 y hst
    rw [oe_some rfl, if_neg (th_yes h hj hst), c31 hj, hr.K]
    rcases e_sort (gK y) b1 1 with hok | hno
    · obtain ⟨q1, q2⟩ := sort_ok hr.k4 hok
      have q3 : ¬ f_X2_wants b1 = 0 := by rw [q2]; decide
      rw [if_neg (ne2 hok), if_neg q1, if_neg q3, ← good_eq hr.k4]
      rcases e_good (gK y) b2 with hgd | hnog
      · have g1 : ¬ f_X1_isGood (gK y) b2 = 0 := by
          intro z
          unfold e_X1_needGood at hgd
          rw [if_pos z] at hgd
          exact absurd hgd (by decide)
        rw [if_neg (ne2 hgd), if_neg g1]
        by_cases hlt : gC y < 8
        · rw [if_pos hlt]
          obtain ⟨a, b, c⟩ := add_sim h hj hst hlt (src := -1) (fm := 1) (op := b2) q1 (Or.inr (Or.inl ⟨q3, rfl, rfl, good_G2 g1⟩))
          exact ⟨a, fun _ => congrArg Int32.toInt64 b.symm, c⟩
        · rw [if_neg hlt]
          obtain ⟨a, b⟩ := add_full h hj hst hlt (s := b1) (src := -1) (fm := 1) (op := b2)
          exact ⟨a, fun z => absurd (show (3 : Int32) = 0 from z) (by decide), b⟩
      · have g1 : f_X1_isGood (gK y) b2 = 0 := by
          unfold e_X1_needGood at hnog
          by_cases z : f_X1_isGood (gK y) b2 = 0
          · exact z
          · rw [if_neg z] at hnog
            exact absurd hnog (by decide)
        rw [if_pos hnog, if_pos g1]
        exact ⟨rfl, fun z => absurd (show (2 : Int32) = 0 from z) (by decide), sim_th h 2⟩
    · rw [if_pos hno]
      rcases (sort2 hr.k4 b1 1).mp hno with z | z
      · rw [if_pos z]
        exact ⟨rfl, fun z => absurd (show (2 : Int32) = 0 from z) (by decide), sim_th h 2⟩
      · rw [if_pos ((wants01 b1).resolve_right z)]
        split <;> exact ⟨rfl, fun z => absurd (show (2 : Int32) = 0 from z) (by decide), sim_th h 2⟩
theorem sq_stepOf : simq_stepOf Sim := by
  intro st x b0 b1 b2 h
  unfold ob_stepOf F_X2_stepOf F_X1_stepOf
  rcases hg : gat st b0 with _ | y
  · rw [oe_none rfl, if_pos (th_no h hg)]
    exact ⟨rfl, fun z => absurd (show (1 : Int32) = 0 from z) (by decide), sim_th h 1⟩
  · obtain ⟨j, hj, rfl, hst⟩ := gat_some hg
    have hr := (h j hj).2 y hst
    rw [oe_some rfl, if_neg (th_yes h hj hst)]
    rcases hg2 : gat st b2 with _ | y2
    · rw [oe_none rfl, if_pos (th_no h hg2)]
      exact ⟨rfl, fun z => absurd (show (1 : Int32) = 0 from z) (by decide), sim_th h 1⟩
    · obtain ⟨j2, hj2, rfl, hst2⟩ := gat_some hg2
      have hr2 := (h j2 hj2).2 y2 hst2
      rw [oe_some rfl, if_neg (th_yes h hj2 hst2), c31 hj, c31 hj2, hr.K, hr2.K]
      rcases e_sort (gK y) b1 1 with hok | hno
      · obtain ⟨q1, q2⟩ := sort_ok hr.k4 hok
        have q3 : ¬ f_X2_wants b1 = 0 := by rw [q2]; decide
        rw [if_neg (ne2 hok), if_neg q1, if_neg q3]
        by_cases hk : gK y2 = gK y
        · rw [if_pos hk, if_pos hk]
          by_cases hlt : gC y < 8
          · rw [if_pos hlt]
            obtain ⟨a, b, c⟩ := add_sim h hj hst hlt (src := nI j2) (fm := 2) (op := 0) q1 (Or.inr (Or.inr ⟨q3, rfl, j2, y2, hj2, rfl, hst2, hk⟩))
            exact ⟨a, fun _ => congrArg Int32.toInt64 b.symm, c⟩
          · rw [if_neg hlt]
            obtain ⟨a, b⟩ := add_full h hj hst hlt (s := b1) (src := nI j2) (fm := 2) (op := 0)
            exact ⟨a, fun z => absurd (show (3 : Int32) = 0 from z) (by decide), b⟩
        · rw [if_neg hk, if_neg hk]
          exact ⟨rfl, fun z => absurd (show (2 : Int32) = 0 from z) (by decide), sim_th h 2⟩
      · rw [if_pos hno]
        rcases (sort2 hr.k4 b1 1).mp hno with z | z
        · rw [if_pos z]
          exact ⟨rfl, fun z => absurd (show (2 : Int32) = 0 from z) (by decide), sim_th h 2⟩
        · rw [if_pos ((wants01 b1).resolve_right z)]
          split <;> exact ⟨rfl, fun z => absurd (show (2 : Int32) = 0 from z) (by decide), sim_th h 2⟩
