/-! most -/
theorem kind_of {b : Int32} (h : e_X1_needKind b = 0) : kOK b := by
  unfold e_X1_needKind at h
  by_cases h1 : b < 0
  · rw [if_pos h1] at h; exact absurd h (by decide)
  · rw [if_neg h1] at h
    by_cases h2 : b ≤ 3
    · rw [Int32.lt_iff_toInt_lt, show (0 : Int32).toInt = 0 by decide] at h1
      rw [Int32.le_iff_toInt_le, show (3 : Int32).toInt = 3 by decide] at h2
      rcases (show b.toInt = 0 ∨ b.toInt = 1 ∨ b.toInt = 2 ∨ b.toInt = 3 by omega) with z | z | z | z
      · exact Or.inl (Int32.toInt_inj.mp (z.trans (by decide)))
      · exact Or.inr (Or.inl (Int32.toInt_inj.mp (z.trans (by decide))))
      · exact Or.inr (Or.inr (Or.inl (Int32.toInt_inj.mp (z.trans (by decide)))))
      · exact Or.inr (Or.inr (Or.inr (Int32.toInt_inj.mp (z.trans (by decide)))))
    · rw [if_neg h2] at h; exact absurd h (by decide)
def MR (st : Nat → Option GS) (b0 : Int32) (o : Option (Nat × GS)) (n : Int32) : Prop :=
  (o = none ∧ n = -1) ∨ ∃ (q : Nat) (yq : GS) (bi : Nat) (yb : GS), o = some (bi, yb) ∧ n = nI q ∧ q < 12 ∧ st q = some yq ∧ gK yb = b0 ∧ gV yb = gV yq ∧ G2 b0 (gV yb)
theorem mo_lp {st : Nat → Option GS} {x : MS} (h : Sim st x) {b0 b1 : Int32} (hk : kOK b0) (hb : b1 = 0 ∨ b1 = 1) : ∀ (k i : Nat) (o : Option (Nat × GS)) (n : Int32), i ≤ 12 → i + k = 13 → MR st b0 o n →
    (mostL st b0 b1 k o i = none → mth (lp_X2_most x b0 b1 k n i).2 = 2) ∧ (∀ q, mostL st b0 b1 k o i = some q → mth (lp_X2_most x b0 b1 k n i).2 = 0 ∧ gV q.2 = (lp_X2_most x b0 b1 k n i).1) ∧ Sim st (lp_X2_most x b0 b1 k n i).2 := by
  intro k
  induction k with
  | zero => intro i o n _ _; omega
  | succ k ih =>
    intro i o n hi hik hm
    have go : ∀ o n, MR st b0 o n → (mostL st b0 b1 k o (i + 1) = none → mth (lp_X2_most x b0 b1 k n (i + 1)).2 = 2) ∧ (∀ q, mostL st b0 b1 k o (i + 1) = some q → mth (lp_X2_most x b0 b1 k n (i + 1)).2 = 0 ∧ gV q.2 = (lp_X2_most x b0 b1 k n (i + 1)).1) ∧ Sim st (lp_X2_most x b0 b1 k n (i + 1)).2 ∨ 12 < i + 1 := by
      intro o n hm
      by_cases z : i + 1 ≤ 12
      · exact Or.inl (ih (i + 1) o n z (by omega) hm)
      · exact Or.inr (by omega)
    rw [lp_X2_most]
    by_cases c : (12 : Int32) ≤ nI i
    · rw [if_pos c, mL_e c]
      rcases hm with ⟨rfl, rfl⟩ | ⟨q, yq, bi, yb, rfl, rfl, hq, hs, hkb, hv, hg⟩
      · rw [if_neg (show ¬ (0 : Int32) ≤ -1 by decide)]
        exact ⟨fun _ => rfl, fun q z => (by cases z), sim_th h 2⟩
      · rw [if_pos (nI_pos' (by omega)), c31 hq]
        refine ⟨fun z => (by cases z), fun z9 z => ?_, sim_th h 0⟩
        cases z
        exact ⟨rfl, hv.trans ((h q hq).2 yq hs).V.symm⟩
    · have hi2 := nlt12 c hi
      have go : ∀ o n, MR st b0 o n → (mostL st b0 b1 k o (i + 1) = none → mth (lp_X2_most x b0 b1 k n (i + 1)).2 = 2) ∧ (∀ q, mostL st b0 b1 k o (i + 1) = some q → mth (lp_X2_most x b0 b1 k n (i + 1)).2 = 0 ∧ gV q.2 = (lp_X2_most x b0 b1 k n (i + 1)).1) ∧ Sim st (lp_X2_most x b0 b1 k n (i + 1)).2 := fun o n hm => ih (i + 1) o n (by omega) (by omega) hm
      rw [if_neg c, c31 hi2]
      rcases hs : st i with _ | y
      · rw [mL_n c hs, ((h i hi2).1 hs).1, if_pos rfl]
        exact go o n hm
      · have hy := (h i hi2).2 y hs
        rw [hy.T, if_neg (show ¬ (1 : Int32) = 0 by decide), hy.K]
        by_cases e : gK y = b0
        · rw [if_pos e]
          have gy : G2 b0 (gV y) := e ▸ hy.g2
          rcases hm with ⟨rfl, rfl⟩ | ⟨q, yq, bi, yb, rfl, rfl, hq, hsq, hkb, hv, hg⟩
          · rw [mL_0 c hs e, if_pos (show (-1 : Int32) < 0 by decide)]
            exact go _ _ (Or.inr ⟨i, y, i, y, rfl, rfl, hi2, hs, e, rfl, gy⟩)
          · have hyq := (h q hq).2 yq hsq
            have keep : MR st b0 (some (bi, yb)) (nI q) := Or.inr ⟨q, yq, bi, yb, rfl, rfl, hq, hsq, hkb, hv, hg⟩
            have take : MR st b0 (some (i, y)) (nI i) := Or.inr ⟨i, y, i, y, rfl, rfl, hi2, hs, e, rfl, gy⟩
            rw [if_neg (nI_pos (by omega)), c31 hq, hyq.V, hy.V, ← hv]
            rcases hb with rfl | rfl
            · rw [if_pos (show (0 : Int32) = 0 from rfl), ← above_eq hk hg gy]
              by_cases u : f_X1_isAbove (gV y) (gV yb) (gK yb) = 0
              · rw [mL_b c hs e u]
                rw [hkb] at u
                by_cases u2 : f_X1_isAbove (gV yb) (gV y) b0 = 0
                · rw [if_pos u2]
                  have et := above_tie hk u u2
                  exact go _ _ (Or.inr ⟨q, yq, i, y, rfl, rfl, hq, hsq, e, et.trans hv, gy⟩)
                · rw [if_neg u2]
                  exact go _ _ take
              · rw [mL_a c hs e u]
                rw [hkb] at u
                rw [if_pos (above_total u)]
                exact go _ _ keep
            · rw [if_neg (show ¬ (1 : Int32) = 0 by decide), ← above_eq hk gy hg]
              by_cases u : f_X1_isAbove (gV y) (gV yb) (gK yb) = 1
              · rw [mL_b c hs e u]
                rw [hkb] at u
                rw [if_neg (by rw [u]; decide)]
                exact go _ _ take
              · rw [mL_a c hs e u]
                rw [hkb] at u
                rw [if_pos ((above01 _ _ _).resolve_right u)]
                exact go _ _ keep
        · rw [if_neg e, mL_k c hs e]
          exact go o n hm
theorem sq_most : simq_most Sim := by
  intro st x b0 b1 h hb
  unfold ob_most F_X2_most
  rcases e_kind b0 with hok | hno
  · rw [if_neg (ne2 hok)]
    have hk := kind_of hok
    have a1 : ¬ b0 < 0 := by rcases hk with rfl | rfl | rfl | rfl <;> decide
    have a2 : b0 ≤ 3 := by rcases hk with rfl | rfl | rfl | rfl <;> decide
    rw [if_neg a1, if_pos a2]
    obtain ⟨p1, p2, p3⟩ := mo_lp h hk hb 13 0 none (-1) (by omega) rfl (Or.inl ⟨rfl, rfl⟩)
    rcases hq : mostL st b0 b1 13 none 0 with _ | q
    · exact ⟨p1 hq, fun z => absurd (show (2 : Int32) = 0 from z) (by decide), p3⟩
    · exact ⟨(p2 q hq).1, fun _ => (p2 q hq).2, p3⟩
  · rw [if_pos hno]
    unfold e_X1_needKind at hno
    by_cases h1 : b0 < 0
    · rw [if_pos h1]
      exact ⟨rfl, fun z => absurd (show (1 : Int32) = 0 from z) (by decide), sim_th h 1⟩
    · rw [if_neg h1] at hno ⊢
      by_cases h2 : b0 ≤ 3
      · rw [if_pos h2] at hno; exact absurd hno (by decide)
      · rw [if_neg h2]
        exact ⟨rfl, fun z => absurd (show (1 : Int32) = 0 from z) (by decide), sim_th h 1⟩
