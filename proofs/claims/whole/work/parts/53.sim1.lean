/-! the relation between the board and the reference -/
def RS (st : Nat → Option GS) (x : MS) (j : Nat) (y : GS) (k : Nat) : Prop :=
  mO x (8 * j + k) = gSo y k ∧ (¬ f_X2_has (gK y) (gSo y k) = 0) ∧ mG x (8 * j + k) = gSr y k ∧
  ((f_X2_wants (gSo y k) = 0 ∧ mP x (8 * j + k) = 0 ∧ gSr y k = -1) ∨
   ((¬ f_X2_wants (gSo y k) = 0) ∧ mP x (8 * j + k) = 1 ∧ gSr y k = -1 ∧ mB x (8 * j + k) = gOp y k ∧ G2 (gK y) (gOp y k)) ∨
   ((¬ f_X2_wants (gSo y k) = 0) ∧ mP x (8 * j + k) = 2 ∧ ∃ (g : Nat) (y2 : GS), g < 12 ∧ gSr y k = nI g ∧ st g = some y2 ∧ gK y2 = gK y))
def RG (st : Nat → Option GS) (x : MS) (j : Nat) (y : GS) : Prop :=
  mT x j = 1 ∧ mK x j = gK y ∧ mV x j = gV y ∧ mS x j = gC y ∧ mR x j = gR y ∧ mW x j = gW y ∧ mM x j = gM y ∧ (gM y = 0 ∨ gM y = 1) ∧ vp_in (gC y) 9 ∧ kOK (gK y) ∧ G2 (gK y) (gV y) ∧
  ((¬ gM y = 0) → mH x j = gH y ∧ mL x j = gL y ∧ G2 (gK y) (gH y) ∧ G2 (gK y) (gL y)) ∧ ∀ k : Nat, k < 8 → nI k < gC y → RS st x j y k
def Sim (st : Nat → Option GS) (x : MS) : Prop := ∀ j : Nat, j < 12 → (st j = none → mT x j = 0 ∧ mS x j = 0 ∧ mM x j = 0) ∧ ∀ y : GS, st j = some y → RG st x j y
section RGP
variable {st : Nat → Option GS} {x : MS} {j : Nat} {y : GS}
theorem RG.T (h : RG st x j y) : mT x j = 1 := h.1
theorem RG.K (h : RG st x j y) : mK x j = gK y := h.2.1
theorem RG.V (h : RG st x j y) : mV x j = gV y := h.2.2.1
theorem RG.S (h : RG st x j y) : mS x j = gC y := h.2.2.2.1
theorem RG.R (h : RG st x j y) : mR x j = gR y := h.2.2.2.2.1
theorem RG.W (h : RG st x j y) : mW x j = gW y := h.2.2.2.2.2.1
theorem RG.M (h : RG st x j y) : mM x j = gM y := h.2.2.2.2.2.2.1
theorem RG.M01 (h : RG st x j y) : gM y = 0 ∨ gM y = 1 := h.2.2.2.2.2.2.2.1
theorem RG.c9 (h : RG st x j y) : vp_in (gC y) 9 := h.2.2.2.2.2.2.2.2.1
theorem RG.k4 (h : RG st x j y) : kOK (gK y) := h.2.2.2.2.2.2.2.2.2.1
theorem RG.g2 (h : RG st x j y) : G2 (gK y) (gV y) := h.2.2.2.2.2.2.2.2.2.2.1
theorem RG.HL (h : RG st x j y) (hm : ¬ gM y = 0) : mH x j = gH y ∧ mL x j = gL y ∧ G2 (gK y) (gH y) ∧ G2 (gK y) (gL y) := h.2.2.2.2.2.2.2.2.2.2.2.1 hm
theorem RG.sp (h : RG st x j y) {k : Nat} (hk : k < 8) (hc : nI k < gC y) : RS st x j y k := h.2.2.2.2.2.2.2.2.2.2.2.2 k hk hc
end RGP
theorem m1_nI {g : Nat} (hg : g < 12) : ¬ (-1 : Int32) = nI g := by
  intro h
  have h2 := congrArg Int32.toInt h
  rw [nI_toInt (by omega), show (-1 : Int32).toInt = -1 by decide] at h2
  omega
theorem sim_th {st : Nat → Option GS} {x : MS} (h : Sim st x) (t : Int32) : Sim st (t, x.2) := h
theorem sim_init : Sim (fun _ => none) x0 := fun j _ => ⟨fun _ => ⟨rfl, rfl, rfl⟩, fun y h => (by cases h)⟩
theorem sim_bi {st : Nat → Option GS} {x : MS} (h : Sim st x) : BI st := fun j hj y hy => ⟨((h j hj).2 y hy).c9, ((h j hj).2 y hy).M01⟩
theorem sim_mi {st : Nat → Option GS} {x : MS} (h : Sim st x) : MI x := by
  intro j hj
  rcases hs : st j with _ | y
  · obtain ⟨a, b, c⟩ := (h j hj).1 hs
    rw [a, b, c]
    refine ⟨show vp_in (nI 0) 9 from vp_in_nI (by decide) (by decide), fun s hs2 hlt => absurd hlt (nI_pos (by omega)), Or.inl rfl, Or.inl rfl⟩
  · have hr := (h j hj).2 y hs
    rw [hr.T, hr.S, hr.M]
    refine ⟨hr.c9, fun s hs2 hlt hp => ?_, Or.inr rfl, hr.M01⟩
    obtain ⟨r1, r2, r3, r4⟩ := hr.sp hs2 hlt
    rcases r4 with ⟨_, p, _⟩ | ⟨_, p, _⟩ | ⟨_, _, g, y2, hg, e, _, _⟩
    · rw [p] at hp; exact absurd hp (by decide)
    · rw [p] at hp; exact absurd hp (by decide)
    · rw [r3, e]; exact vp_in_nI hg (by decide)
theorem th_no {st : Nat → Option GS} {x : MS} (h : Sim st x) {b0 : Int32} (hg : gat st b0 = none) : f_X2_isThere x b0 = 0 := by
  unfold f_X2_isThere
  by_cases h1 : b0 < 0
  · rw [if_pos h1]
  · by_cases h2 : (12 : Int32) ≤ b0
    · rw [if_neg h1, if_pos h2]
    · obtain ⟨j, hj, rfl⟩ := vp_in_of (in12 h1 h2) (by decide)
      rw [gat_nI hj] at hg
      rw [if_neg h1, if_neg h2, nI_clamp (by omega), if_pos ((h j hj).1 hg).1]
theorem th_yes {st : Nat → Option GS} {x : MS} (h : Sim st x) {j : Nat} (hj : j < 12) {y : GS} (hst : st j = some y) : ¬ f_X2_isThere x (nI j) = 0 := by
  unfold f_X2_isThere
  have hj2 : ¬ (12 : Int32) ≤ nI j := by show ¬ nI 12 ≤ nI j; rw [nI_leI (by omega) (by omega)]; omega
  rw [if_neg (nI_pos (by omega)), if_neg hj2, nI_clamp (by omega), ((h j hj).2 y hst).T, if_neg (by decide)]
  decide
theorem c31 {j : Nat} (h : j < 12) : (nI j).toNatClampNeg = j := nI_clamp (by omega)
theorem i96 {j k : Nat} (hj : j < 12) (hk : k < 8) : (((8 : Int32) * nI j) + nI k).toNatClampNeg = 8 * j + k := by
  have e : (8 : Int32) * nI j + nI k = nI (8 * j + k) := by
    show nI 8 * nI j + nI k = _
    rw [pk_mul, nI_add]
  rw [e, nI_clamp (by omega)]
/-- one gauge's new state, the others as they were -/
theorem sim_up {st : Nat → Option GS} {x x' : MS} {j : Nat} {y' : GS} (h : Sim st x) (hj : j < 12)
    (ag : ∀ i : Nat, i < 12 → i ≠ j → (mT x' i = mT x i ∧ mK x' i = mK x i ∧ mV x' i = mV x i ∧ mS x' i = mS x i ∧ mR x' i = mR x i ∧ mW x' i = mW x i ∧ mM x' i = mM x i ∧ mH x' i = mH x i ∧ mL x' i = mL x i) ∧
      ∀ k : Nat, k < 8 → mO x' (8 * i + k) = mO x (8 * i + k) ∧ mP x' (8 * i + k) = mP x (8 * i + k) ∧ mB x' (8 * i + k) = mB x (8 * i + k) ∧ mG x' (8 * i + k) = mG x (8 * i + k))
    (hk : ∀ (i : Nat) (y : GS), i < 12 → i ≠ j → st i = some y → ∀ k : Nat, k < 8 → nI k < gC y → gSr y k = nI j → gK y' = gK y)
    (hr : RG (va_up st j (some y')) x' j y') : Sim (va_up st j (some y')) x' := by
  intro i hi
  by_cases e : i = j
  · subst e
    rw [va_up_self]
    exact ⟨fun z => (by cases z), fun y z => (by cases z; exact hr)⟩
  · rw [va_up_ne _ _ e]
    obtain ⟨⟨a1, a2, a3, a4, a5, a6, a7, a8, a9⟩, b⟩ := ag i hi e
    refine ⟨fun z => ?_, fun y z => ?_⟩
    · rw [a1, a4, a7]; exact (h i hi).1 z
    · have g := (h i hi).2 y z
      refine ⟨a1.trans g.T, a2.trans g.K, a3.trans g.V, a4.trans g.S, a5.trans g.R, a6.trans g.W, a7.trans g.M, g.M01, g.c9, g.k4, g.g2, fun hm => ?_, fun k hk8 hc => ?_⟩
      · obtain ⟨p1, p2, p3⟩ := g.HL hm
        exact ⟨a8.trans p1, a9.trans p2, p3⟩
      · obtain ⟨b1, b2, b3, b4⟩ := b k hk8
        obtain ⟨r1, r2, r3, r4⟩ := g.sp hk8 hc
        refine ⟨b1.trans r1, r2, b4.trans r3, ?_⟩
        rcases r4 with ⟨p1, p2, p3⟩ | ⟨p1, p2, p3, p4, p5⟩ | ⟨p1, p2, g', y2, p3, p4, p5, p6⟩
        · exact Or.inl ⟨p1, b2.trans p2, p3⟩
        · exact Or.inr (Or.inl ⟨p1, b2.trans p2, p3, b3.trans p4, p5⟩)
        · refine Or.inr (Or.inr ⟨p1, b2.trans p2, g', ?_⟩)
          by_cases e2 : g' = j
          · subst e2
            exact ⟨y', p3, p4, va_up_self .., hk i y hi e z k hk8 hc p4⟩
          · exact ⟨y2, p3, p4, by rw [va_up_ne _ _ e2]; exact p5, p6⟩
theorem src_kind {st : Nat → Option GS} {x : MS} (h : Sim st x) {j : Nat} (hj : j < 12) {yj : GS} (hst : st j = some yj) {i : Nat} {y : GS} (hi : i < 12) (hy : st i = some y) {k : Nat} (hk : k < 8) (hc : nI k < gC y) (hs : gSr y k = nI j) : gK yj = gK y := by
  obtain ⟨r1, r2, r3, r4⟩ := ((h i hi).2 y hy).sp hk hc
  rcases r4 with ⟨_, _, p⟩ | ⟨_, _, p, _⟩ | ⟨_, _, g, y2, hg, p, q, w⟩
  · rw [p] at hs; exact absurd hs (m1_nI hj)
  · rw [p] at hs; exact absurd hs (m1_nI hj)
  · rw [p] at hs
    have e : g = j := (nI_eq (by omega) (by omega)).mp hs
    subst e
    rw [hst] at q
    cases q
    exact w
theorem u_ne {f : Nat → Int32} {k i : Nat} {v : Int32} (h : i ≠ k) : upd f k v i = f i := by simp [upd, h]
theorem u_eq' {f : Nat → Int32} {k : Nat} {v : Int32} : upd f k v k = v := by simp [upd]
theorem uL_ne {f : Nat → Int64} {k i : Nat} {v : Int64} (h : i ≠ k) : vp_updL f k v i = f i := by simp [vp_updL, h]
theorem uL_eq {f : Nat → Int64} {k : Nat} {v : Int64} : vp_updL f k v k = v := by simp [vp_updL]
/-- the sources of the gauge itself are seen the same -/
theorem rs_up {st : Nat → Option GS} {x x' : MS} {j i : Nat} {y y' yj : GS} {k : Nat} (h : RS st x i y k) (hst : st j = some yj) (hK : gK y' = gK yj) (h1 : mO x' (8 * i + k) = mO x (8 * i + k)) (h2 : mP x' (8 * i + k) = mP x (8 * i + k)) (h3 : mB x' (8 * i + k) = mB x (8 * i + k)) (h4 : mG x' (8 * i + k) = mG x (8 * i + k)) : RS (va_up st j (some y')) x' i y k := by
  obtain ⟨r1, r2, r3, r4⟩ := h
  refine ⟨h1.trans r1, r2, h4.trans r3, ?_⟩
  rcases r4 with ⟨p1, p2, p3⟩ | ⟨p1, p2, p3, p4, p5⟩ | ⟨p1, p2, g', y2, p3, p4, p5, p6⟩
  · exact Or.inl ⟨p1, h2.trans p2, p3⟩
  · exact Or.inr (Or.inl ⟨p1, h2.trans p2, p3, h3.trans p4, p5⟩)
  · refine Or.inr (Or.inr ⟨p1, h2.trans p2, g', ?_⟩)
    by_cases e2 : g' = j
    · subst e2
      rw [hst] at p5
      cases p5
      exact ⟨y', p3, p4, va_up_self .., hK.trans p6⟩
    · exact ⟨y2, p3, p4, by rw [va_up_ne _ _ e2]; exact p5, p6⟩
/-- the same steps under another name of the gauge's state -/
theorem rs_cg {st : Nat → Option GS} {x : MS} {i : Nat} {y y' : GS} {k : Nat} (h : RS st x i y k) (h1 : gSo y' k = gSo y k) (h2 : gSr y' k = gSr y k) (h3 : gOp y' k = gOp y k) (h4 : gK y' = gK y) : RS st x i y' k := by
  unfold RS at h ⊢
  rw [h1, h2, h3, h4]
  exact h
