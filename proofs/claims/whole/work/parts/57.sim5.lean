/-! readings -/
theorem fdn_nw {s : Int32} (h : f_X2_wants s = 0) (v o o2 : Int64) (k : Int32) : fdn s v o k = fdn s v o2 k := by
  have h1 : ¬ s = 1 := fun z => by rw [z] at h; exact absurd h (by decide)
  have h2 : ¬ s = 2 := fun z => by rw [z] at h; exact absurd h (by decide)
  have h4 : ¬ s = 4 := fun z => by rw [z] at h; exact absurd h (by decide)
  unfold fdn
  rw [if_neg h1, if_neg h1, if_neg h2, if_neg h2, if_neg h4, if_neg h4]
theorem done_fdn (x : MS) (b0 b1 : Int32) (v : Int64) : f_X2_done x b0 b1 v = fdn (mO x (((8 : Int32) * b0) + b1).toNatClampNeg) v (if mP x (((8 : Int32) * b0) + b1).toNatClampNeg = 1 then mB x (((8 : Int32) * b0) + b1).toNatClampNeg else if mP x (((8 : Int32) * b0) + b1).toNatClampNeg = 2 then mV x (mG x (((8 : Int32) * b0) + b1).toNatClampNeg).toNatClampNeg else 0) (mK x b0.toNatClampNeg) := by
  unfold f_X2_done fdn
  by_cases h1 : mP x (((8 : Int32) * b0) + b1).toNatClampNeg = 1
  · rw [if_pos h1, if_pos h1]
  · rw [if_neg h1, if_neg h1]
    by_cases h2 : mP x (((8 : Int32) * b0) + b1).toNatClampNeg = 2
    · rw [if_pos h2, if_pos h2]
    · rw [if_neg h2, if_neg h2]
theorem gat_m1 (st : Nat → Option GS) : gat st (-1) = none := by
  unfold gat
  rw [if_pos (by decide)]
/-- one step of a reading -/
theorem rd_step {st : Nat → Option GS} {x : MS} (h : Sim st x) {j : Nat} (hj : j < 12) {y : GS} (hst : st j = some y) {k : Nat} (hk : k < 8) (hc : nI k < gC y) {v : Int64} (hv : G2 (gK y) v) :
    f_X1_afterStep (gSo y (nI k).toNatClampNeg) v (opnd st y k) (gK y) = f_X2_done x (nI j) (nI k) v ∧ G2 (gK y) (f_X2_done x (nI j) (nI k) v) := by
  have hr := (h j hj).2 y hst
  obtain ⟨r1, r2, r3, r4⟩ := hr.sp hk hc
  rw [done_fdn, i96 hj hk, c31 hj, hr.K, r1, r3, nI_clamp (show k < 2 ^ 31 by omega)]
  unfold opnd
  rw [nI_clamp (show k < 2 ^ 31 by omega)]
  rcases r4 with ⟨p1, p2, p3⟩ | ⟨p1, p2, p3, p4, p5⟩ | ⟨p1, p2, g, y2, p3, p4, p5, p6⟩
  · rw [p3, oe_none (gat_m1 st)]
    have e := step_eq (o := gOp y k) hr.k4 r2 hv (fun z => absurd p1 z)
    rw [fdn_nw p1 v (gOp y k)] at e
    exact e
  · rw [p3, oe_none (gat_m1 st), p2, if_pos (show (1 : Int32) = 1 from rfl), p4]
    exact step_eq hr.k4 r2 hv (fun _ => p5)
  · have hy2 := (h g p3).2 y2 p5
    rw [p4, oe_some (show gat st (nI g) = some y2 by rw [gat_nI p3]; exact p5), p2, if_neg (show ¬ (2 : Int32) = 1 by decide), if_pos (show (2 : Int32) = 2 from rfl), c31 p3, hy2.V]
    exact step_eq hr.k4 r2 hv (fun _ => p6 ▸ hy2.g2)
theorem val_sim {st : Nat → Option GS} {x x' : MS} (h : Sim st x) {j : Nat} (hj : j < 12) {y : GS} (hst : st j = some y) {v hi lo : Int64} {sw : Int32} (hv : G2 (gK y) v) (ghi : G2 (gK y) hi) (glo : G2 (gK y) lo)
    (eT : mT x' = mT x) (eK : mK x' = mK x) (eV : mV x' = vp_updL (mV x) j v) (eS : mS x' = mS x) (eR : mR x' = upd (mR x) j (mR x j + 1)) (eW : ∀ i, i ≠ j → mW x' i = mW x i) (eWj : mW x' j = sw) (eM : mM x' = upd (mM x) j 1)
    (eH : ∀ i, i ≠ j → mH x' i = mH x i) (eHj : mH x' j = hi) (eL : ∀ i, i ≠ j → mL x' i = mL x i) (eLj : mL x' j = lo) (eO : mO x' = mO x) (eP : mP x' = mP x) (eB : mB x' = mB x) (eG : mG x' = mG x) :
    Sim (va_up st j (some (gSo y, gSr y, gOp y, gK y, gC y, v, (1 : Int32), hi, lo, (gR y) + (1 : Int32), sw))) x' := by
  have hr := (h j hj).2 y hst
  refine sim_up h hj (fun i hi e => ⟨⟨by rw [eT], by rw [eK], by rw [eV]; exact uL_ne e, by rw [eS], by rw [eR]; exact u_ne e, eW i e, by rw [eM]; exact u_ne e, eH i e, eL i e⟩, fun k hk => ⟨by rw [eO], by rw [eP], by rw [eB], by rw [eG]⟩⟩) (sim_same h hj hst rfl) ?_
  refine ⟨by rw [eT]; exact hr.T, by rw [eK]; exact hr.K, by rw [eV]; exact uL_eq, by rw [eS]; exact hr.S, by rw [eR, ← hr.R]; exact u_eq', eWj, by rw [eM]; exact u_eq', Or.inr rfl, hr.c9, hr.k4, hv, fun _ => ⟨eHj, eLj, ghi, glo⟩, fun k hk hc => ?_⟩
  exact rs_cg (rs_up (hr.sp hk hc) hst rfl (by rw [eO]) (by rw [eP]) (by rw [eB]) (by rw [eG])) rfl rfl rfl rfl
theorem end_sim {st : Nat → Option GS} {x : MS} (h : Sim st x) {j : Nat} (hj : j < 12) {y : GS} (hst : st j = some y) {v b1 : Int64} (hv : G2 (gK y) v) {k i : Nat} (c : gC y ≤ nI i) :
    (lp_X2_comes x (nI j) b1 (k + 1) v i).1 = v ∧ mth (lp_X2_comes x (nI j) b1 (k + 1) v i).2 = mth x ∧ Sim (va_up st j (some (F_X0_takeValue y v))) (lp_X2_comes x (nI j) b1 (k + 1) v i).2 := by
  have hr := (h j hj).2 y hst
  rw [lp_X2_comes, c31 hj, hr.S, if_pos c]
  unfold F_X0_takeValue f_X1_signOf f_X1_higher f_X1_lower
  rw [← hr.V]
  by_cases s1 : 0 ≤ lg_cmp v 0
  · by_cases s2 : 0 ≤ lg_cmp (mV x j) 0
    · rw [if_pos s1, if_pos s1, if_pos s2, if_pos s2, if_pos (show (0 : Int32) = 0 from rfl), hr.M, hr.K]
      by_cases hm : gM y = 0
      · rw [if_pos hm, if_pos hm]
        exact ⟨rfl, rfl, val_sim h hj hst hv hv hv rfl rfl rfl rfl rfl (fun i e => rfl) hr.W rfl (fun i e => uL_ne e) uL_eq (fun i e => uL_ne e) uL_eq rfl rfl rfl rfl⟩
      · obtain ⟨p1, p2, p3, p4⟩ := hr.HL hm
        rw [if_neg hm, if_neg hm, p1, p2, ← above_eq hr.k4 hv p3, ← above_eq hr.k4 p4 hv]
        by_cases u : f_X1_isAbove v (gH y) (gK y) = 0
        · have hh : (if f_X1_isAbove (gH y) v (gK y) = 0 then v else gH y) = gH y := by
            by_cases u3 : f_X1_isAbove (gH y) v (gK y) = 0
            · rw [if_pos u3]; exact above_tie hr.k4 u u3
            · rw [if_neg u3]
          rw [if_pos u, hh]
          by_cases w : f_X1_isAbove (gL y) v (gK y) = 0
          · rw [if_pos w, if_pos w]
            exact ⟨rfl, rfl, val_sim h hj hst hv p3 p4 rfl rfl rfl rfl rfl (fun i e => rfl) hr.W rfl (fun i e => rfl) p1 (fun i e => rfl) p2 rfl rfl rfl rfl⟩
          · rw [if_neg w, if_neg w]
            exact ⟨rfl, rfl, val_sim h hj hst hv p3 hv rfl rfl rfl rfl rfl (fun i e => rfl) hr.W rfl (fun i e => rfl) p1 (fun i e => uL_ne e) uL_eq rfl rfl rfl rfl⟩
        · rw [if_neg u, if_pos (above_total u)]
          by_cases w : f_X1_isAbove (gL y) v (gK y) = 0
          · rw [if_pos w, if_pos w]
            exact ⟨rfl, rfl, val_sim h hj hst hv hv p4 rfl rfl rfl rfl rfl (fun i e => rfl) hr.W rfl (fun i e => uL_ne e) uL_eq (fun i e => rfl) p2 rfl rfl rfl rfl⟩
          · rw [if_neg w, if_neg w]
            exact ⟨rfl, rfl, val_sim h hj hst hv hv hv rfl rfl rfl rfl rfl (fun i e => rfl) hr.W rfl (fun i e => uL_ne e) uL_eq (fun i e => uL_ne e) uL_eq rfl rfl rfl rfl⟩
    · rw [if_pos s1, if_pos s1, if_neg s2, if_neg s2, if_neg (show ¬ (0 : Int32) = 1 by decide), hr.M, hr.K]
      by_cases hm : gM y = 0
      · rw [if_pos hm, if_pos hm]
        exact ⟨rfl, rfl, val_sim h hj hst hv hv hv rfl rfl rfl rfl rfl (fun i e => u_ne e) (by rw [← hr.W]; exact u_eq') rfl (fun i e => uL_ne e) uL_eq (fun i e => uL_ne e) uL_eq rfl rfl rfl rfl⟩
      · obtain ⟨p1, p2, p3, p4⟩ := hr.HL hm
        rw [if_neg hm, if_neg hm, p1, p2, ← above_eq hr.k4 hv p3, ← above_eq hr.k4 p4 hv]
        by_cases u : f_X1_isAbove v (gH y) (gK y) = 0
        · have hh : (if f_X1_isAbove (gH y) v (gK y) = 0 then v else gH y) = gH y := by
            by_cases u3 : f_X1_isAbove (gH y) v (gK y) = 0
            · rw [if_pos u3]; exact above_tie hr.k4 u u3
            · rw [if_neg u3]
          rw [if_pos u, hh]
          by_cases w : f_X1_isAbove (gL y) v (gK y) = 0
          · rw [if_pos w, if_pos w]
            exact ⟨rfl, rfl, val_sim h hj hst hv p3 p4 rfl rfl rfl rfl rfl (fun i e => u_ne e) (by rw [← hr.W]; exact u_eq') rfl (fun i e => rfl) p1 (fun i e => rfl) p2 rfl rfl rfl rfl⟩
          · rw [if_neg w, if_neg w]
            exact ⟨rfl, rfl, val_sim h hj hst hv p3 hv rfl rfl rfl rfl rfl (fun i e => u_ne e) (by rw [← hr.W]; exact u_eq') rfl (fun i e => rfl) p1 (fun i e => uL_ne e) uL_eq rfl rfl rfl rfl⟩
        · rw [if_neg u, if_pos (above_total u)]
          by_cases w : f_X1_isAbove (gL y) v (gK y) = 0
          · rw [if_pos w, if_pos w]
            exact ⟨rfl, rfl, val_sim h hj hst hv hv p4 rfl rfl rfl rfl rfl (fun i e => u_ne e) (by rw [← hr.W]; exact u_eq') rfl (fun i e => uL_ne e) uL_eq (fun i e => rfl) p2 rfl rfl rfl rfl⟩
          · rw [if_neg w, if_neg w]
            exact ⟨rfl, rfl, val_sim h hj hst hv hv hv rfl rfl rfl rfl rfl (fun i e => u_ne e) (by rw [← hr.W]; exact u_eq') rfl (fun i e => uL_ne e) uL_eq (fun i e => uL_ne e) uL_eq rfl rfl rfl rfl⟩
  · by_cases s2 : 0 ≤ lg_cmp (mV x j) 0
    · rw [if_neg s1, if_neg s1, if_pos s2, if_pos s2, if_neg (show ¬ (1 : Int32) = 0 by decide), hr.M, hr.K]
      by_cases hm : gM y = 0
      · rw [if_pos hm, if_pos hm]
        exact ⟨rfl, rfl, val_sim h hj hst hv hv hv rfl rfl rfl rfl rfl (fun i e => u_ne e) (by rw [← hr.W]; exact u_eq') rfl (fun i e => uL_ne e) uL_eq (fun i e => uL_ne e) uL_eq rfl rfl rfl rfl⟩
      · obtain ⟨p1, p2, p3, p4⟩ := hr.HL hm
        rw [if_neg hm, if_neg hm, p1, p2, ← above_eq hr.k4 hv p3, ← above_eq hr.k4 p4 hv]
        by_cases u : f_X1_isAbove v (gH y) (gK y) = 0
        · have hh : (if f_X1_isAbove (gH y) v (gK y) = 0 then v else gH y) = gH y := by
            by_cases u3 : f_X1_isAbove (gH y) v (gK y) = 0
            · rw [if_pos u3]; exact above_tie hr.k4 u u3
            · rw [if_neg u3]
          rw [if_pos u, hh]
          by_cases w : f_X1_isAbove (gL y) v (gK y) = 0
          · rw [if_pos w, if_pos w]
            exact ⟨rfl, rfl, val_sim h hj hst hv p3 p4 rfl rfl rfl rfl rfl (fun i e => u_ne e) (by rw [← hr.W]; exact u_eq') rfl (fun i e => rfl) p1 (fun i e => rfl) p2 rfl rfl rfl rfl⟩
          · rw [if_neg w, if_neg w]
            exact ⟨rfl, rfl, val_sim h hj hst hv p3 hv rfl rfl rfl rfl rfl (fun i e => u_ne e) (by rw [← hr.W]; exact u_eq') rfl (fun i e => rfl) p1 (fun i e => uL_ne e) uL_eq rfl rfl rfl rfl⟩
        · rw [if_neg u, if_pos (above_total u)]
          by_cases w : f_X1_isAbove (gL y) v (gK y) = 0
          · rw [if_pos w, if_pos w]
            exact ⟨rfl, rfl, val_sim h hj hst hv hv p4 rfl rfl rfl rfl rfl (fun i e => u_ne e) (by rw [← hr.W]; exact u_eq') rfl (fun i e => uL_ne e) uL_eq (fun i e => rfl) p2 rfl rfl rfl rfl⟩
          · rw [if_neg w, if_neg w]
            exact ⟨rfl, rfl, val_sim h hj hst hv hv hv rfl rfl rfl rfl rfl (fun i e => u_ne e) (by rw [← hr.W]; exact u_eq') rfl (fun i e => uL_ne e) uL_eq (fun i e => uL_ne e) uL_eq rfl rfl rfl rfl⟩
    · rw [if_neg s1, if_neg s1, if_neg s2, if_neg s2, if_pos (show (1 : Int32) = 1 from rfl), hr.M, hr.K]
      by_cases hm : gM y = 0
      · rw [if_pos hm, if_pos hm]
        exact ⟨rfl, rfl, val_sim h hj hst hv hv hv rfl rfl rfl rfl rfl (fun i e => rfl) hr.W rfl (fun i e => uL_ne e) uL_eq (fun i e => uL_ne e) uL_eq rfl rfl rfl rfl⟩
      · obtain ⟨p1, p2, p3, p4⟩ := hr.HL hm
        rw [if_neg hm, if_neg hm, p1, p2, ← above_eq hr.k4 hv p3, ← above_eq hr.k4 p4 hv]
        by_cases u : f_X1_isAbove v (gH y) (gK y) = 0
        · have hh : (if f_X1_isAbove (gH y) v (gK y) = 0 then v else gH y) = gH y := by
            by_cases u3 : f_X1_isAbove (gH y) v (gK y) = 0
            · rw [if_pos u3]; exact above_tie hr.k4 u u3
            · rw [if_neg u3]
          rw [if_pos u, hh]
          by_cases w : f_X1_isAbove (gL y) v (gK y) = 0
          · rw [if_pos w, if_pos w]
            exact ⟨rfl, rfl, val_sim h hj hst hv p3 p4 rfl rfl rfl rfl rfl (fun i e => rfl) hr.W rfl (fun i e => rfl) p1 (fun i e => rfl) p2 rfl rfl rfl rfl⟩
          · rw [if_neg w, if_neg w]
            exact ⟨rfl, rfl, val_sim h hj hst hv p3 hv rfl rfl rfl rfl rfl (fun i e => rfl) hr.W rfl (fun i e => rfl) p1 (fun i e => uL_ne e) uL_eq rfl rfl rfl rfl⟩
        · rw [if_neg u, if_pos (above_total u)]
          by_cases w : f_X1_isAbove (gL y) v (gK y) = 0
          · rw [if_pos w, if_pos w]
            exact ⟨rfl, rfl, val_sim h hj hst hv hv p4 rfl rfl rfl rfl rfl (fun i e => rfl) hr.W rfl (fun i e => uL_ne e) uL_eq (fun i e => rfl) p2 rfl rfl rfl rfl⟩
          · rw [if_neg w, if_neg w]
            exact ⟨rfl, rfl, val_sim h hj hst hv hv hv rfl rfl rfl rfl rfl (fun i e => rfl) hr.W rfl (fun i e => uL_ne e) uL_eq (fun i e => uL_ne e) uL_eq rfl rfl rfl rfl⟩
theorem rd_lp {st : Nat → Option GS} {x : MS} (h : Sim st x) {j : Nat} (hj : j < 12) {y : GS} (hst : st j = some y) (b1 : Int64) : ∀ (k i : Nat) (v : Int64), i ≤ 8 → i + k = 9 → G2 (gK y) v →
    (lp_X2_comes x (nI j) b1 k v i).1 = (lp_X1_takeReading st y k v i).1 ∧ mth (lp_X2_comes x (nI j) b1 k v i).2 = mth x ∧ Sim (va_up st j (some (lp_X1_takeReading st y k v i).2)) (lp_X2_comes x (nI j) b1 k v i).2 := by
  have hr := (h j hj).2 y hst
  intro k
  induction k with
  | zero => intro i v _ _; omega
  | succ k ih =>
    intro i v hi hk hv
    by_cases c : gC y ≤ nI i
    · rw [lp_X1_takeReading, if_pos c]
      exact end_sim h hj hst hv c
    · have hi8 : i < 8 := in_lt (in_cnt hr.c9 (vp_in_nI (show i < 9 by omega) (by decide)) c) (by omega)
      obtain ⟨e1, e2⟩ := rd_step h hj hst hi8 (Int32.not_le.mp c) hv
      rw [lp_X1_takeReading, lp_X2_comes, if_neg c, c31 hj, hr.S, if_neg c, e1]
      exact ih (i + 1) _ (by omega) (by omega) e2
theorem rd_eq {st : Nat → Option GS} {x : MS} (h : Sim st x) {j : Nat} (hj : j < 12) {y : GS} (hst : st j = some y) {v : Int64} (hv : G2 (gK y) v) :
    (F_X2_comes x (nI j) v).1 = (F_X1_takeReading st y v).1 ∧ mth (F_X2_comes x (nI j) v).2 = mth x ∧ Sim (va_up st j (some (F_X1_takeReading st y v).2)) (F_X2_comes x (nI j) v).2 := rd_lp h hj hst v 9 0 v (by omega) rfl hv
theorem sq_read : simq_read Sim := by
  intro st x b0 b1 h
  unfold ob_read F_X2_read
  rcases hg : gat st b0 with _ | y
  · rw [oe_none rfl, if_pos (th_no h hg)]
    exact ⟨rfl, fun z => absurd (show (1 : Int32) = 0 from z) (by decide), sim_th h 1⟩
  · obtain ⟨j, hj, rfl, hst⟩ := gat_some hg
    have hr := (h j hj).2 y hst
    rw [oe_some rfl, if_neg (th_yes h hj hst), c31 hj, hr.K, ← good_eq hr.k4]
    rcases e_good (gK y) b1 with hgd | hnog
    · have g1 : ¬ f_X1_isGood (gK y) b1 = 0 := by
        intro z
        unfold e_X1_needGood at hgd
        rw [if_pos z] at hgd
        exact absurd hgd (by decide)
      rw [if_neg (ne2 hgd), if_neg g1]
      obtain ⟨a, b, c⟩ := rd_eq (sim_th h 0) hj hst (good_G2 g1)
      exact ⟨b, fun _ => a.symm, c⟩
    · have g1 : f_X1_isGood (gK y) b1 = 0 := by
        unfold e_X1_needGood at hnog
        by_cases z : f_X1_isGood (gK y) b1 = 0
        · exact z
        · rw [if_neg z] at hnog
          exact absurd hnog (by decide)
      rw [if_pos hnog, if_pos g1]
      exact ⟨rfl, fun z => absurd (show (2 : Int32) = 0 from z) (by decide), sim_th h 2⟩
theorem sq_hand : simq_hand Sim := by
  intro st x b0 b1 h
  unfold ob_hand F_X2_hand
  rcases hg : gat st b0 with _ | y
  · rw [oe_none rfl, if_pos (th_no h hg)]
    exact ⟨rfl, fun z => absurd (show (1 : Int32) = 0 from z) (by decide), sim_th h 1⟩
  · obtain ⟨j2, hj2, rfl, hst2⟩ := gat_some hg
    have hr2 := (h j2 hj2).2 y hst2
    rw [oe_some rfl, if_neg (th_yes h hj2 hst2)]
    rcases hg2 : gat st b1 with _ | w
    · rw [oe_none rfl, if_pos (th_no h hg2)]
      exact ⟨rfl, fun z => absurd (show (1 : Int32) = 0 from z) (by decide), sim_th h 1⟩
    · obtain ⟨j, hj, rfl, hst⟩ := gat_some hg2
      have hr := (h j hj).2 w hst
      rw [oe_some rfl, if_neg (th_yes h hj hst), c31 hj, c31 hj2, hr.K, hr2.K, hr2.V]
      by_cases hs : nI j2 = nI j
      · rw [if_pos hs, if_pos hs]
        exact ⟨rfl, fun z => absurd (show (2 : Int32) = 0 from z) (by decide), sim_th h 2⟩
      · rw [if_neg hs, if_neg hs]
        unfold f_X1_canHandOn
        by_cases hk : gK y ≤ gK w
        · rw [if_pos hk, if_neg (show ¬ gK w < gK y from fun z => absurd hk (Int32.not_le.mpr z)), if_neg (by decide)]
          obtain ⟨e1, e2⟩ := hand_eq hr2.k4 hr.k4 hk hr2.g2
          rw [e1]
          obtain ⟨a, b, c⟩ := rd_eq (sim_th h 0) hj hst e2
          exact ⟨b, fun _ => a.symm, c⟩
        · rw [if_neg hk, if_pos (Int32.not_le.mp hk), if_pos rfl]
          exact ⟨rfl, fun z => absurd (show (2 : Int32) = 0 from z) (by decide), sim_th h 2⟩
