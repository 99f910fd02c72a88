/-! the reference's whole numbers -/
theorem div2 {m : Nat} (h1 : 1 ≤ m) (hm : m ≤ 62) : lN (2 ^ m) / (2 : Int64) = lN (2 ^ (m - 1)) := by
  have hp := wb_lt2 (show m < 63 by omega)
  have hp1 := wb_lt2 (show m - 1 < 63 by omega)
  have h2 := wb_pw (a := 1) (b := m) h1
  apply Int64.toInt_inj.mp
  rw [Int64.toInt_div_of_ne_right _ _ (by decide), pf_lI hp, pf_lI hp1, show (2 : Int64).toInt = 2 by decide]
  rw [Int.tdiv_eq_ediv_of_nonneg (by omega)]
  omega
theorem wt_0 {n : Nat} (hn : n < 2 ^ 63) (how : Int32) (h : n = 0 ∨ ¬ n / 2 ^ 52 < 1075) : f_X2_wholeOf (lN (0 * 2 ^ 63 + n)) how = lN (0 * 2 ^ 63 + n) := by
  unfold f_X2_wholeOf
  rw [if_pos ((lg_cmp_ge _ _).mpr ((r_nn (s := 0) (by decide) hn).mpr rfl)), e_x2 (s := 0) (by decide) hn, r_low (s := 0) (by decide) hn]
  by_cases h0 : n = 0
  · rw [if_pos ((cmp0 (by omega)).mpr h0)]
  · rw [if_neg (fun z => h0 ((cmp0 (by omega)).mp z)), if_neg (fun z => (h.resolve_left h0) ((e_lt (by omega)).mp z))]
theorem wb_5_0 {n : Nat} (hn : n < 2 ^ 63) (h0 : ¬ n = 0) (h1 : ¬ 1023 ≤ n / 2 ^ 52) : f_X2_wholeOf (lN (0 * 2 ^ 63 + n)) 5 = lN (0 * 2 ^ 63 + 0) := by
  unfold f_X2_wholeOf
  rw [if_pos ((lg_cmp_ge _ _).mpr ((r_nn (s := 0) (by decide) hn).mpr rfl)), e_x2 (s := 0) (by decide) hn, r_low (s := 0) (by decide) hn, if_neg (fun z => h0 ((cmp0 (by omega)).mp z)), if_pos ((e_lt (by omega)).mpr (by omega)), if_neg (fun z => h1 ((e_nn (by omega)).mp z)), if_pos rfl]
  all_goals first | rfl | decide
theorem wm_5_0 {n : Nat} (hn : n < 2 ^ 63) (h1 : 1023 ≤ n / 2 ^ 52) (h2 : n / 2 ^ 52 < 1075) (hr : ¬ n % 2 ^ (1075 - n / 2 ^ 52) = 0) : f_X2_wholeOf (lN (0 * 2 ^ 63 + n)) 5 = lN (0 * 2 ^ 63 + (n - n % 2 ^ (1075 - n / 2 ^ 52))) := by
  have hmod : n % 2 ^ (1075 - n / 2 ^ 52) ≤ n := Nat.mod_le _ _
  have hpw : 2 ^ (1075 - n / 2 ^ 52) ≤ 2 ^ 52 := Nat.pow_le_pow_right (by decide) (by omega)
  have hbit : (n - n % 2 ^ (1075 - n / 2 ^ 52)) / 2 ^ (1075 - n / 2 ^ 52) % 2 = n / 2 ^ (1075 - n / 2 ^ 52) % 2 := by
    have e := Nat.div_add_mod n (2 ^ (1075 - n / 2 ^ 52))
    rw [show n - n % 2 ^ (1075 - n / 2 ^ 52) = 2 ^ (1075 - n / 2 ^ 52) * (n / 2 ^ (1075 - n / 2 ^ 52)) by omega, Nat.mul_div_cancel_left _ (Nat.two_pow_pos _)]
  unfold f_X2_wholeOf
  rw [if_pos ((lg_cmp_ge _ _).mpr ((r_nn (s := 0) (by decide) hn).mpr rfl)), e_x2 (s := 0) (by decide) hn, r_low (s := 0) (by decide) hn, if_neg (fun z => absurd ((cmp0 (by omega)).mp z) (by omega)), if_pos ((e_lt (by omega)).mpr h2), if_pos ((e_nn (by omega)).mpr h1), u_eq h1 h2,
    show lN (2 ^ (1075 - n / 2 ^ 52)) - (1 : Int64) = lN (2 ^ (1075 - n / 2 ^ 52) - 1) from lN_subI (b := 1) (p_pos _), wb_mask (n := n) (by omega) (by omega), lN_subI hmod, lN_add, if_neg (fun z => hr ((cmp0 (by omega)).mp z))]
  split
  · rw [if_pos rfl]; rw [r_0or]; exact congrArg lN (by omega)
  · rw [if_pos rfl]; rw [r_0or]; exact congrArg lN (by omega)
theorem wb_6_0 {n : Nat} (hn : n < 2 ^ 63) (h0 : ¬ n = 0) (h1 : ¬ 1023 ≤ n / 2 ^ 52) : f_X2_wholeOf (lN (0 * 2 ^ 63 + n)) 6 = lN (0 * 2 ^ 63 + 1023 * 2 ^ 52) := by
  unfold f_X2_wholeOf
  rw [if_pos ((lg_cmp_ge _ _).mpr ((r_nn (s := 0) (by decide) hn).mpr rfl)), e_x2 (s := 0) (by decide) hn, r_low (s := 0) (by decide) hn, if_neg (fun z => h0 ((cmp0 (by omega)).mp z)), if_pos ((e_lt (by omega)).mpr (by omega)), if_neg (fun z => h1 ((e_nn (by omega)).mp z)), if_neg (show ¬ (6 : Int32) = 5 by decide), if_pos rfl]
  all_goals first | rfl | decide
theorem wm_6_0 {n : Nat} (hn : n < 2 ^ 63) (h1 : 1023 ≤ n / 2 ^ 52) (h2 : n / 2 ^ 52 < 1075) (hr : ¬ n % 2 ^ (1075 - n / 2 ^ 52) = 0) : f_X2_wholeOf (lN (0 * 2 ^ 63 + n)) 6 = lN (0 * 2 ^ 63 + (n - n % 2 ^ (1075 - n / 2 ^ 52) + 2 ^ (1075 - n / 2 ^ 52))) := by
  have hmod : n % 2 ^ (1075 - n / 2 ^ 52) ≤ n := Nat.mod_le _ _
  have hpw : 2 ^ (1075 - n / 2 ^ 52) ≤ 2 ^ 52 := Nat.pow_le_pow_right (by decide) (by omega)
  have hbit : (n - n % 2 ^ (1075 - n / 2 ^ 52)) / 2 ^ (1075 - n / 2 ^ 52) % 2 = n / 2 ^ (1075 - n / 2 ^ 52) % 2 := by
    have e := Nat.div_add_mod n (2 ^ (1075 - n / 2 ^ 52))
    rw [show n - n % 2 ^ (1075 - n / 2 ^ 52) = 2 ^ (1075 - n / 2 ^ 52) * (n / 2 ^ (1075 - n / 2 ^ 52)) by omega, Nat.mul_div_cancel_left _ (Nat.two_pow_pos _)]
  unfold f_X2_wholeOf
  rw [if_pos ((lg_cmp_ge _ _).mpr ((r_nn (s := 0) (by decide) hn).mpr rfl)), e_x2 (s := 0) (by decide) hn, r_low (s := 0) (by decide) hn, if_neg (fun z => absurd ((cmp0 (by omega)).mp z) (by omega)), if_pos ((e_lt (by omega)).mpr h2), if_pos ((e_nn (by omega)).mpr h1), u_eq h1 h2,
    show lN (2 ^ (1075 - n / 2 ^ 52)) - (1 : Int64) = lN (2 ^ (1075 - n / 2 ^ 52) - 1) from lN_subI (b := 1) (p_pos _), wb_mask (n := n) (by omega) (by omega), lN_subI hmod, lN_add, if_neg (fun z => hr ((cmp0 (by omega)).mp z))]
  split
  · rw [if_neg (show ¬ (6 : Int32) = 5 by decide), if_pos rfl]; rw [r_0or]; exact congrArg lN (by omega)
  · rw [if_neg (show ¬ (6 : Int32) = 5 by decide), if_pos rfl]; rw [r_0or]; exact congrArg lN (by omega)
theorem wb_7_0 {n : Nat} (hn : n < 2 ^ 63) (h0 : ¬ n = 0) (h1 : ¬ 1023 ≤ n / 2 ^ 52) : f_X2_wholeOf (lN (0 * 2 ^ 63 + n)) 7 = if 4602678819172646912 < n then lN (0 * 2 ^ 63 + 1023 * 2 ^ 52) else lN (0 * 2 ^ 63 + 0) := by
  unfold f_X2_wholeOf
  rw [if_pos ((lg_cmp_ge _ _).mpr ((r_nn (s := 0) (by decide) hn).mpr rfl)), e_x2 (s := 0) (by decide) hn, r_low (s := 0) (by decide) hn, if_neg (fun z => h0 ((cmp0 (by omega)).mp z)), if_pos ((e_lt (by omega)).mpr (by omega)), if_neg (fun z => h1 ((e_nn (by omega)).mp z)), if_neg (show ¬ (7 : Int32) = 5 by decide), if_neg (show ¬ (7 : Int32) = 6 by decide)]
  have c : lg_cmp (lN n) 4602678819172646912 ≤ 0 ↔ ¬ 4602678819172646912 < n := by
    rw [lg_cmp_le]
    have := lLe (a := n) (b := 4602678819172646912) hn (by decide)
    rw [show lN 4602678819172646912 = (4602678819172646912 : Int64) from rfl] at this
    rw [this]
    omega
  by_cases d : 4602678819172646912 < n
  · rw [if_pos d, if_neg (fun z => (c.mp z) d)]
    decide
  · rw [if_neg d, if_pos (c.mpr d)]
    decide
theorem wm_7_0 {n : Nat} (hn : n < 2 ^ 63) (h1 : 1023 ≤ n / 2 ^ 52) (h2 : n / 2 ^ 52 < 1075) (hr : ¬ n % 2 ^ (1075 - n / 2 ^ 52) = 0) : f_X2_wholeOf (lN (0 * 2 ^ 63 + n)) 7 = if 2 ^ (1075 - n / 2 ^ 52 - 1) < n % 2 ^ (1075 - n / 2 ^ 52) ∨ (n % 2 ^ (1075 - n / 2 ^ 52) = 2 ^ (1075 - n / 2 ^ 52 - 1) ∧ n / 2 ^ (1075 - n / 2 ^ 52) % 2 = 1) then lN (0 * 2 ^ 63 + (n - n % 2 ^ (1075 - n / 2 ^ 52) + 2 ^ (1075 - n / 2 ^ 52))) else lN (0 * 2 ^ 63 + (n - n % 2 ^ (1075 - n / 2 ^ 52))) := by
  have hmod : n % 2 ^ (1075 - n / 2 ^ 52) ≤ n := Nat.mod_le _ _
  have hpw : 2 ^ (1075 - n / 2 ^ 52) ≤ 2 ^ 52 := Nat.pow_le_pow_right (by decide) (by omega)
  have hbit : (n - n % 2 ^ (1075 - n / 2 ^ 52)) / 2 ^ (1075 - n / 2 ^ 52) % 2 = n / 2 ^ (1075 - n / 2 ^ 52) % 2 := by
    have e := Nat.div_add_mod n (2 ^ (1075 - n / 2 ^ 52))
    rw [show n - n % 2 ^ (1075 - n / 2 ^ 52) = 2 ^ (1075 - n / 2 ^ 52) * (n / 2 ^ (1075 - n / 2 ^ 52)) by omega, Nat.mul_div_cancel_left _ (Nat.two_pow_pos _)]
  unfold f_X2_wholeOf
  rw [if_pos ((lg_cmp_ge _ _).mpr ((r_nn (s := 0) (by decide) hn).mpr rfl)), e_x2 (s := 0) (by decide) hn, r_low (s := 0) (by decide) hn, if_neg (fun z => absurd ((cmp0 (by omega)).mp z) (by omega)), if_pos ((e_lt (by omega)).mpr h2), if_pos ((e_nn (by omega)).mpr h1), u_eq h1 h2,
    show lN (2 ^ (1075 - n / 2 ^ 52)) - (1 : Int64) = lN (2 ^ (1075 - n / 2 ^ 52) - 1) from lN_subI (b := 1) (p_pos _), wb_mask (n := n) (by omega) (by omega), lN_subI hmod, lN_add, if_neg (fun z => hr ((cmp0 (by omega)).mp z))]
  rw [div2 (by omega) (by omega)]
  have hp1 : 2 ^ (1075 - n / 2 ^ 52 - 1) ≤ 2 ^ 52 := Nat.pow_le_pow_right (by decide) (by omega)
  have hrr : n % 2 ^ (1075 - n / 2 ^ 52) < 2 ^ (1075 - n / 2 ^ 52) := Nat.mod_lt _ (Nat.two_pow_pos _)
  have c1 : lg_cmp (lN (n - n % 2 ^ (1075 - n / 2 ^ 52)) &&& lN (2 ^ (1075 - n / 2 ^ 52))) 0 = 0 ↔ n / 2 ^ (1075 - n / 2 ^ 52) % 2 = 0 := by
    rw [← hbit]
    exact (lg_cmp_eq _ _).trans (r_bit (by omega) (by omega))
  have c2 : 0 < lg_cmp (lN (n % 2 ^ (1075 - n / 2 ^ 52))) (lN (2 ^ (1075 - n / 2 ^ 52 - 1))) ↔ 2 ^ (1075 - n / 2 ^ 52 - 1) < n % 2 ^ (1075 - n / 2 ^ 52) := (lg_cmp_gt _ _).trans (lLt (by omega) (by omega))
  have c3 : lg_cmp (lN (n % 2 ^ (1075 - n / 2 ^ 52))) (lN (2 ^ (1075 - n / 2 ^ 52 - 1))) = 0 ↔ n % 2 ^ (1075 - n / 2 ^ 52) = 2 ^ (1075 - n / 2 ^ 52 - 1) := (lg_cmp_eq _ _).trans (lE (by omega) (by omega))
  by_cases d1 : n / 2 ^ (1075 - n / 2 ^ 52) % 2 = 0
  · rw [if_pos (c1.mpr d1), if_neg (show ¬ (7 : Int32) = 5 by decide), if_neg (show ¬ (7 : Int32) = 6 by decide)]
    by_cases d2 : 2 ^ (1075 - n / 2 ^ 52 - 1) < n % 2 ^ (1075 - n / 2 ^ 52)
    · rw [if_pos (c2.mpr d2), if_pos (Or.inl d2)]; rw [r_0or]; exact congrArg lN (by omega)
    · rw [if_neg (fun z => d2 (c2.mp z)), if_neg (show ¬ (2 ^ (1075 - n / 2 ^ 52 - 1) < n % 2 ^ (1075 - n / 2 ^ 52) ∨ (n % 2 ^ (1075 - n / 2 ^ 52) = 2 ^ (1075 - n / 2 ^ 52 - 1) ∧ n / 2 ^ (1075 - n / 2 ^ 52) % 2 = 1)) by omega)]
      split
      · rw [r_0or]; exact congrArg lN (by omega)
      · rw [r_0or]; exact congrArg lN (by omega)
  · rw [if_neg (fun z => d1 (c1.mp z)), if_neg (show ¬ (7 : Int32) = 5 by decide), if_neg (show ¬ (7 : Int32) = 6 by decide)]
    by_cases d2 : 2 ^ (1075 - n / 2 ^ 52 - 1) < n % 2 ^ (1075 - n / 2 ^ 52)
    · rw [if_pos (c2.mpr d2), if_pos (Or.inl d2)]; rw [r_0or]; exact congrArg lN (by omega)
    · rw [if_neg (fun z => d2 (c2.mp z))]
      by_cases d3 : n % 2 ^ (1075 - n / 2 ^ 52) = 2 ^ (1075 - n / 2 ^ 52 - 1)
      · rw [if_pos (c3.mpr d3), if_pos (Or.inr ⟨d3, by omega⟩)]; rw [r_0or]; exact congrArg lN (by omega)
      · rw [if_neg (fun z => d3 (c3.mp z)), if_neg (show ¬ (2 ^ (1075 - n / 2 ^ 52 - 1) < n % 2 ^ (1075 - n / 2 ^ 52) ∨ (n % 2 ^ (1075 - n / 2 ^ 52) = 2 ^ (1075 - n / 2 ^ 52 - 1) ∧ n / 2 ^ (1075 - n / 2 ^ 52) % 2 = 1)) by omega)]; rw [r_0or]; exact congrArg lN (by omega)
theorem wt_1 {n : Nat} (hn : n < 2 ^ 63) (how : Int32) (h : n = 0 ∨ ¬ n / 2 ^ 52 < 1075) : f_X2_wholeOf (lN (1 * 2 ^ 63 + n)) how = lN (1 * 2 ^ 63 + n) := by
  unfold f_X2_wholeOf
  rw [if_neg (fun z => absurd ((r_nn (s := 1) (by decide) hn).mp ((lg_cmp_ge _ _).mp z)) (by decide)), e_x2 (s := 1) (by decide) hn, r_low (s := 1) (by decide) hn]
  by_cases h0 : n = 0
  · rw [if_pos ((cmp0 (by omega)).mpr h0)]
  · rw [if_neg (fun z => h0 ((cmp0 (by omega)).mp z)), if_neg (fun z => (h.resolve_left h0) ((e_lt (by omega)).mp z))]
theorem wb_5_1 {n : Nat} (hn : n < 2 ^ 63) (h0 : ¬ n = 0) (h1 : ¬ 1023 ≤ n / 2 ^ 52) : f_X2_wholeOf (lN (1 * 2 ^ 63 + n)) 5 = lN (1 * 2 ^ 63 + 1023 * 2 ^ 52) := by
  unfold f_X2_wholeOf
  rw [if_neg (fun z => absurd ((r_nn (s := 1) (by decide) hn).mp ((lg_cmp_ge _ _).mp z)) (by decide)), e_x2 (s := 1) (by decide) hn, r_low (s := 1) (by decide) hn, if_neg (fun z => h0 ((cmp0 (by omega)).mp z)), if_pos ((e_lt (by omega)).mpr (by omega)), if_neg (fun z => h1 ((e_nn (by omega)).mp z)), if_pos rfl]
  all_goals first | rfl | decide
theorem wm_5_1 {n : Nat} (hn : n < 2 ^ 63) (h1 : 1023 ≤ n / 2 ^ 52) (h2 : n / 2 ^ 52 < 1075) (hr : ¬ n % 2 ^ (1075 - n / 2 ^ 52) = 0) : f_X2_wholeOf (lN (1 * 2 ^ 63 + n)) 5 = lN (1 * 2 ^ 63 + (n - n % 2 ^ (1075 - n / 2 ^ 52) + 2 ^ (1075 - n / 2 ^ 52))) := by
  have hmod : n % 2 ^ (1075 - n / 2 ^ 52) ≤ n := Nat.mod_le _ _
  have hpw : 2 ^ (1075 - n / 2 ^ 52) ≤ 2 ^ 52 := Nat.pow_le_pow_right (by decide) (by omega)
  have hbit : (n - n % 2 ^ (1075 - n / 2 ^ 52)) / 2 ^ (1075 - n / 2 ^ 52) % 2 = n / 2 ^ (1075 - n / 2 ^ 52) % 2 := by
    have e := Nat.div_add_mod n (2 ^ (1075 - n / 2 ^ 52))
    rw [show n - n % 2 ^ (1075 - n / 2 ^ 52) = 2 ^ (1075 - n / 2 ^ 52) * (n / 2 ^ (1075 - n / 2 ^ 52)) by omega, Nat.mul_div_cancel_left _ (Nat.two_pow_pos _)]
  unfold f_X2_wholeOf
  rw [if_neg (fun z => absurd ((r_nn (s := 1) (by decide) hn).mp ((lg_cmp_ge _ _).mp z)) (by decide)), e_x2 (s := 1) (by decide) hn, r_low (s := 1) (by decide) hn, if_neg (fun z => absurd ((cmp0 (by omega)).mp z) (by omega)), if_pos ((e_lt (by omega)).mpr h2), if_pos ((e_nn (by omega)).mpr h1), u_eq h1 h2,
    show lN (2 ^ (1075 - n / 2 ^ 52)) - (1 : Int64) = lN (2 ^ (1075 - n / 2 ^ 52) - 1) from lN_subI (b := 1) (p_pos _), wb_mask (n := n) (by omega) (by omega), lN_subI hmod, lN_add, if_neg (fun z => hr ((cmp0 (by omega)).mp z))]
  split
  · rw [if_pos rfl]; rw [r_or' (by omega)]
  · rw [if_pos rfl]; rw [r_or' (by omega)]
theorem wb_6_1 {n : Nat} (hn : n < 2 ^ 63) (h0 : ¬ n = 0) (h1 : ¬ 1023 ≤ n / 2 ^ 52) : f_X2_wholeOf (lN (1 * 2 ^ 63 + n)) 6 = lN (1 * 2 ^ 63 + 0) := by
  unfold f_X2_wholeOf
  rw [if_neg (fun z => absurd ((r_nn (s := 1) (by decide) hn).mp ((lg_cmp_ge _ _).mp z)) (by decide)), e_x2 (s := 1) (by decide) hn, r_low (s := 1) (by decide) hn, if_neg (fun z => h0 ((cmp0 (by omega)).mp z)), if_pos ((e_lt (by omega)).mpr (by omega)), if_neg (fun z => h1 ((e_nn (by omega)).mp z)), if_neg (show ¬ (6 : Int32) = 5 by decide), if_pos rfl]
  all_goals first | rfl | decide
theorem wm_6_1 {n : Nat} (hn : n < 2 ^ 63) (h1 : 1023 ≤ n / 2 ^ 52) (h2 : n / 2 ^ 52 < 1075) (hr : ¬ n % 2 ^ (1075 - n / 2 ^ 52) = 0) : f_X2_wholeOf (lN (1 * 2 ^ 63 + n)) 6 = lN (1 * 2 ^ 63 + (n - n % 2 ^ (1075 - n / 2 ^ 52))) := by
  have hmod : n % 2 ^ (1075 - n / 2 ^ 52) ≤ n := Nat.mod_le _ _
  have hpw : 2 ^ (1075 - n / 2 ^ 52) ≤ 2 ^ 52 := Nat.pow_le_pow_right (by decide) (by omega)
  have hbit : (n - n % 2 ^ (1075 - n / 2 ^ 52)) / 2 ^ (1075 - n / 2 ^ 52) % 2 = n / 2 ^ (1075 - n / 2 ^ 52) % 2 := by
    have e := Nat.div_add_mod n (2 ^ (1075 - n / 2 ^ 52))
    rw [show n - n % 2 ^ (1075 - n / 2 ^ 52) = 2 ^ (1075 - n / 2 ^ 52) * (n / 2 ^ (1075 - n / 2 ^ 52)) by omega, Nat.mul_div_cancel_left _ (Nat.two_pow_pos _)]
  unfold f_X2_wholeOf
  rw [if_neg (fun z => absurd ((r_nn (s := 1) (by decide) hn).mp ((lg_cmp_ge _ _).mp z)) (by decide)), e_x2 (s := 1) (by decide) hn, r_low (s := 1) (by decide) hn, if_neg (fun z => absurd ((cmp0 (by omega)).mp z) (by omega)), if_pos ((e_lt (by omega)).mpr h2), if_pos ((e_nn (by omega)).mpr h1), u_eq h1 h2,
    show lN (2 ^ (1075 - n / 2 ^ 52)) - (1 : Int64) = lN (2 ^ (1075 - n / 2 ^ 52) - 1) from lN_subI (b := 1) (p_pos _), wb_mask (n := n) (by omega) (by omega), lN_subI hmod, lN_add, if_neg (fun z => hr ((cmp0 (by omega)).mp z))]
  split
  · rw [if_neg (show ¬ (6 : Int32) = 5 by decide), if_pos rfl]; rw [r_or' (by omega)]
  · rw [if_neg (show ¬ (6 : Int32) = 5 by decide), if_pos rfl]; rw [r_or' (by omega)]
theorem wb_7_1 {n : Nat} (hn : n < 2 ^ 63) (h0 : ¬ n = 0) (h1 : ¬ 1023 ≤ n / 2 ^ 52) : f_X2_wholeOf (lN (1 * 2 ^ 63 + n)) 7 = if 4602678819172646912 < n then lN (1 * 2 ^ 63 + 1023 * 2 ^ 52) else lN (1 * 2 ^ 63 + 0) := by
  unfold f_X2_wholeOf
  rw [if_neg (fun z => absurd ((r_nn (s := 1) (by decide) hn).mp ((lg_cmp_ge _ _).mp z)) (by decide)), e_x2 (s := 1) (by decide) hn, r_low (s := 1) (by decide) hn, if_neg (fun z => h0 ((cmp0 (by omega)).mp z)), if_pos ((e_lt (by omega)).mpr (by omega)), if_neg (fun z => h1 ((e_nn (by omega)).mp z)), if_neg (show ¬ (7 : Int32) = 5 by decide), if_neg (show ¬ (7 : Int32) = 6 by decide)]
  have c : lg_cmp (lN n) 4602678819172646912 ≤ 0 ↔ ¬ 4602678819172646912 < n := by
    rw [lg_cmp_le]
    have := lLe (a := n) (b := 4602678819172646912) hn (by decide)
    rw [show lN 4602678819172646912 = (4602678819172646912 : Int64) from rfl] at this
    rw [this]
    omega
  by_cases d : 4602678819172646912 < n
  · rw [if_pos d, if_neg (fun z => (c.mp z) d)]
    decide
  · rw [if_neg d, if_pos (c.mpr d)]
    decide
theorem wm_7_1 {n : Nat} (hn : n < 2 ^ 63) (h1 : 1023 ≤ n / 2 ^ 52) (h2 : n / 2 ^ 52 < 1075) (hr : ¬ n % 2 ^ (1075 - n / 2 ^ 52) = 0) : f_X2_wholeOf (lN (1 * 2 ^ 63 + n)) 7 = if 2 ^ (1075 - n / 2 ^ 52 - 1) < n % 2 ^ (1075 - n / 2 ^ 52) ∨ (n % 2 ^ (1075 - n / 2 ^ 52) = 2 ^ (1075 - n / 2 ^ 52 - 1) ∧ n / 2 ^ (1075 - n / 2 ^ 52) % 2 = 1) then lN (1 * 2 ^ 63 + (n - n % 2 ^ (1075 - n / 2 ^ 52) + 2 ^ (1075 - n / 2 ^ 52))) else lN (1 * 2 ^ 63 + (n - n % 2 ^ (1075 - n / 2 ^ 52))) := by
  have hmod : n % 2 ^ (1075 - n / 2 ^ 52) ≤ n := Nat.mod_le _ _
  have hpw : 2 ^ (1075 - n / 2 ^ 52) ≤ 2 ^ 52 := Nat.pow_le_pow_right (by decide) (by omega)
  have hbit : (n - n % 2 ^ (1075 - n / 2 ^ 52)) / 2 ^ (1075 - n / 2 ^ 52) % 2 = n / 2 ^ (1075 - n / 2 ^ 52) % 2 := by
    have e := Nat.div_add_mod n (2 ^ (1075 - n / 2 ^ 52))
    rw [show n - n % 2 ^ (1075 - n / 2 ^ 52) = 2 ^ (1075 - n / 2 ^ 52) * (n / 2 ^ (1075 - n / 2 ^ 52)) by omega, Nat.mul_div_cancel_left _ (Nat.two_pow_pos _)]
  unfold f_X2_wholeOf
  rw [if_neg (fun z => absurd ((r_nn (s := 1) (by decide) hn).mp ((lg_cmp_ge _ _).mp z)) (by decide)), e_x2 (s := 1) (by decide) hn, r_low (s := 1) (by decide) hn, if_neg (fun z => absurd ((cmp0 (by omega)).mp z) (by omega)), if_pos ((e_lt (by omega)).mpr h2), if_pos ((e_nn (by omega)).mpr h1), u_eq h1 h2,
    show lN (2 ^ (1075 - n / 2 ^ 52)) - (1 : Int64) = lN (2 ^ (1075 - n / 2 ^ 52) - 1) from lN_subI (b := 1) (p_pos _), wb_mask (n := n) (by omega) (by omega), lN_subI hmod, lN_add, if_neg (fun z => hr ((cmp0 (by omega)).mp z))]
  rw [div2 (by omega) (by omega)]
  have hp1 : 2 ^ (1075 - n / 2 ^ 52 - 1) ≤ 2 ^ 52 := Nat.pow_le_pow_right (by decide) (by omega)
  have hrr : n % 2 ^ (1075 - n / 2 ^ 52) < 2 ^ (1075 - n / 2 ^ 52) := Nat.mod_lt _ (Nat.two_pow_pos _)
  have c1 : lg_cmp (lN (n - n % 2 ^ (1075 - n / 2 ^ 52)) &&& lN (2 ^ (1075 - n / 2 ^ 52))) 0 = 0 ↔ n / 2 ^ (1075 - n / 2 ^ 52) % 2 = 0 := by
    rw [← hbit]
    exact (lg_cmp_eq _ _).trans (r_bit (by omega) (by omega))
  have c2 : 0 < lg_cmp (lN (n % 2 ^ (1075 - n / 2 ^ 52))) (lN (2 ^ (1075 - n / 2 ^ 52 - 1))) ↔ 2 ^ (1075 - n / 2 ^ 52 - 1) < n % 2 ^ (1075 - n / 2 ^ 52) := (lg_cmp_gt _ _).trans (lLt (by omega) (by omega))
  have c3 : lg_cmp (lN (n % 2 ^ (1075 - n / 2 ^ 52))) (lN (2 ^ (1075 - n / 2 ^ 52 - 1))) = 0 ↔ n % 2 ^ (1075 - n / 2 ^ 52) = 2 ^ (1075 - n / 2 ^ 52 - 1) := (lg_cmp_eq _ _).trans (lE (by omega) (by omega))
  by_cases d1 : n / 2 ^ (1075 - n / 2 ^ 52) % 2 = 0
  · rw [if_pos (c1.mpr d1), if_neg (show ¬ (7 : Int32) = 5 by decide), if_neg (show ¬ (7 : Int32) = 6 by decide)]
    by_cases d2 : 2 ^ (1075 - n / 2 ^ 52 - 1) < n % 2 ^ (1075 - n / 2 ^ 52)
    · rw [if_pos (c2.mpr d2), if_pos (Or.inl d2)]; rw [r_or' (by omega)]
    · rw [if_neg (fun z => d2 (c2.mp z)), if_neg (show ¬ (2 ^ (1075 - n / 2 ^ 52 - 1) < n % 2 ^ (1075 - n / 2 ^ 52) ∨ (n % 2 ^ (1075 - n / 2 ^ 52) = 2 ^ (1075 - n / 2 ^ 52 - 1) ∧ n / 2 ^ (1075 - n / 2 ^ 52) % 2 = 1)) by omega)]
      split
      · rw [r_or' (by omega)]
      · rw [r_or' (by omega)]
  · rw [if_neg (fun z => d1 (c1.mp z)), if_neg (show ¬ (7 : Int32) = 5 by decide), if_neg (show ¬ (7 : Int32) = 6 by decide)]
    by_cases d2 : 2 ^ (1075 - n / 2 ^ 52 - 1) < n % 2 ^ (1075 - n / 2 ^ 52)
    · rw [if_pos (c2.mpr d2), if_pos (Or.inl d2)]; rw [r_or' (by omega)]
    · rw [if_neg (fun z => d2 (c2.mp z))]
      by_cases d3 : n % 2 ^ (1075 - n / 2 ^ 52) = 2 ^ (1075 - n / 2 ^ 52 - 1)
      · rw [if_pos (c3.mpr d3), if_pos (Or.inr ⟨d3, by omega⟩)]; rw [r_or' (by omega)]
      · rw [if_neg (fun z => d3 (c3.mp z)), if_neg (show ¬ (2 ^ (1075 - n / 2 ^ 52 - 1) < n % 2 ^ (1075 - n / 2 ^ 52) ∨ (n % 2 ^ (1075 - n / 2 ^ 52) = 2 ^ (1075 - n / 2 ^ 52 - 1) ∧ n / 2 ^ (1075 - n / 2 ^ 52) % 2 = 1)) by omega)]; rw [r_or' (by omega)]
