theorem wz_0 {n : Nat} (hn : n < 2 ^ 63) (how : Int32) (h1 : 1023 ≤ n / 2 ^ 52) (h2 : n / 2 ^ 52 < 1075) (hr : n % 2 ^ (1075 - n / 2 ^ 52) = 0) : f_X2_wholeOf (lN (0 * 2 ^ 63 + n)) how = lN (0 * 2 ^ 63 + n) := by
  unfold f_X2_wholeOf
  rw [if_pos ((lg_cmp_ge _ _).mpr ((r_nn (s := 0) (by decide) hn).mpr rfl)), e_x2 (s := 0) (by decide) hn, r_low (s := 0) (by decide) hn, if_neg (fun z => absurd ((cmp0 (by omega)).mp z) (by omega)), if_pos ((e_lt (by omega)).mpr h2), if_pos ((e_nn (by omega)).mpr h1), u_eq h1 h2,
    show lN (2 ^ (1075 - n / 2 ^ 52)) - (1 : Int64) = lN (2 ^ (1075 - n / 2 ^ 52) - 1) from lN_subI (b := 1) (p_pos _), wb_mask (n := n) (by omega) (by omega), if_pos ((cmp0 (by omega)).mpr hr)]
theorem wq_5_0 {n : Nat} (hn : n < 2 ^ 63) : f_X1_wholeToward (lN (0 * 2 ^ 63 + n)) = f_X2_wholeOf (lN (0 * 2 ^ 63 + n)) 5 := by
  have hs : (0 : Nat) < 2 := by decide
  by_cases h2 : n / 2 ^ 52 < 1075
  · by_cases h1 : 1023 ≤ n / 2 ^ 52
    · by_cases hr : n % 2 ^ (1075 - n / 2 ^ 52) = 0
      · rw [wz_0 hn 5 h1 h2 hr, toward_m hs hn h1 h2, hr, Nat.sub_zero]
      · rw [wm_5_0 hn h1 h2 hr, toward_m hs hn h1 h2]
    · by_cases h0 : n = 0
      · rw [wt_0 hn 5 (Or.inl h0), toward_b hs hn h1, h0]
      · rw [wb_5_0 hn h0 h1, toward_b hs hn h1]
  · rw [wt_0 hn 5 (Or.inr h2), toward_t hs hn (by omega) h2]
theorem wq_6_0 {n : Nat} (hn : n < 2 ^ 63) : f_X1_wholeAway (lN (0 * 2 ^ 63 + n)) = f_X2_wholeOf (lN (0 * 2 ^ 63 + n)) 6 := by
  have hs : (0 : Nat) < 2 := by decide
  by_cases h2 : n / 2 ^ 52 < 1075
  · by_cases h1 : 1023 ≤ n / 2 ^ 52
    · by_cases hr : n % 2 ^ (1075 - n / 2 ^ 52) = 0
      · rw [wz_0 hn 6 h1 h2 hr, away_m hs hn h1 h2, if_pos hr]
      · rw [wm_6_0 hn h1 h2 hr, away_m hs hn h1 h2, if_neg hr]
    · by_cases h0 : n = 0
      · rw [wt_0 hn 6 (Or.inl h0), away_b hs hn h1, if_pos h0]
      · rw [wb_6_0 hn h0 h1, away_b hs hn h1, if_neg h0]
  · rw [wt_0 hn 6 (Or.inr h2), away_t hs hn (by omega) h2]
theorem wq_7_0 {n : Nat} (hn : n < 2 ^ 63) : f_X1_wholeNearest (lN (0 * 2 ^ 63 + n)) = f_X2_wholeOf (lN (0 * 2 ^ 63 + n)) 7 := by
  have hs : (0 : Nat) < 2 := by decide
  unfold f_X1_wholeNearest
  rw [below_eq hs hn, r_low hs hn, sig_of hs hn]
  by_cases h1 : 1023 ≤ n / 2 ^ 52
  · rw [if_pos h1, if_pos (show (0 : Int32) = 0 from rfl)]
    by_cases h2 : n / 2 ^ 52 < 1075
    · have hf : n % 2 ^ 52 < 2 ^ 52 := Nat.mod_lt _ (by decide)
      rw [mask_eq hs hn h1 h2, rounds_eq (by omega) (by omega) (by omega), (sig_eq (by omega) (by omega) rfl h1).1, (sig_eq (by omega) (by omega) rfl h1).2]
      by_cases hr : n % 2 ^ (1075 - n / 2 ^ 52) = 0
      · rw [wz_0 hn 7 h1 h2 hr, toward_m hs hn h1 h2, away_m hs hn h1 h2, if_pos hr, hr, Nat.sub_zero]
        split <;> rfl
      · rw [wm_7_0 hn h1 h2 hr, toward_m hs hn h1 h2, away_m hs hn h1 h2, if_neg hr]
        split
        · rw [if_neg (by decide)]
        · rw [if_pos rfl]
    · rw [wt_0 hn 7 (Or.inr h2), mask_0 hs hn h2, toward_t hs hn h1 h2, away_t hs hn h1 h2]
      split <;> rfl
  · rw [if_neg h1, if_neg (show ¬ (1 : Int32) = 0 by decide), toward_b hs hn h1, away_b hs hn h1]
    have c : lg_cmp (lN n) 4602678819172646912 ≤ 0 ↔ ¬ 4602678819172646912 < n := by
      rw [lg_cmp_le]
      have := lLe (a := n) (b := 4602678819172646912) hn (by decide)
      rw [show lN 4602678819172646912 = (4602678819172646912 : Int64) from rfl] at this
      rw [this]
      omega
    by_cases h0 : n = 0
    · rw [wt_0 hn 7 (Or.inl h0), if_pos h0, if_pos (c.mpr (by omega)), h0]
    · rw [wb_7_0 hn h0 h1, if_neg h0]
      by_cases d : 4602678819172646912 < n
      · rw [if_pos d, if_neg (fun z => (c.mp z) d)]
      · rw [if_neg d, if_pos (c.mpr d)]
theorem wz_1 {n : Nat} (hn : n < 2 ^ 63) (how : Int32) (h1 : 1023 ≤ n / 2 ^ 52) (h2 : n / 2 ^ 52 < 1075) (hr : n % 2 ^ (1075 - n / 2 ^ 52) = 0) : f_X2_wholeOf (lN (1 * 2 ^ 63 + n)) how = lN (1 * 2 ^ 63 + n) := by
  unfold f_X2_wholeOf
  rw [if_neg (fun z => absurd ((r_nn (s := 1) (by decide) hn).mp ((lg_cmp_ge _ _).mp z)) (by decide)), e_x2 (s := 1) (by decide) hn, r_low (s := 1) (by decide) hn, if_neg (fun z => absurd ((cmp0 (by omega)).mp z) (by omega)), if_pos ((e_lt (by omega)).mpr h2), if_pos ((e_nn (by omega)).mpr h1), u_eq h1 h2,
    show lN (2 ^ (1075 - n / 2 ^ 52)) - (1 : Int64) = lN (2 ^ (1075 - n / 2 ^ 52) - 1) from lN_subI (b := 1) (p_pos _), wb_mask (n := n) (by omega) (by omega), if_pos ((cmp0 (by omega)).mpr hr)]
theorem wq_5_1 {n : Nat} (hn : n < 2 ^ 63) : f_X1_wholeAway (lN (1 * 2 ^ 63 + n)) = f_X2_wholeOf (lN (1 * 2 ^ 63 + n)) 5 := by
  have hs : (1 : Nat) < 2 := by decide
  by_cases h2 : n / 2 ^ 52 < 1075
  · by_cases h1 : 1023 ≤ n / 2 ^ 52
    · by_cases hr : n % 2 ^ (1075 - n / 2 ^ 52) = 0
      · rw [wz_1 hn 5 h1 h2 hr, away_m hs hn h1 h2, if_pos hr]
      · rw [wm_5_1 hn h1 h2 hr, away_m hs hn h1 h2, if_neg hr]
    · by_cases h0 : n = 0
      · rw [wt_1 hn 5 (Or.inl h0), away_b hs hn h1, if_pos h0]
      · rw [wb_5_1 hn h0 h1, away_b hs hn h1, if_neg h0]
  · rw [wt_1 hn 5 (Or.inr h2), away_t hs hn (by omega) h2]
theorem wq_6_1 {n : Nat} (hn : n < 2 ^ 63) : f_X1_wholeToward (lN (1 * 2 ^ 63 + n)) = f_X2_wholeOf (lN (1 * 2 ^ 63 + n)) 6 := by
  have hs : (1 : Nat) < 2 := by decide
  by_cases h2 : n / 2 ^ 52 < 1075
  · by_cases h1 : 1023 ≤ n / 2 ^ 52
    · by_cases hr : n % 2 ^ (1075 - n / 2 ^ 52) = 0
      · rw [wz_1 hn 6 h1 h2 hr, toward_m hs hn h1 h2, hr, Nat.sub_zero]
      · rw [wm_6_1 hn h1 h2 hr, toward_m hs hn h1 h2]
    · by_cases h0 : n = 0
      · rw [wt_1 hn 6 (Or.inl h0), toward_b hs hn h1, h0]
      · rw [wb_6_1 hn h0 h1, toward_b hs hn h1]
  · rw [wt_1 hn 6 (Or.inr h2), toward_t hs hn (by omega) h2]
theorem wq_7_1 {n : Nat} (hn : n < 2 ^ 63) : f_X1_wholeNearest (lN (1 * 2 ^ 63 + n)) = f_X2_wholeOf (lN (1 * 2 ^ 63 + n)) 7 := by
  have hs : (1 : Nat) < 2 := by decide
  unfold f_X1_wholeNearest
  rw [below_eq hs hn, r_low hs hn, sig_of hs hn]
  by_cases h1 : 1023 ≤ n / 2 ^ 52
  · rw [if_pos h1, if_pos (show (0 : Int32) = 0 from rfl)]
    by_cases h2 : n / 2 ^ 52 < 1075
    · have hf : n % 2 ^ 52 < 2 ^ 52 := Nat.mod_lt _ (by decide)
      rw [mask_eq hs hn h1 h2, rounds_eq (by omega) (by omega) (by omega), (sig_eq (by omega) (by omega) rfl h1).1, (sig_eq (by omega) (by omega) rfl h1).2]
      by_cases hr : n % 2 ^ (1075 - n / 2 ^ 52) = 0
      · rw [wz_1 hn 7 h1 h2 hr, toward_m hs hn h1 h2, away_m hs hn h1 h2, if_pos hr, hr, Nat.sub_zero]
        split <;> rfl
      · rw [wm_7_1 hn h1 h2 hr, toward_m hs hn h1 h2, away_m hs hn h1 h2, if_neg hr]
        split
        · rw [if_neg (by decide)]
        · rw [if_pos rfl]
    · rw [wt_1 hn 7 (Or.inr h2), mask_0 hs hn h2, toward_t hs hn h1 h2, away_t hs hn h1 h2]
      split <;> rfl
  · rw [if_neg h1, if_neg (show ¬ (1 : Int32) = 0 by decide), toward_b hs hn h1, away_b hs hn h1]
    have c : lg_cmp (lN n) 4602678819172646912 ≤ 0 ↔ ¬ 4602678819172646912 < n := by
      rw [lg_cmp_le]
      have := lLe (a := n) (b := 4602678819172646912) hn (by decide)
      rw [show lN 4602678819172646912 = (4602678819172646912 : Int64) from rfl] at this
      rw [this]
      omega
    by_cases h0 : n = 0
    · rw [wt_1 hn 7 (Or.inl h0), if_pos h0, if_pos (c.mpr (by omega)), h0]
    · rw [wb_7_1 hn h0 h1, if_neg h0]
      by_cases d : 4602678819172646912 < n
      · rw [if_pos d, if_neg (fun z => (c.mp z) d)]
      · rw [if_neg d, if_pos (c.mpr d)]
theorem whole5 (v : Int64) : (if 0 ≤ lg_cmp v 0 then f_X1_wholeToward v else f_X1_wholeAway v) = f_X2_wholeOf v 5 := by
  obtain ⟨s, n, hs, hn, rfl⟩ := i64_rep v
  rcases (show s = 0 ∨ s = 1 by omega) with rfl | rfl
  · rw [if_pos ((lg_cmp_ge _ _).mpr ((r_nn (s := 0) (by decide) hn).mpr rfl)), wq_5_0 hn]
  · rw [if_neg (fun z => absurd ((r_nn (s := 1) (by decide) hn).mp ((lg_cmp_ge _ _).mp z)) (by decide)), wq_5_1 hn]
theorem whole6 (v : Int64) : (if 0 ≤ lg_cmp v 0 then f_X1_wholeAway v else f_X1_wholeToward v) = f_X2_wholeOf v 6 := by
  obtain ⟨s, n, hs, hn, rfl⟩ := i64_rep v
  rcases (show s = 0 ∨ s = 1 by omega) with rfl | rfl
  · rw [if_pos ((lg_cmp_ge _ _).mpr ((r_nn (s := 0) (by decide) hn).mpr rfl)), wq_6_0 hn]
  · rw [if_neg (fun z => absurd ((r_nn (s := 1) (by decide) hn).mp ((lg_cmp_ge _ _).mp z)) (by decide)), wq_6_1 hn]
theorem whole7 (v : Int64) : f_X1_wholeNearest v = f_X2_wholeOf v 7 := by
  obtain ⟨s, n, hs, hn, rfl⟩ := i64_rep v
  rcases (show s = 0 ∨ s = 1 by omega) with rfl | rfl
  · exact wq_7_0 hn
  · exact wq_7_1 hn
theorem aS0 (v o : Int64) (k : Int32) : f_X1_afterStep 0 v o k = f_X1_sizeOf v k := by
  unfold f_X1_afterStep
  rw [if_pos (show (0 : Int32) = 0 from rfl)]
theorem fS0 (v o : Int64) (k : Int32) : fdn 0 v o k = f_X2_sizeOf v k := by
  unfold fdn
  rw [if_pos (show (0 : Int32) = 0 from rfl)]
theorem aS1 (v o : Int64) (k : Int32) : f_X1_afterStep 1 v o k = f_X1_higher v o k := by
  unfold f_X1_afterStep
  rw [if_neg (show ¬ (1 : Int32) = 0 by decide), if_pos (show (1 : Int32) = 1 from rfl)]
theorem fS1 (v o : Int64) (k : Int32) : fdn 1 v o k = (if f_X2_isAbove o v k = 0 then v else o) := by
  unfold fdn
  rw [if_neg (show ¬ (1 : Int32) = 0 by decide), if_pos (show (1 : Int32) = 1 from rfl)]
theorem aS2 (v o : Int64) (k : Int32) : f_X1_afterStep 2 v o k = f_X1_lower v o k := by
  unfold f_X1_afterStep
  rw [if_neg (show ¬ (2 : Int32) = 0 by decide), if_neg (show ¬ (2 : Int32) = 1 by decide), if_pos (show (2 : Int32) = 2 from rfl)]
theorem fS2 (v o : Int64) (k : Int32) : fdn 2 v o k = (if f_X2_isAbove v o k = 0 then v else o) := by
  unfold fdn
  rw [if_neg (show ¬ (2 : Int32) = 0 by decide), if_neg (show ¬ (2 : Int32) = 1 by decide), if_pos (show (2 : Int32) = 2 from rfl)]
theorem aS3 (v o : Int64) (k : Int32) : f_X1_afterStep 3 v o k = f_X1_shown v k := by
  unfold f_X1_afterStep
  rw [if_neg (show ¬ (3 : Int32) = 0 by decide), if_neg (show ¬ (3 : Int32) = 1 by decide), if_neg (show ¬ (3 : Int32) = 2 by decide), if_pos (show (3 : Int32) = 3 from rfl)]
theorem fS3 (v o : Int64) (k : Int32) : fdn 3 v o k = f_X2_shown v k := by
  unfold fdn
  rw [if_neg (show ¬ (3 : Int32) = 0 by decide), if_neg (show ¬ (3 : Int32) = 1 by decide), if_neg (show ¬ (3 : Int32) = 2 by decide), if_pos (show (3 : Int32) = 3 from rfl)]
theorem aS4 (v o : Int64) (k : Int32) : f_X1_afterStep 4 v o k = (if 0 ≤ lg_cmp o 0 then f_X1_withSign (f_X1_sizeOf v k) 0 k else f_X1_withSign (f_X1_sizeOf v k) 1 k) := by
  unfold f_X1_afterStep
  rw [if_neg (show ¬ (4 : Int32) = 0 by decide), if_neg (show ¬ (4 : Int32) = 1 by decide), if_neg (show ¬ (4 : Int32) = 2 by decide), if_neg (show ¬ (4 : Int32) = 3 by decide), if_pos (show (4 : Int32) = 4 from rfl)]
theorem fS4 (v o : Int64) (k : Int32) : fdn 4 v o k = f_X2_like v o k := by
  unfold fdn
  rw [if_neg (show ¬ (4 : Int32) = 0 by decide), if_neg (show ¬ (4 : Int32) = 1 by decide), if_neg (show ¬ (4 : Int32) = 2 by decide), if_neg (show ¬ (4 : Int32) = 3 by decide), if_pos (show (4 : Int32) = 4 from rfl)]
theorem aS5 (v o : Int64) (k : Int32) : f_X1_afterStep 5 v o k = (if 0 ≤ lg_cmp v 0 then f_X1_wholeToward v else f_X1_wholeAway v) := by
  unfold f_X1_afterStep
  rw [if_neg (show ¬ (5 : Int32) = 0 by decide), if_neg (show ¬ (5 : Int32) = 1 by decide), if_neg (show ¬ (5 : Int32) = 2 by decide), if_neg (show ¬ (5 : Int32) = 3 by decide), if_neg (show ¬ (5 : Int32) = 4 by decide), if_pos (show (5 : Int32) = 5 from rfl)]
theorem fS5 (v o : Int64) (k : Int32) : fdn 5 v o k = f_X2_wholeOf v 5 := by
  unfold fdn
  rw [if_neg (show ¬ (5 : Int32) = 0 by decide), if_neg (show ¬ (5 : Int32) = 1 by decide), if_neg (show ¬ (5 : Int32) = 2 by decide), if_neg (show ¬ (5 : Int32) = 3 by decide), if_neg (show ¬ (5 : Int32) = 4 by decide)]
theorem aS6 (v o : Int64) (k : Int32) : f_X1_afterStep 6 v o k = (if 0 ≤ lg_cmp v 0 then f_X1_wholeAway v else f_X1_wholeToward v) := by
  unfold f_X1_afterStep
  rw [if_neg (show ¬ (6 : Int32) = 0 by decide), if_neg (show ¬ (6 : Int32) = 1 by decide), if_neg (show ¬ (6 : Int32) = 2 by decide), if_neg (show ¬ (6 : Int32) = 3 by decide), if_neg (show ¬ (6 : Int32) = 4 by decide), if_neg (show ¬ (6 : Int32) = 5 by decide), if_pos (show (6 : Int32) = 6 from rfl)]
theorem fS6 (v o : Int64) (k : Int32) : fdn 6 v o k = f_X2_wholeOf v 6 := by
  unfold fdn
  rw [if_neg (show ¬ (6 : Int32) = 0 by decide), if_neg (show ¬ (6 : Int32) = 1 by decide), if_neg (show ¬ (6 : Int32) = 2 by decide), if_neg (show ¬ (6 : Int32) = 3 by decide), if_neg (show ¬ (6 : Int32) = 4 by decide)]
theorem aS7 (v o : Int64) (k : Int32) : f_X1_afterStep 7 v o k = f_X1_wholeNearest v := by
  unfold f_X1_afterStep
  rw [if_neg (show ¬ (7 : Int32) = 0 by decide), if_neg (show ¬ (7 : Int32) = 1 by decide), if_neg (show ¬ (7 : Int32) = 2 by decide), if_neg (show ¬ (7 : Int32) = 3 by decide), if_neg (show ¬ (7 : Int32) = 4 by decide), if_neg (show ¬ (7 : Int32) = 5 by decide), if_neg (show ¬ (7 : Int32) = 6 by decide), if_pos (show (7 : Int32) = 7 from rfl)]
theorem fS7 (v o : Int64) (k : Int32) : fdn 7 v o k = f_X2_wholeOf v 7 := by
  unfold fdn
  rw [if_neg (show ¬ (7 : Int32) = 0 by decide), if_neg (show ¬ (7 : Int32) = 1 by decide), if_neg (show ¬ (7 : Int32) = 2 by decide), if_neg (show ¬ (7 : Int32) = 3 by decide), if_neg (show ¬ (7 : Int32) = 4 by decide)]
/-- one step: the class's and the reference's -/
theorem step_eq {k s : Int32} {v o : Int64} (hk : kOK k) (hs : ¬ f_X2_has k s = 0) (hv : G2 k v) (ho : ¬ f_X2_wants s = 0 → G2 k o) : f_X1_afterStep s v o k = fdn s v o k ∧ G2 k (fdn s v o k) := by
  rcases sort_of hk hs with rfl | rfl | rfl | ⟨hk2, rfl | rfl⟩ | ⟨rfl, rfl | rfl | rfl⟩
  · rw [aS0, fS0]
    exact ⟨size_eq hk v, size_G2 hv⟩
  · have h2 := ho (by decide)
    rw [aS1, fS1]
    unfold f_X1_higher
    refine ⟨?_, ?_⟩
    · rw [← above_eq hk h2 hv]
      by_cases h : f_X1_isAbove v o k = 0
      · rw [if_pos h]
        by_cases h3 : f_X1_isAbove o v k = 0
        · rw [if_pos h3]; exact (above_tie hk h h3).symm
        · rw [if_neg h3]
      · rw [if_neg h, if_pos (above_total h)]
    · split
      · exact hv
      · exact h2
  · have h2 := ho (by decide)
    rw [aS2, fS2]
    unfold f_X1_lower
    refine ⟨?_, ?_⟩
    · rw [above_eq hk hv h2]
    · split
      · exact hv
      · exact h2
  · rw [aS3, fS3]; exact ⟨shown_eq hk2 v, shown_G2 hv⟩
  · rw [aS4, fS4]; exact ⟨like_eq hk2 hv, like_G2 hv⟩
  · rw [aS5, fS5]; exact ⟨whole5 v, G2_n (by decide)⟩
  · rw [aS6, fS6]; exact ⟨whole6 v, G2_n (by decide)⟩
  · rw [aS7, fS7]; exact ⟨whole7 v, G2_n (by decide)⟩
