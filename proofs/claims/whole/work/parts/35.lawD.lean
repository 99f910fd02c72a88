theorem c_L_fit (l : Launch) (hst : l.stackTraces = false) (z : Nat) (H0 : Heap) (hz : z ≤ H0.size) (D : va_G) (cI cJ cZ cG : ClassId) (b P : Nat) (ad : Nat → ga) (st : Nat → Option GS) (o : Nat) (f : Nat → Int64) (b0 : Int32) (b1 : Int32) (hI : BI st) (hPO : va_P D vwCl (OW cI cJ cG o b P ad st f) H0) (hDO : va_D (fun _ => True) (OW cI cJ cG o b P ad st f)) : LC l yL_fit wsL_fit [Value.ref b, Value.int b0, Value.int b1, Value.ref o] D cI cJ cZ cG z o b P ad st f H0 (ob_fit st b0 b1) := by
  by_cases hp : f_X1_isPlace b0 = 0
  · unfold ob_fit
    rw [if_pos hp]
    exact l_fit_N l hst z H0 hz D cI cJ cZ cG b P ad st o f b0 b1 hp hPO hDO
  · obtain ⟨j, hj, rfl⟩ := vp_in_of (place_in hp) (by decide)
    rcases e_kind b1 with hok | hno
    · rcases hs : st j with _ | x
      · unfold ob_fit
        rw [if_neg hp, if_neg (ne2 hok), nI_clamp (show j < 2 ^ 31 by omega), oe_none hs]
        exact l_fit_W l hst z H0 hz D cI cJ cZ cG b P ad st o f j b1 hj hs hok hPO hDO
      · by_cases hor : gK x = b1 ∨ f_X1_stepsTaking st (nI j) ≤ f_X0_ownStepsTaking x (nI j)
        · unfold ob_fit
          rw [if_neg hp, if_neg (ne2 hok), nI_clamp (show j < 2 ^ 31 by omega), oe_some hs, if_pos hor]
          exact l_fit_O l hst z H0 hz D cI cJ cZ cG b P ad st o f j x b1 hI hj hs hok hor hPO hDO
        · unfold ob_fit
          rw [if_neg hp, if_neg (ne2 hok), nI_clamp (show j < 2 ^ 31 by omega), oe_some hs, if_neg hor]
          exact l_fit_S l hst z H0 hz D cI cJ cZ cG b P ad st o f j x b1 hI hj hs hok (not_or.mp hor).1 (not_or.mp hor).2 hPO hDO
    · unfold ob_fit
      rw [if_neg hp, if_pos hno]
      exact l_fit_A l hst z H0 hz D cI cJ cZ cG b P ad st o f (nI j) b1 hp hno hPO hDO
theorem c_L_step (l : Launch) (hst : l.stackTraces = false) (z : Nat) (H0 : Heap) (hz : z ≤ H0.size) (D : va_G) (cI cJ cZ cG : ClassId) (b P : Nat) (ad : Nat → ga) (st : Nat → Option GS) (o : Nat) (f : Nat → Int64) (b0 : Int32) (b1 : Int32) (hI : BI st) (hPO : va_P D vwCl (OW cI cJ cG o b P ad st f) H0) (hDO : va_D (fun _ => True) (OW cI cJ cG o b P ad st f)) : LC l yL_step wsL_step [Value.ref b, Value.int b0, Value.int b1, Value.ref o] D cI cJ cZ cG z o b P ad st f H0 (ob_step st b0 b1) := by
  rcases hgx : gat st b0 with _ | x
  · unfold ob_step
    rw [oe_none hgx]
    exact l_step_N l hst z H0 hz D cI cJ cZ cG b P ad st o f b0 b1 hgx hPO hDO
  · obtain ⟨j, hj, rfl, hst1⟩ := gat_some hgx
    rcases e_sort (gK x) b1 0 with hok | hno
    · by_cases hlt : gC x < (8 : Int32)
      · unfold ob_step
        rw [oe_some hgx, if_neg (ne2 hok), if_pos hlt, nI_clamp (show j < 2 ^ 31 by omega)]
        exact l_step_O l hst z H0 hz D cI cJ cZ cG b P ad st o f j x b1 hI hj hst1 hok hlt hPO hDO
      · unfold ob_step
        rw [oe_some hgx, if_neg (ne2 hok), if_neg hlt]
        exact l_step_S l hst z H0 hz D cI cJ cZ cG b P ad st o f j x b1 hj hst1 hok hlt hPO hDO
    · unfold ob_step
      rw [oe_some hgx, if_pos hno]
      exact l_step_A l hst z H0 hz D cI cJ cZ cG b P ad st o f j x b1 hj hst1 hno hPO hDO
theorem c_L_stepBy (l : Launch) (hst : l.stackTraces = false) (z : Nat) (H0 : Heap) (hz : z ≤ H0.size) (D : va_G) (cI cJ cZ cG : ClassId) (b P : Nat) (ad : Nat → ga) (st : Nat → Option GS) (o : Nat) (f : Nat → Int64) (b0 : Int32) (b1 : Int32) (b2 : Int64) (hI : BI st) (hPO : va_P D vwCl (OW cI cJ cG o b P ad st f) H0) (hDO : va_D (fun _ => True) (OW cI cJ cG o b P ad st f)) : LC l yL_stepBy wsL_stepBy [Value.ref b, Value.int b0, Value.int b1, Value.long b2, Value.ref o] D cI cJ cZ cG z o b P ad st f H0 (ob_stepBy st b0 b1 b2) := by
  rcases hgx : gat st b0 with _ | x
  · unfold ob_stepBy
    rw [oe_none hgx]
    exact l_stepBy_N l hst z H0 hz D cI cJ cZ cG b P ad st o f b0 b1 b2 hgx hPO hDO
  · obtain ⟨j, hj, rfl, hst1⟩ := gat_some hgx
    rcases e_sort (gK x) b1 1 with hok | hno
    · rcases e_good (gK x) b2 with hgd | hnog
      · by_cases hlt : gC x < (8 : Int32)
        · unfold ob_stepBy
          rw [oe_some hgx, if_neg (ne2 hok), if_neg (ne2 hgd), if_pos hlt, nI_clamp (show j < 2 ^ 31 by omega)]
          exact l_stepBy_O l hst z H0 hz D cI cJ cZ cG b P ad st o f j x b1 b2 hI hj hst1 hok hgd hlt hPO hDO
        · unfold ob_stepBy
          rw [oe_some hgx, if_neg (ne2 hok), if_neg (ne2 hgd), if_neg hlt]
          exact l_stepBy_S l hst z H0 hz D cI cJ cZ cG b P ad st o f j x b1 b2 hj hst1 hok hgd hlt hPO hDO
      · unfold ob_stepBy
        rw [oe_some hgx, if_neg (ne2 hok), if_pos hnog]
        exact l_stepBy_B l hst z H0 hz D cI cJ cZ cG b P ad st o f j x b1 b2 hj hst1 hok hnog hPO hDO
    · unfold ob_stepBy
      rw [oe_some hgx, if_pos hno]
      exact l_stepBy_A l hst z H0 hz D cI cJ cZ cG b P ad st o f j x b1 b2 hj hst1 hno hPO hDO
theorem c_L_stepOf (l : Launch) (hst : l.stackTraces = false) (z : Nat) (H0 : Heap) (hz : z ≤ H0.size) (D : va_G) (cI cJ cZ cG : ClassId) (b P : Nat) (ad : Nat → ga) (st : Nat → Option GS) (o : Nat) (f : Nat → Int64) (b0 : Int32) (b1 : Int32) (b2 : Int32) (hI : BI st) (hPO : va_P D vwCl (OW cI cJ cG o b P ad st f) H0) (hDO : va_D (fun _ => True) (OW cI cJ cG o b P ad st f)) : LC l yL_stepOf wsL_stepOf [Value.ref b, Value.int b0, Value.int b1, Value.int b2, Value.ref o] D cI cJ cZ cG z o b P ad st f H0 (ob_stepOf st b0 b1 b2) := by
  rcases hgx : gat st b0 with _ | x
  · unfold ob_stepOf
    rw [oe_none hgx]
    exact l_stepOf_N l hst z H0 hz D cI cJ cZ cG b P ad st o f b0 b1 b2 hgx hPO hDO
  · obtain ⟨j, hj, rfl, hst1⟩ := gat_some hgx
    rcases hgy : gat st b2 with _ | y
    · unfold ob_stepOf
      rw [oe_some hgx, oe_none hgy]
      exact l_stepOf_M l hst z H0 hz D cI cJ cZ cG b P ad st o f j x b1 b2 hj hst1 hgy hPO hDO
    · obtain ⟨j2, hj2, rfl, hst2⟩ := gat_some hgy
      rcases e_sort (gK x) b1 1 with hok | hno
      · by_cases hk : gK y = gK x
        · by_cases hlt : gC x < (8 : Int32)
          · unfold ob_stepOf
            rw [oe_some hgx, oe_some hgy, if_neg (ne2 hok), if_pos hk, if_pos hlt, nI_clamp (show j < 2 ^ 31 by omega), nI_clamp (show j2 < 2 ^ 31 by omega)]
            exact l_stepOf_O l hst z H0 hz D cI cJ cZ cG b P ad st o f j x j2 y b1 hI hj hst1 hj2 hst2 hok hk hlt hPO hDO
          · unfold ob_stepOf
            rw [oe_some hgx, oe_some hgy, if_neg (ne2 hok), if_pos hk, if_neg hlt]
            exact l_stepOf_S l hst z H0 hz D cI cJ cZ cG b P ad st o f j x j2 y b1 hj hst1 hj2 hst2 hok hk hlt hPO hDO
        · unfold ob_stepOf
          rw [oe_some hgx, oe_some hgy, if_neg (ne2 hok), if_neg hk]
          exact l_stepOf_K l hst z H0 hz D cI cJ cZ cG b P ad st o f j x j2 y b1 hj hst1 hj2 hst2 hok hk hPO hDO
      · unfold ob_stepOf
        rw [oe_some hgx, oe_some hgy, if_pos hno]
        exact l_stepOf_A l hst z H0 hz D cI cJ cZ cG b P ad st o f j x j2 y b1 hj hst1 hj2 hst2 hno hPO hDO
theorem c_L_bare (l : Launch) (hst : l.stackTraces = false) (z : Nat) (H0 : Heap) (hz : z ≤ H0.size) (D : va_G) (cI cJ cZ cG : ClassId) (b P : Nat) (ad : Nat → ga) (st : Nat → Option GS) (o : Nat) (f : Nat → Int64) (b0 : Int32) (hI : BI st) (hPO : va_P D vwCl (OW cI cJ cG o b P ad st f) H0) (hDO : va_D (fun _ => True) (OW cI cJ cG o b P ad st f)) : LC l yL_bare wsL_bare [Value.ref b, Value.int b0, Value.ref o] D cI cJ cZ cG z o b P ad st f H0 (ob_bare st b0) := by
  rcases hgx : gat st b0 with _ | x
  · unfold ob_bare
    rw [oe_none hgx]
    exact l_bare_N l hst z H0 hz D cI cJ cZ cG b P ad st o f b0 hgx hPO hDO
  · obtain ⟨j, hj, rfl, hst1⟩ := gat_some hgx
    unfold ob_bare
    rw [oe_some hgx, nI_clamp (show j < 2 ^ 31 by omega)]
    exact l_bare_O l hst z H0 hz D cI cJ cZ cG b P ad st o f j x hI hj hst1 hPO hDO
theorem c_L_clear (l : Launch) (hst : l.stackTraces = false) (z : Nat) (H0 : Heap) (hz : z ≤ H0.size) (D : va_G) (cI cJ cZ cG : ClassId) (b P : Nat) (ad : Nat → ga) (st : Nat → Option GS) (o : Nat) (f : Nat → Int64) (b0 : Int32) (hI : BI st) (hPO : va_P D vwCl (OW cI cJ cG o b P ad st f) H0) (hDO : va_D (fun _ => True) (OW cI cJ cG o b P ad st f)) : LC l yL_clear wsL_clear [Value.ref b, Value.int b0, Value.ref o] D cI cJ cZ cG z o b P ad st f H0 (ob_clear st b0) := by
  rcases hgx : gat st b0 with _ | x
  · unfold ob_clear
    rw [oe_none hgx]
    exact l_clear_N l hst z H0 hz D cI cJ cZ cG b P ad st o f b0 hgx hPO hDO
  · obtain ⟨j, hj, rfl, hst1⟩ := gat_some hgx
    unfold ob_clear
    rw [oe_some hgx, nI_clamp (show j < 2 ^ 31 by omega)]
    exact l_clear_O l hst z H0 hz D cI cJ cZ cG b P ad st o f j x hI hj hst1 hPO hDO
theorem c_L_value (l : Launch) (hst : l.stackTraces = false) (z : Nat) (H0 : Heap) (hz : z ≤ H0.size) (D : va_G) (cI cJ cZ cG : ClassId) (b P : Nat) (ad : Nat → ga) (st : Nat → Option GS) (o : Nat) (f : Nat → Int64) (b0 : Int32) (hI : BI st) (hPO : va_P D vwCl (OW cI cJ cG o b P ad st f) H0) (hDO : va_D (fun _ => True) (OW cI cJ cG o b P ad st f)) : LC l yL_value wsL_value [Value.ref b, Value.int b0, Value.ref o] D cI cJ cZ cG z o b P ad st f H0 (ob_value st b0) := by
  rcases hgx : gat st b0 with _ | x
  · unfold ob_value
    rw [oe_none hgx]
    exact l_value_N l hst z H0 hz D cI cJ cZ cG b P ad st o f b0 hgx hPO hDO
  · obtain ⟨j, hj, rfl, hst1⟩ := gat_some hgx
    unfold ob_value
    rw [oe_some hgx]
    exact l_value_O l hst z H0 hz D cI cJ cZ cG b P ad st o f j x hj hst1 hPO hDO
theorem c_L_rank (l : Launch) (hst : l.stackTraces = false) (z : Nat) (H0 : Heap) (hz : z ≤ H0.size) (D : va_G) (cI cJ cZ cG : ClassId) (b P : Nat) (ad : Nat → ga) (st : Nat → Option GS) (o : Nat) (f : Nat → Int64) (b0 : Int32) (hI : BI st) (hPO : va_P D vwCl (OW cI cJ cG o b P ad st f) H0) (hDO : va_D (fun _ => True) (OW cI cJ cG o b P ad st f)) : LC l yL_rank wsL_rank [Value.ref b, Value.int b0, Value.ref o] D cI cJ cZ cG z o b P ad st f H0 (ob_rank st b0) := by
  rcases hgx : gat st b0 with _ | x
  · unfold ob_rank
    rw [oe_none hgx]
    exact l_rank_N l hst z H0 hz D cI cJ cZ cG b P ad st o f b0 hgx hPO hDO
  · obtain ⟨j, hj, rfl, hst1⟩ := gat_some hgx
    unfold ob_rank
    rw [oe_some hgx]
    exact l_rank_O l hst z H0 hz D cI cJ cZ cG b P ad st o f j x hj hst1 hPO hDO
theorem c_L_read (l : Launch) (hst : l.stackTraces = false) (z : Nat) (H0 : Heap) (hz : z ≤ H0.size) (D : va_G) (cI cJ cZ cG : ClassId) (b P : Nat) (ad : Nat → ga) (st : Nat → Option GS) (o : Nat) (f : Nat → Int64) (b0 : Int32) (b1 : Int64) (hI : BI st) (hPO : va_P D vwCl (OW cI cJ cG o b P ad st f) H0) (hDO : va_D (fun _ => True) (OW cI cJ cG o b P ad st f)) : LC l yL_read wsL_read [Value.ref b, Value.int b0, Value.long b1, Value.ref o] D cI cJ cZ cG z o b P ad st f H0 (ob_read st b0 b1) := by
  rcases hgx : gat st b0 with _ | x
  · unfold ob_read
    rw [oe_none hgx]
    exact l_read_N l hst z H0 hz D cI cJ cZ cG b P ad st o f b0 b1 hgx hPO hDO
  · obtain ⟨j, hj, rfl, hst1⟩ := gat_some hgx
    rcases e_good (gK x) b1 with hgd | hnog
    · unfold ob_read
      rw [oe_some hgx, if_neg (ne2 hgd), nI_clamp (show j < 2 ^ 31 by omega)]
      exact l_read_O l hst z H0 hz D cI cJ cZ cG b P ad st o f j x b1 hI hj hst1 hgd hPO hDO
    · unfold ob_read
      rw [oe_some hgx, if_pos hnog]
      exact l_read_A l hst z H0 hz D cI cJ cZ cG b P ad st o f j x b1 hj hst1 hnog hPO hDO
theorem c_L_hand (l : Launch) (hst : l.stackTraces = false) (z : Nat) (H0 : Heap) (hz : z ≤ H0.size) (D : va_G) (cI cJ cZ cG : ClassId) (b P : Nat) (ad : Nat → ga) (st : Nat → Option GS) (o : Nat) (f : Nat → Int64) (b0 : Int32) (b1 : Int32) (hI : BI st) (hPO : va_P D vwCl (OW cI cJ cG o b P ad st f) H0) (hDO : va_D (fun _ => True) (OW cI cJ cG o b P ad st f)) : LC l yL_hand wsL_hand [Value.ref b, Value.int b0, Value.int b1, Value.ref o] D cI cJ cZ cG z o b P ad st f H0 (ob_hand st b0 b1) := by
  rcases hgy : gat st b0 with _ | y
  · unfold ob_hand
    rw [oe_none hgy]
    exact l_hand_N l hst z H0 hz D cI cJ cZ cG b P ad st o f b0 b1 hgy hPO hDO
  · obtain ⟨j2, hj2, rfl, hst2⟩ := gat_some hgy
    rcases hgx : gat st b1 with _ | x
    · unfold ob_hand
      rw [oe_some hgy, oe_none hgx]
      exact l_hand_M l hst z H0 hz D cI cJ cZ cG b P ad st o f j2 y b1 hj2 hst2 hgx hPO hDO
    · obtain ⟨j, hj, rfl, hst1⟩ := gat_some hgx
      by_cases hs : (nI j2) = (nI j)
      · have hjj : j2 = j := (nI_eq (by omega) (by omega)).mp hs
        subst hjj
        have hxy : y = x := Option.some.inj (hst2.symm.trans hst1)
        subst hxy
        unfold ob_hand
        rw [oe_some hgy, oe_some hgx, if_pos rfl]
        exact l_hand_A l hst z H0 hz D cI cJ cZ cG b P ad st o f j2 y hj hst1 hPO hDO
      · by_cases hcan : f_X1_canHandOn (gK y) (gK x) = 0
        · unfold ob_hand
          rw [oe_some hgy, oe_some hgx, if_neg hs, if_pos hcan]
          exact l_hand_B l hst z H0 hz D cI cJ cZ cG b P ad st o f j x j2 y hj hst1 hj2 hst2 hs hcan hPO hDO
        · unfold ob_hand
          rw [oe_some hgy, oe_some hgx, if_neg hs, if_neg hcan, nI_clamp (show j < 2 ^ 31 by omega)]
          exact l_hand_O l hst z H0 hz D cI cJ cZ cG b P ad st o f j x j2 y hI hj hst1 hj2 hst2 hs hcan hPO hDO
theorem c_L_mark (l : Launch) (hst : l.stackTraces = false) (z : Nat) (H0 : Heap) (hz : z ≤ H0.size) (D : va_G) (cI cJ cZ cG : ClassId) (b P : Nat) (ad : Nat → ga) (st : Nat → Option GS) (o : Nat) (f : Nat → Int64) (b0 : Int32) (b1 : Int32) (hI : BI st) (hPO : va_P D vwCl (OW cI cJ cG o b P ad st f) H0) (hDO : va_D (fun _ => True) (OW cI cJ cG o b P ad st f)) : LC l yL_mark wsL_mark [Value.ref b, Value.int b0, Value.int b1, Value.ref o] D cI cJ cZ cG z o b P ad st f H0 (ob_mark st b0 b1) := by
  rcases hgx : gat st b0 with _ | x
  · unfold ob_mark
    rw [oe_none hgx]
    exact l_mark_N l hst z H0 hz D cI cJ cZ cG b P ad st o f b0 b1 hgx hPO hDO
  · obtain ⟨j, hj, rfl, hst1⟩ := gat_some hgx
    by_cases hm : gM x = 0
    · unfold ob_mark
      rw [oe_some hgx, if_pos hm]
      exact l_mark_S l hst z H0 hz D cI cJ cZ cG b P ad st o f j x b1 hj hst1 hm hPO hDO
    · unfold ob_mark
      rw [oe_some hgx, if_neg hm]
      exact l_mark_O l hst z H0 hz D cI cJ cZ cG b P ad st o f j x b1 hj hst1 hm hPO hDO
theorem c_L_about (l : Launch) (hst : l.stackTraces = false) (z : Nat) (H0 : Heap) (hz : z ≤ H0.size) (D : va_G) (cI cJ cZ cG : ClassId) (b P : Nat) (ad : Nat → ga) (st : Nat → Option GS) (o : Nat) (f : Nat → Int64) (b0 : Int32) (b1 : Int32) (hI : BI st) (hPO : va_P D vwCl (OW cI cJ cG o b P ad st f) H0) (hDO : va_D (fun _ => True) (OW cI cJ cG o b P ad st f)) : LC l yL_about wsL_about [Value.ref b, Value.int b0, Value.int b1, Value.ref o] D cI cJ cZ cG z o b P ad st f H0 (ob_about st b0 b1) := by
  rcases hgx : gat st b0 with _ | x
  · unfold ob_about
    rw [oe_none hgx]
    exact l_about_N l hst z H0 hz D cI cJ cZ cG b P ad st o f b0 b1 hgx hPO hDO
  · obtain ⟨j, hj, rfl, hst1⟩ := gat_some hgx
    by_cases hw : ¬ b1 = 0 ∧ ¬ b1 = 1 ∧ ¬ b1 = 2 ∧ ¬ b1 = 3 ∧ ¬ b1 = 4 ∧ ¬ b1 = 5
    · unfold ob_about
      rw [oe_some hgx, if_pos hw]
      exact l_about_A l hst z H0 hz D cI cJ cZ cG b P ad st o f j x b1 hj hst1 hw.1 hw.2.1 hw.2.2.1 hw.2.2.2.1 hw.2.2.2.2.1 hw.2.2.2.2.2 hPO hDO
    · unfold ob_about
      rw [oe_some hgx, if_neg hw, nI_clamp (show j < 2 ^ 31 by omega)]
      exact l_about_O l hst z H0 hz D cI cJ cZ cG b P ad st o f j x b1 hI hj hst1 hw hPO hDO
theorem c_L_stepAt (l : Launch) (hst : l.stackTraces = false) (z : Nat) (H0 : Heap) (hz : z ≤ H0.size) (D : va_G) (cI cJ cZ cG : ClassId) (b P : Nat) (ad : Nat → ga) (st : Nat → Option GS) (o : Nat) (f : Nat → Int64) (b0 : Int32) (b1 : Int32) (b2 : Int32) (hI : BI st) (hPO : va_P D vwCl (OW cI cJ cG o b P ad st f) H0) (hDO : va_D (fun _ => True) (OW cI cJ cG o b P ad st f)) : LC l yL_stepAt wsL_stepAt [Value.ref b, Value.int b0, Value.int b1, Value.int b2, Value.ref o] D cI cJ cZ cG z o b P ad st f H0 (ob_stepAt st b0 b1 b2) := by
  rcases hgx : gat st b0 with _ | x
  · unfold ob_stepAt
    rw [oe_none hgx]
    exact l_stepAt_N l hst z H0 hz D cI cJ cZ cG b P ad st o f b0 b1 b2 hgx hPO hDO
  · obtain ⟨j, hj, rfl, hst1⟩ := gat_some hgx
    by_cases k0 : b1 < 0
    · unfold ob_stepAt
      rw [oe_some hgx, if_pos k0]
      exact l_stepAt_M l hst z H0 hz D cI cJ cZ cG b P ad st o f j x b1 b2 hj hst1 k0 hPO hDO
    · by_cases k1 : b1 < gC x
      · by_cases hw : ¬ b2 = 0 ∧ ¬ b2 = 1 ∧ ¬ b2 = 2
        · unfold ob_stepAt
          rw [oe_some hgx, if_neg k0, if_pos k1, if_pos hw]
          exact l_stepAt_A l hst z H0 hz D cI cJ cZ cG b P ad st o f j x b1 b2 hj hst1 k0 k1 hw.1 hw.2.1 hw.2.2 hPO hDO
        · unfold ob_stepAt
          rw [oe_some hgx, if_neg k0, if_pos k1, if_neg hw]
          exact l_stepAt_O l hst z H0 hz D cI cJ cZ cG b P ad st o f j x b1 b2 hI hj hst1 k0 k1 hw hPO hDO
      · unfold ob_stepAt
        rw [oe_some hgx, if_neg k0, if_neg k1]
        exact l_stepAt_L l hst z H0 hz D cI cJ cZ cG b P ad st o f j x b1 b2 hj hst1 k0 k1 hPO hDO
theorem c_L_most (l : Launch) (hst : l.stackTraces = false) (z : Nat) (H0 : Heap) (hz : z ≤ H0.size) (D : va_G) (cI cJ cZ cG : ClassId) (b P : Nat) (ad : Nat → ga) (st : Nat → Option GS) (o : Nat) (f : Nat → Int64) (b0 : Int32) (b1 : Int32) (hI : BI st) (hPO : va_P D vwCl (OW cI cJ cG o b P ad st f) H0) (hDO : va_D (fun _ => True) (OW cI cJ cG o b P ad st f)) : LC l yL_most wsL_most [Value.ref b, Value.int b0, Value.int b1, Value.ref o] D cI cJ cZ cG z o b P ad st f H0 (ob_most st b0 b1) := by
  rcases e_kind b0 with hok | hno
  · rcases hq : mostL st b0 b1 13 none 0 with _ | q
    · unfold ob_most
      rw [if_neg (ne2 hok), hq]
      exact l_most_S l hst z H0 hz D cI cJ cZ cG b P ad st o f b0 b1 hok hq hPO hDO
    · unfold ob_most
      rw [if_neg (ne2 hok), hq]
      exact l_most_O l hst z H0 hz D cI cJ cZ cG b P ad st o f b0 b1 q hok hq hPO hDO
  · unfold ob_most
    rw [if_pos hno]
    exact l_most_A l hst z H0 hz D cI cJ cZ cG b P ad st o f b0 b1 hno hPO hDO
