/-! whole numbers by a DOUBLE's bits -/
theorem r_shr {a d : Nat} {D : Int64} (hD : (D.toBitVec.smod 64).toNat = d) (h : a < 2 ^ 63) : lN a >>> D = lN (a / 2 ^ d) := by
  have hd : a / 2 ^ d ≤ a := Nat.div_le_self _ _
  apply Int64.toInt_inj.mp
  have e : (lN a >>> D).toInt = (lN a).toInt >>> d := by
    rw [← hD]
    exact BitVec.toInt_sshiftRight ..
  rw [e, Int.shiftRight_eq_div_pow, pf_lI (by omega), pf_lI (by omega)]
  rfl
theorem nI_subI {a b : Nat} (h : b ≤ a) : nI a - nI b = nI (a - b) := by
  have h1 := nI_add (a - b) b
  rw [show a - b + b = a by omega] at h1
  rw [← h1]
  exact Int32.add_sub_cancel ..
theorem lN_subI {a b : Nat} (h : b ≤ a) : lN a - lN b = lN (a - b) := lN_sub h
theorem p_mod {s n m : Nat} (hm : m ≤ 63) : (s * 2 ^ 63 + n) % 2 ^ m = n % 2 ^ m := by
  rw [wb_pw hm, ← Nat.mul_assoc, Nat.mul_comm s, Nat.mul_assoc, Nat.mul_add_mod]
/-- the exponent -/
theorem e_x1 {s n : Nat} (hs : s < 2) (hn : n < 2 ^ 63) : ((((lN (s * 2 ^ 63 + n) &&& (9223372036854775807 : Int64)).toUInt64 >>> ((52 : Int32).toInt64.toUInt64 &&& Int64.toUInt64 63)).toInt64).toInt32) = nI (n / 2 ^ 52) := by
  rw [r_low hs hn]
  have h := wb_shr (n := n) (k := 52) (by omega) (by decide)
  rw [show ((lN n).toUInt64 >>> ((52 : Int32).toInt64.toUInt64 &&& Int64.toUInt64 63)).toInt64 = lN (n / 2 ^ 52) from h]
  exact lN_i _
theorem e_x2 {s n : Nat} (hs : s < 2) (hn : n < 2 ^ 63) : (((lN (s * 2 ^ 63 + n) &&& (9223372036854775807 : Int64)) >>> ((52 : Int32).toInt64 &&& 63)).toInt32) = nI (n / 2 ^ 52) := by
  rw [r_low hs hn, r_shr (d := 52) (by decide) hn]
  exact lN_i _
theorem e_lt {e : Nat} (he : e < 2048) : (nI e - (1023 : Int32)) < (52 : Int32) ↔ e < 1075 := by
  rw [Int32.lt_iff_toInt_lt, Int32.toInt_sub, nI_toInt (by omega), show (1023 : Int32).toInt = 1023 by decide, show (52 : Int32).toInt = 52 by decide, Int.bmod_def]
  split <;> omega
theorem e_nn {e : Nat} (he : e < 2048) : 0 ≤ (nI e - (1023 : Int32)) ↔ 1023 ≤ e := by
  rw [Int32.le_iff_toInt_le, Int32.toInt_sub, nI_toInt (by omega), show (1023 : Int32).toInt = 1023 by decide, show (0 : Int32).toInt = 0 by decide, Int.bmod_def]
  split <;> omega
theorem u_eq {e : Nat} (h1 : 1023 ≤ e) (h2 : e < 1075) : (1 : Int64) <<< (((52 : Int32) - (nI e - (1023 : Int32))).toInt64 &&& 63) = lN (2 ^ (1075 - e)) := by
  have a1 : nI e - (1023 : Int32) = nI (e - 1023) := nI_subI (b := 1023) h1
  have a2 : (52 : Int32) - nI (e - 1023) = nI (1075 - e) := by
    have := nI_subI (a := 52) (b := e - 1023) (by omega)
    rw [show 52 - (e - 1023) = 1075 - e by omega] at this
    exact this
  rw [a1, a2]
  have h := wb_shl 1 (k := 1075 - e) (by omega)
  rw [Nat.one_mul] at h
  exact h
theorem cmp0 {a : Nat} (ha : a < 2 ^ 64) : lg_cmp (lN a) 0 = 0 ↔ a = 0 := (lg_cmp_eq _ _).trans (lE (b := 0) ha (by decide))
theorem p_pos (m : Nat) : 1 ≤ 2 ^ m := Nat.one_le_two_pow
theorem mask_eq {s n : Nat} (hs : s < 2) (hn : n < 2 ^ 63) (h1 : 1023 ≤ n / 2 ^ 52) (h2 : n / 2 ^ 52 < 1075) : f_X1_partMask (lN (s * 2 ^ 63 + n)) = lN (2 ^ (1075 - n / 2 ^ 52) - 1) := by
  unfold f_X1_partMask
  rw [e_x1 hs hn, if_pos ((e_lt (by omega)).mpr h2), u_eq h1 h2]
  exact lN_subI (b := 1) (p_pos _)
theorem mask_0 {s n : Nat} (hs : s < 2) (hn : n < 2 ^ 63) (h2 : ¬ n / 2 ^ 52 < 1075) : f_X1_partMask (lN (s * 2 ^ 63 + n)) = 0 := by
  unfold f_X1_partMask
  rw [e_x1 hs hn, if_neg (fun z => h2 ((e_lt (by omega)).mp z))]
theorem below_eq {s n : Nat} (hs : s < 2) (hn : n < 2 ^ 63) : f_X1_isBelowOne (lN (s * 2 ^ 63 + n)) = if 1023 ≤ n / 2 ^ 52 then 0 else 1 := by
  unfold f_X1_isBelowOne
  rw [r_low hs hn]
  have h : 0 ≤ lg_cmp (lN n) 4607182418800017408 ↔ 1023 ≤ n / 2 ^ 52 := by
    rw [lg_cmp_ge]
    have := lLe (a := 4607182418800017408) (b := n) (by decide) hn
    rw [show lN 4607182418800017408 = (4607182418800017408 : Int64) from rfl] at this
    rw [this]
    omega
  by_cases z : 1023 ≤ n / 2 ^ 52
  · rw [if_pos z, if_pos (h.mpr z)]
  · rw [if_neg z, if_neg (fun y => z (h.mp y))]
theorem two_dvd {m n : Nat} (hm : m ≤ 63) (hn : n < 2 ^ 63) : n - n % 2 ^ m + 2 ^ m ≤ 2 ^ 63 := by
  have h1 := Nat.div_add_mod n (2 ^ m)
  have h2 := wb_pw hm
  have h3 : n / 2 ^ m < 2 ^ (63 - m) := Nat.div_lt_of_lt_mul (by rw [← h2]; exact hn)
  have h4 : 2 ^ m * (n / 2 ^ m + 1) ≤ 2 ^ m * 2 ^ (63 - m) := Nat.mul_le_mul_left _ h3
  rw [Nat.mul_add, Nat.mul_one] at h4
  omega
theorem and_mask {s n m : Nat} (hs : s < 2) (hn : n < 2 ^ 63) (hm : m ≤ 52) : lN (s * 2 ^ 63 + n) &&& lN (2 ^ m - 1) = lN (n % 2 ^ m) := by
  rw [wb_mask (s_lt hs hn) (by omega), p_mod (by omega)]
theorem tow_eq {s n m : Nat} (hs : s < 2) (hn : n < 2 ^ 63) (hm : m ≤ 52) : lN (s * 2 ^ 63 + n) &&& (lN (2 ^ m - 1) ^^^ (-1 : Int64)) = lN (s * 2 ^ 63 + (n - n % 2 ^ m)) := by
  rw [r_cut (s_lt hs hn) (by omega), p_mod (by omega)]
  congr 1
  have : n % 2 ^ m ≤ n := Nat.mod_le _ _
  omega
/-- toward zero, away from it, by cases -/
theorem toward_b {s n : Nat} (hs : s < 2) (hn : n < 2 ^ 63) (h : ¬ 1023 ≤ n / 2 ^ 52) : f_X1_wholeToward (lN (s * 2 ^ 63 + n)) = lN (s * 2 ^ 63) := by
  unfold f_X1_wholeToward
  rw [below_eq hs hn, if_neg h, if_neg (by decide), r_sgn hs hn]
theorem toward_m {s n : Nat} (hs : s < 2) (hn : n < 2 ^ 63) (h1 : 1023 ≤ n / 2 ^ 52) (h2 : n / 2 ^ 52 < 1075) : f_X1_wholeToward (lN (s * 2 ^ 63 + n)) = lN (s * 2 ^ 63 + (n - n % 2 ^ (1075 - n / 2 ^ 52))) := by
  unfold f_X1_wholeToward
  rw [below_eq hs hn, if_pos h1, if_pos rfl, mask_eq hs hn h1 h2, tow_eq hs hn (by omega)]
theorem toward_t {s n : Nat} (hs : s < 2) (hn : n < 2 ^ 63) (h1 : 1023 ≤ n / 2 ^ 52) (h2 : ¬ n / 2 ^ 52 < 1075) : f_X1_wholeToward (lN (s * 2 ^ 63 + n)) = lN (s * 2 ^ 63 + n) := by
  unfold f_X1_wholeToward
  rw [below_eq hs hn, if_pos h1, if_pos rfl, mask_0 hs hn h2]
  apply wb_inj
  rw [Int64.toBitVec_and, show ((0 : Int64) ^^^ (-1)).toBitVec = BitVec.allOnes 64 by decide, BitVec.and_allOnes]
theorem away_b {s n : Nat} (hs : s < 2) (hn : n < 2 ^ 63) (h : ¬ 1023 ≤ n / 2 ^ 52) : f_X1_wholeAway (lN (s * 2 ^ 63 + n)) = if n = 0 then lN (s * 2 ^ 63 + n) else lN (s * 2 ^ 63 + 1023 * 2 ^ 52) := by
  unfold f_X1_wholeAway f_X1_isWhole
  rw [below_eq hs hn, if_neg h, if_neg (show ¬ (1 : Int32) = 0 by decide), if_neg (show ¬ (1 : Int32) = 0 by decide), r_low hs hn]
  by_cases z : n = 0
  · rw [if_pos z, if_pos ((lg_cmp_eq _ _).mpr (by rw [z]; rfl)), if_neg (by decide)]
  · rw [if_neg z, if_neg (fun y => z ((cmp0 (by omega)).mp y)), if_pos rfl, r_sgn hs hn]
    have h9 := g_or (k := 63) (p := 2 ^ 63) (a := 1023 * 2 ^ 52) (b := s) rfl (by decide) (by omega)
    exact h9
theorem away_m {s n : Nat} (hs : s < 2) (hn : n < 2 ^ 63) (h1 : 1023 ≤ n / 2 ^ 52) (h2 : n / 2 ^ 52 < 1075) : f_X1_wholeAway (lN (s * 2 ^ 63 + n)) = if n % 2 ^ (1075 - n / 2 ^ 52) = 0 then lN (s * 2 ^ 63 + n) else lN (s * 2 ^ 63 + (n - n % 2 ^ (1075 - n / 2 ^ 52) + 2 ^ (1075 - n / 2 ^ 52))) := by
  have hmod : n % 2 ^ (1075 - n / 2 ^ 52) ≤ n := Nat.mod_le _ _
  unfold f_X1_wholeAway f_X1_isWhole
  rw [below_eq hs hn, if_pos h1, if_pos (show (0 : Int32) = 0 from rfl), if_pos (show (0 : Int32) = 0 from rfl), mask_eq hs hn h1 h2, and_mask hs hn (by omega)]
  by_cases z : n % 2 ^ (1075 - n / 2 ^ 52) = 0
  · rw [if_pos z, if_pos ((lg_cmp_eq _ _).mpr (by rw [z]; rfl)), if_neg (by decide)]
  · rw [if_neg z, if_neg (fun y => z ((cmp0 (by omega)).mp y)), if_pos rfl, toward_m hs hn h1 h2, lN_add, lN_1]
    have := p_pos (1075 - n / 2 ^ 52)
    exact congrArg lN (by omega)
theorem away_t {s n : Nat} (hs : s < 2) (hn : n < 2 ^ 63) (h1 : 1023 ≤ n / 2 ^ 52) (h2 : ¬ n / 2 ^ 52 < 1075) : f_X1_wholeAway (lN (s * 2 ^ 63 + n)) = lN (s * 2 ^ 63 + n) := by
  unfold f_X1_wholeAway f_X1_isWhole
  rw [below_eq hs hn, if_pos h1, if_pos (show (0 : Int32) = 0 from rfl), if_pos (show (0 : Int32) = 0 from rfl), mask_0 hs hn h2]
  rw [if_pos ((lg_cmp_eq _ _).mpr (by apply wb_inj; rw [Int64.toBitVec_and]; show _ &&& 0#64 = 0#64; simp)), if_neg (by decide)]
theorem half_eq {m : Nat} (h1 : 1 ≤ m) (hm : m ≤ 62) : (((lN (2 ^ m - 1)).toUInt64 >>> ((1 : Int32).toInt64.toUInt64 &&& Int64.toUInt64 63)).toInt64) + (1 : Int64) = lN (2 ^ (m - 1)) := by
  have hp := wb_lt2 (show m < 63 by omega)
  have h := wb_shr (n := 2 ^ m - 1) (k := 1) (by omega) (by decide)
  rw [show ((lN (2 ^ m - 1)).toUInt64 >>> ((1 : Int32).toInt64.toUInt64 &&& Int64.toUInt64 63)).toInt64 = lN ((2 ^ m - 1) / 2 ^ 1) from h, lN_1]
  congr 1
  have h2 := wb_pw (a := 1) (b := m) h1
  have h3 := p_pos (m - 1)
  omega
theorem rounds_eq {q m : Nat} (hq : q < 2 ^ 64) (h1 : 1 ≤ m) (hm : m ≤ 62) : f_X1_roundsAway (lN q) (lN (2 ^ m - 1)) = if 2 ^ (m - 1) < q % 2 ^ m ∨ (q % 2 ^ m = 2 ^ (m - 1) ∧ q / 2 ^ m % 2 = 1) then 1 else 0 := by
  have hp := wb_lt2 (show m < 63 by omega)
  have hp1 := wb_lt2 (show m - 1 < 63 by omega)
  have hr : q % 2 ^ m < 2 ^ m := Nat.mod_lt _ (Nat.two_pow_pos m)
  unfold f_X1_roundsAway
  rw [half_eq h1 hm, wb_mask hq (by omega), lN_1, show 2 ^ m - 1 + 1 = 2 ^ m by have := p_pos m; omega]
  have c1 : lg_cmp (lN q &&& lN (2 ^ m)) 0 = 0 ↔ q / 2 ^ m % 2 = 0 := (lg_cmp_eq _ _).trans (r_bit hq (by omega))
  have c2 : 0 < lg_cmp (lN (q % 2 ^ m)) (lN (2 ^ (m - 1))) ↔ 2 ^ (m - 1) < q % 2 ^ m := (lg_cmp_gt _ _).trans (lLt (by omega) (by omega))
  have c3 : lg_cmp (lN (q % 2 ^ m)) (lN (2 ^ (m - 1))) = 0 ↔ q % 2 ^ m = 2 ^ (m - 1) := (lg_cmp_eq _ _).trans (lE (by omega) (by omega))
  by_cases d1 : q / 2 ^ m % 2 = 0
  · rw [if_pos (c1.mpr d1)]
    by_cases d2 : 2 ^ (m - 1) < q % 2 ^ m
    · rw [if_pos (c2.mpr d2), if_pos (Or.inl d2)]
    · rw [if_neg (fun z => d2 (c2.mp z)), if_neg (show ¬ (2 ^ (m - 1) < q % 2 ^ m ∨ (q % 2 ^ m = 2 ^ (m - 1) ∧ q / 2 ^ m % 2 = 1)) by omega)]
      split <;> rfl
  · rw [if_neg (fun z => d1 (c1.mp z))]
    by_cases d2 : 2 ^ (m - 1) < q % 2 ^ m
    · rw [if_pos (c2.mpr d2), if_pos (Or.inl d2)]
    · rw [if_neg (fun z => d2 (c2.mp z))]
      by_cases d3 : q % 2 ^ m = 2 ^ (m - 1)
      · rw [if_pos (c3.mpr d3), if_pos (Or.inr ⟨d3, by omega⟩)]
      · rw [if_neg (fun z => d3 (c3.mp z)), if_neg (show ¬ (2 ^ (m - 1) < q % 2 ^ m ∨ (q % 2 ^ m = 2 ^ (m - 1) ∧ q / 2 ^ m % 2 = 1)) by omega)]
theorem bit_mod (q m : Nat) : q / 2 ^ m % 2 = q % 2 ^ (m + 1) / 2 ^ m := by
  rw [Nat.pow_succ, Nat.mod_mul_right_div_self]
/-- the significand's lower bits are the number's -/
theorem sig_eq {n m : Nat} (hm1 : 1 ≤ m) (hm : m ≤ 52) (he : m = 1075 - n / 2 ^ 52) (h1 : 1023 ≤ n / 2 ^ 52) : (n % 2 ^ 52 + 2 ^ 52) % 2 ^ m = n % 2 ^ m ∧ (n % 2 ^ 52 + 2 ^ 52) / 2 ^ m % 2 = n / 2 ^ m % 2 := by
  have hp := wb_pw hm
  have hmodm : ∀ j, j ≤ 52 → (n % 2 ^ 52 + 2 ^ 52) % 2 ^ j = n % 2 ^ j := by
    intro j hj
    have hj2 := wb_pw hj
    rw [Nat.add_mod, Nat.mod_mod_of_dvd n (Nat.pow_dvd_pow 2 hj), Nat.mod_eq_zero_of_dvd (Nat.pow_dvd_pow 2 hj), Nat.add_zero, Nat.mod_mod]
  refine ⟨hmodm m hm, ?_⟩
  rcases Nat.lt_or_ge m 52 with h | h
  · rw [bit_mod, bit_mod, hmodm (m + 1) (by omega)]
  · have hm2 : m = 52 := by omega
    subst hm2
    have hf : n % 2 ^ 52 < 2 ^ 52 := Nat.mod_lt _ (by decide)
    omega
theorem sig_of {s n : Nat} (hs : s < 2) (hn : n < 2 ^ 63) : (lN (s * 2 ^ 63 + n) &&& ((4503599627370496 : Int64) - (1 : Int64))) ||| (4503599627370496 : Int64) = lN (n % 2 ^ 52 + 2 ^ 52) := by
  have h1 : lN (s * 2 ^ 63 + n) &&& ((4503599627370496 : Int64) - (1 : Int64)) = lN (n % 2 ^ 52) := by
    have := and_mask (m := 52) hs hn (by decide)
    rw [show ((4503599627370496 : Int64) - (1 : Int64)) = lN (2 ^ 52 - 1) by decide]
    exact this
  rw [h1]
  have h2 := g_or' (k := 52) (p := 2 ^ 52) (a := n % 2 ^ 52) (b := 1) rfl (Nat.mod_lt _ (by decide)) (by omega)
  rw [Nat.one_mul] at h2
  exact h2
