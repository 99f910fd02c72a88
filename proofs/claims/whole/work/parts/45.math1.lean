/-! whole numbers under the bits -/
theorem lE {a b : Nat} (ha : a < 2 ^ 64) (hb : b < 2 ^ 64) : lN a = lN b ↔ a = b := ⟨fun h => by have := congrArg (fun z : Int64 => z.toBitVec.toNat) h; simpa [wb_tn ha, wb_tn hb] using this, fun h => by rw [h]⟩
theorem lLe {a b : Nat} (ha : a < 2 ^ 63) (hb : b < 2 ^ 63) : lN a ≤ lN b ↔ a ≤ b := by
  rw [Int64.le_iff_toInt_le, pf_lI ha, pf_lI hb]; omega
theorem lLt {a b : Nat} (ha : a < 2 ^ 63) (hb : b < 2 ^ 63) : lN a < lN b ↔ a < b := by
  rw [Int64.lt_iff_toInt_lt, pf_lI ha, pf_lI hb]; omega
theorem i64_rep (v : Int64) : ∃ s n : Nat, s < 2 ∧ n < 2 ^ 63 ∧ v = lN (s * 2 ^ 63 + n) := by
  obtain ⟨m, hm, rfl⟩ := wb_of v
  refine ⟨m / 2 ^ 63, m % 2 ^ 63, by omega, Nat.mod_lt _ (by decide), ?_⟩
  congr 1
  omega
theorem s_lt {s n : Nat} (hs : s < 2) (hn : n < 2 ^ 63) : s * 2 ^ 63 + n < 2 ^ 64 := by omega
theorem r_nn {s n : Nat} (hs : s < 2) (hn : n < 2 ^ 63) : (0 : Int64) ≤ lN (s * 2 ^ 63 + n) ↔ s = 0 := by
  rw [Int64.le_iff_toInt_le, lN_ti (s_lt hs hn), show (0 : Int64).toInt = 0 by decide]
  split <;> omega
theorem r_low {s n : Nat} (hs : s < 2) (hn : n < 2 ^ 63) : lN (s * 2 ^ 63 + n) &&& (9223372036854775807 : Int64) = lN n := by
  have h := wb_mask (n := s * 2 ^ 63 + n) (k := 63) (s_lt hs hn) (by decide)
  rw [show (s * 2 ^ 63 + n) % 2 ^ 63 = n by omega] at h
  exact h
theorem r_sgn {s n : Nat} (hs : s < 2) (hn : n < 2 ^ 63) : lN (s * 2 ^ 63 + n) &&& (-9223372036854775808 : Int64) = lN (s * 2 ^ 63) := by
  show _ &&& lN (2 ^ 63) = _
  refine g_and (s_lt hs hn) (by decide) ?_
  apply Nat.eq_of_testBit_eq
  intro i
  rw [Nat.testBit_and, Nat.testBit_two_pow]
  by_cases h : 63 = i
  · subst h
    rcases (show s = 0 ∨ s = 1 by omega) with rfl | rfl
    · rw [Nat.zero_mul, Nat.zero_add, Nat.testBit_lt_two_pow hn]; simp
    · rw [Nat.one_mul, Nat.testBit_two_pow_add_eq, Nat.testBit_lt_two_pow hn]; simp; decide
  · rw [decide_eq_false h, Bool.and_false]
    rcases (show s = 0 ∨ s = 1 by omega) with rfl | rfl
    · simp
    · rw [Nat.one_mul, Nat.testBit_two_pow, decide_eq_false h]
theorem r_or {n : Nat} (hn : n < 2 ^ 63) : lN n ||| (-9223372036854775808 : Int64) = lN (1 * 2 ^ 63 + n) := by
  have h := g_or' (k := 63) (p := 2 ^ 63) (a := n) (b := 1) rfl hn (by omega)
  rw [show n + 1 * 2 ^ 63 = 1 * 2 ^ 63 + n by omega] at h
  exact h
theorem r_or' {n : Nat} (hn : n < 2 ^ 63) : (-9223372036854775808 : Int64) ||| lN n = lN (1 * 2 ^ 63 + n) := by
  rw [← r_or hn]; exact Int64.or_comm ..
theorem r_0or (v : Int64) : (0 : Int64) ||| v = v := by
  apply wb_inj
  rw [Int64.toBitVec_or]
  show 0#64 ||| _ = _
  simp
theorem r_l31 {n : Nat} (hn : n < 2 ^ 64) : lN n &&& (2147483647 : Int64) = lN (n % 2 ^ 31) := wb_mask (n := n) (k := 31) hn (by decide)
theorem cmp_ne {a b : Int64} : (lg_cmp a b = 0) ↔ a = b := lg_cmp_eq a b
/-- the lower bits cut off -/
theorem r_cut {n m : Nat} (hn : n < 2 ^ 64) (hm : m < 64) : lN n &&& (lN (2 ^ m - 1) ^^^ (-1 : Int64)) = lN (n - n % 2 ^ m) := by
  apply wb_inj
  rw [Int64.toBitVec_and, Int64.toBitVec_xor, wb_tb, wb_tb, wb_tb, show (-1 : Int64).toBitVec = BitVec.allOnes 64 by decide]
  apply BitVec.eq_of_getLsbD_eq
  intro i hi
  have e1 : n - n % 2 ^ m = 2 ^ m * (n / 2 ^ m) := by have := Nat.div_add_mod n (2 ^ m); omega
  rw [BitVec.getLsbD_and, BitVec.getLsbD_xor, BitVec.getLsbD_ofNat, BitVec.getLsbD_ofNat, BitVec.getLsbD_ofNat, BitVec.getLsbD_allOnes, Nat.testBit_two_pow_sub_one, e1, Nat.testBit_two_pow_mul, Nat.testBit_div_two_pow]
  simp only [hi, decide_true, Bool.true_and]
  by_cases h : i < m
  · simp [h, Nat.not_le.mpr h]
  · have h' : m ≤ i := by omega
    simp [h, h', show i - m + m = i by omega]
/-- one bit -/
theorem r_bit {n m : Nat} (hn : n < 2 ^ 64) (hm : m < 64) : (lN n &&& lN (2 ^ m)) = lN 0 ↔ n / 2 ^ m % 2 = 0 := by
  rw [wb_and hn (wb_lt2 hm)]
  have h1 : n &&& 2 ^ m < 2 ^ 64 := Nat.and_lt_two_pow _ (wb_lt2 hm)
  rw [lE h1 (by decide)]
  constructor
  · intro h
    have h2 := congrArg (fun z => z.testBit m) h
    simp only [Nat.testBit_and, Nat.testBit_two_pow_self, Bool.and_true, Nat.zero_testBit] at h2
    rw [Nat.testBit_eq_decide_div_mod_eq, decide_eq_false_iff_not] at h2
    omega
  · intro h
    apply Nat.eq_of_testBit_eq
    intro i
    rw [Nat.testBit_and, Nat.testBit_two_pow, Nat.zero_testBit]
    by_cases e : m = i
    · subst e
      rw [Nat.testBit_eq_decide_div_mod_eq, decide_eq_false (by omega)]
      rfl
    · rw [decide_eq_false e, Bool.and_false]
