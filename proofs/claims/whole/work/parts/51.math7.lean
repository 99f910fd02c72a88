/-! handing on -/
theorem lN_negI {a : Nat} (h0 : 0 < a) (h : a < 2 ^ 64) : -lN a = lN (2 ^ 64 - a) := by
  apply wb_inj
  rw [Int64.toBitVec_neg, wb_tb, wb_tb]
  apply BitVec.eq_of_toNat_eq
  rw [BitVec.toNat_neg, BitVec.toNat_ofNat, BitVec.toNat_ofNat]
  omega
theorem hb_eq {n T : Nat} (hn : n < 2 ^ 64) (h1 : 2 ^ T ≤ n) (h2 : n < 2 ^ (T + 1)) : ∀ k : Nat, T ≤ k → k ≤ 63 → lp_X1_highestBit (lN n) k = nI T := by
  intro k
  induction k with
  | zero => intro h _; rw [show T = 0 by omega]; rfl
  | succ k ih =>
    intro h hk
    rw [lp_X1_highestBit, wb_shr hn (by omega)]
    have hd : n / 2 ^ (k + 1) < 2 ^ 64 := Nat.lt_of_le_of_lt (Nat.div_le_self _ _) hn
    by_cases e : T ≤ k
    · rw [if_pos ((cmp0 hd).mpr (Nat.div_eq_of_lt (Nat.lt_of_lt_of_le h2 (Nat.pow_le_pow_right (by decide) (by omega)))))]
      exact ih e (by omega)
    · have e2 : T = k + 1 := by omega
      subst e2
      rw [if_neg (fun z => by
        have z2 := (cmp0 hd).mp z
        have z3 := Nat.div_eq_zero_iff.mp z2
        have z4 := Nat.two_pow_pos (k + 1)
        omega)]
theorem tp_eq {n T : Nat} (hn : n < 2 ^ 64) (h1 : 2 ^ T ≤ n) (h2 : n < 2 ^ (T + 1)) : ∀ k : Nat, T ≤ k → k ≤ 63 → lp_X2_top (lN n) k = nI T := by
  intro k
  induction k with
  | zero => intro h _; rw [show T = 0 by omega]; rfl
  | succ k ih =>
    intro h hk
    rw [lp_X2_top, wb_bit hn (by omega)]
    by_cases e : T ≤ k
    · rw [if_pos ((cmp0 (by omega)).mpr (by rw [Nat.div_eq_of_lt (Nat.lt_of_lt_of_le h2 (Nat.pow_le_pow_right (by decide) (by omega)))]))]
      exact ih e (by omega)
    · have e2 : T = k + 1 := by omega
      subst e2
      have hq : n / 2 ^ (k + 1) = 1 := by
        have a1 : 1 ≤ n / 2 ^ (k + 1) := (Nat.le_div_iff_mul_le (Nat.two_pow_pos _)).mpr (by omega)
        have a2 : n / 2 ^ (k + 1) < 2 := Nat.div_lt_of_lt_mul (by rw [Nat.pow_succ] at h2; exact h2)
        omega
      rw [hq, if_neg (fun z => absurd ((cmp0 (by decide)).mp z) (by decide))]
theorem log_ex {n : Nat} (h0 : 0 < n) (hn : n < 2 ^ 64) : ∃ T : Nat, T ≤ 63 ∧ 2 ^ T ≤ n ∧ n < 2 ^ (T + 1) := by
  refine ⟨Nat.log2 n, ?_, Nat.log2_self_le (by omega), Nat.lt_log2_self⟩
  have := (Nat.log2_lt (by omega)).mpr hn
  omega
/-- the significand, rounded -/
def sg9 (u T F : Nat) : Nat := if T ≤ F then u * 2 ^ (F - T) else u / 2 ^ (T - F) + (if 2 ^ (T - F - 1) < u % 2 ^ (T - F) ∨ (u % 2 ^ (T - F) = 2 ^ (T - F - 1) ∧ u / 2 ^ (T - F) % 2 = 1) then 1 else 0)
theorem sg_lo {u T F : Nat} (h1 : 2 ^ T ≤ u) (h2 : u < 2 ^ (T + 1)) : 2 ^ F ≤ sg9 u T F := by
  unfold sg9
  split
  · rename_i h
    rw [wb_pw h]
    exact Nat.mul_le_mul_right _ h1
  · rename_i h
    have a : 2 ^ F ≤ u / 2 ^ (T - F) := (Nat.le_div_iff_mul_le (Nat.two_pow_pos _)).mpr (by rw [← wb_pw (a := F) (b := T) (by omega)]; exact h1)
    omega
theorem sg_hi {u T F : Nat} (h1 : 2 ^ T ≤ u) (h2 : u < 2 ^ (T + 1)) : sg9 u T F ≤ 2 ^ (F + 1) := by
  unfold sg9
  split
  · rename_i h
    rw [show F + 1 = (T + 1) + (F - T) by omega, Nat.pow_add]
    exact Nat.mul_le_mul_right _ (by omega)
  · rename_i h
    have a : u / 2 ^ (T - F) < 2 ^ (F + 1) := Nat.div_lt_of_lt_mul (by rw [← Nat.pow_add, show T - F + (F + 1) = T + 1 by omega]; exact h2)
    split <;> omega
theorem cut_eq {u T F : Nat} (hu : u < 2 ^ 64) (hT : T ≤ 63) (hF : F ≤ 52) (h1 : 2 ^ T ≤ u) (h2 : u < 2 ^ (T + 1)) (hF1 : 1 ≤ F) : f_X1_cutTo (lN u) (nI T - nI F) = lN (sg9 u T F) := by
  unfold f_X1_cutTo sg9
  have c : 0 < (nI T - nI F) ↔ ¬ T ≤ F := by
    rw [Int32.lt_iff_toInt_lt, Int32.toInt_sub, nI_toInt (by omega), nI_toInt (by omega), show (0 : Int32).toInt = 0 by decide, Int.bmod_def]
    split <;> omega
  by_cases h : T ≤ F
  · rw [if_neg (fun z => (c.mp z) h), if_pos h, show -(nI T - nI F) = nI (F - T) by rw [← nI_subI h]; exact Int32.neg_sub .., wb_shl _ (by omega)]
  · rw [if_pos (c.mpr h), if_neg h, nI_subI (by omega), wb_shr hu (by omega)]
    have e1 : (1 : Int64) <<< ((nI (T - F)).toInt64 &&& 63) - 1 = lN (2 ^ (T - F) - 1) := by
      have := wb_shl 1 (k := T - F) (by omega)
      rw [Nat.one_mul] at this
      rw [show (1 : Int64) <<< ((nI (T - F)).toInt64 &&& 63) = lN (2 ^ (T - F)) from this]
      exact lN_subI (b := 1) (p_pos _)
    rw [e1, rounds_eq hu (by omega) (by omega)]
    by_cases d : 2 ^ (T - F - 1) < u % 2 ^ (T - F) ∨ (u % 2 ^ (T - F) = 2 ^ (T - F - 1) ∧ u / 2 ^ (T - F) % 2 = 1)
    · rw [if_pos d, if_pos d, if_neg (by decide), lN_1]
    · rw [if_neg d, if_neg d, if_pos rfl, Nat.add_zero]
theorem exp_eq {T B F : Nat} (hT : T ≤ 63) (hB : B ≤ 1023) (hF : F ≤ 52) : ((nI T + nI B).toInt64) <<< ((nI F).toInt64 &&& 63) = lN ((T + B) * 2 ^ F) := by
  rw [nI_add, nI_l (by omega), wb_shl _ (by omega)]
theorem one_eq {F : Nat} (hF : F ≤ 62) : (1 : Int64) <<< ((nI F).toInt64 &&& 63) = lN (2 ^ F) := by
  have := wb_shl 1 (k := F) (by omega)
  rw [Nat.one_mul] at this
  exact this
/-- the class's size as a real -/
theorem real_eq {u T F B : Nat} (hu : u < 2 ^ 64) (hT : T ≤ 63) (hF1 : 1 ≤ F) (hF : F ≤ 52) (hB : B ≤ 1023) (h1 : 2 ^ T ≤ u) (h2 : u < 2 ^ (T + 1)) :
    ((((f_X1_highestBit (lN u)) + nI B).toInt64) <<< ((nI F).toInt64 &&& 63)) + ((f_X1_cutTo (lN u) ((f_X1_highestBit (lN u)) - nI F)) - ((1 : Int64) <<< ((nI F).toInt64 &&& 63))) = lN ((T + B) * 2 ^ F + (sg9 u T F - 2 ^ F)) := by
  rw [show f_X1_highestBit (lN u) = nI T from hb_eq hu h1 h2 63 hT (by omega), exp_eq hT hB hF, cut_eq hu hT hF h1 h2 hF1, one_eq (by omega), lN_subI (sg_lo h1 h2), lN_add]
/-- the reference's -/
theorem near_eq {u T F B : Nat} (hu : u < 2 ^ 64) (hT : T ≤ 63) (hF1 : 1 ≤ F) (hF : F ≤ 52) (hB : B ≤ 1023) (h1 : 2 ^ T ≤ u) (h2 : u < 2 ^ (T + 1)) :
    f_X2_nearest (lN u) (nI F) (nI B) = lN ((T + B) * 2 ^ F + (sg9 u T F - 2 ^ F)) := by
  have hlo := sg_lo (F := F) h1 h2
  have hp := Nat.two_pow_pos T
  unfold f_X2_nearest
  rw [if_neg (fun z => absurd ((cmp0 hu).mp z) (by omega)), show f_X2_top (lN u) = nI T from tp_eq hu h1 h2 63 hT (by omega)]
  rw [exp_eq hT hB hF, one_eq (F := F) (by omega)]
  have c : nI F < nI T ↔ ¬ T ≤ F := by rw [nI_ltI (by omega) (by omega)]; omega
  unfold sg9 at hlo ⊢
  by_cases h : T ≤ F
  · rw [if_neg (fun z => (c.mp z) h), if_pos h, nI_subI h, wb_shl _ (by omega), lN_add, lN_subI (by rw [if_pos h] at hlo; omega)]
    exact congrArg lN (by rw [if_pos h] at hlo; omega)
  · rw [if_pos (c.mpr h), if_neg h, nI_subI (show F ≤ T by omega), wb_shr hu (by omega), wb_shl _ (by omega)]
    rw [if_neg h] at hlo
    have e1 : u / 2 ^ (T - F) * 2 ^ (T - F) ≤ u := Nat.div_mul_le_self _ _
    have e2 : u - u / 2 ^ (T - F) * 2 ^ (T - F) = u % 2 ^ (T - F) := by
      have := Nat.div_add_mod u (2 ^ (T - F))
      rw [Nat.mul_comm] at this
      omega
    have e3 : nI (T - F) - (1 : Int32) = nI (T - F - 1) := nI_subI (b := 1) (by omega)
    rw [lN_subI e1, e2, e3, one_eq (F := T - F - 1) (by omega), wb_a1 (Nat.lt_of_le_of_lt (Nat.div_le_self _ _) hu), lN_1, lN_add, lN_add]
    have hp1 := wb_lt2 (show T - F < 63 by omega)
    have hp2 := wb_lt2 (show T - F - 1 < 63 by omega)
    have hr : u % 2 ^ (T - F) < 2 ^ (T - F) := Nat.mod_lt _ (Nat.two_pow_pos _)
    have c2 : 0 < lg_cmp (lN (u % 2 ^ (T - F))) (lN (2 ^ (T - F - 1))) ↔ 2 ^ (T - F - 1) < u % 2 ^ (T - F) := (lg_cmp_gt _ _).trans (lLt (by omega) (by omega))
    have c3 : lg_cmp (lN (u % 2 ^ (T - F))) (lN (2 ^ (T - F - 1))) = 0 ↔ u % 2 ^ (T - F) = 2 ^ (T - F - 1) := (lg_cmp_eq _ _).trans (lE (by omega) (by omega))
    have c4 : lg_cmp (lN (u / 2 ^ (T - F) % 2)) 1 = 0 ↔ u / 2 ^ (T - F) % 2 = 1 := (lg_cmp_eq _ _).trans (lE (b := 1) (by omega) (by decide))
    have lo2 : 2 ^ F ≤ u / 2 ^ (T - F) := (Nat.le_div_iff_mul_le (Nat.two_pow_pos _)).mpr (by rw [← wb_pw (a := F) (b := T) (by omega)]; exact h1)
    by_cases d2 : 2 ^ (T - F - 1) < u % 2 ^ (T - F)
    · rw [if_pos (c2.mpr d2), if_pos (Or.inl d2), lN_subI (by omega)]
      exact congrArg lN (by omega)
    · rw [if_neg (fun z => d2 (c2.mp z))]
      by_cases d3 : u % 2 ^ (T - F) = 2 ^ (T - F - 1)
      · rw [if_pos (c3.mpr d3)]
        by_cases d4 : u / 2 ^ (T - F) % 2 = 1
        · rw [if_pos (c4.mpr d4), if_pos (Or.inr ⟨d3, d4⟩), lN_subI (by omega)]
          exact congrArg lN (by omega)
        · rw [if_neg (fun z => d4 (c4.mp z)), if_neg (show ¬ (2 ^ (T - F - 1) < u % 2 ^ (T - F) ∨ (u % 2 ^ (T - F) = 2 ^ (T - F - 1) ∧ u / 2 ^ (T - F) % 2 = 1)) by omega), lN_subI (by omega)]
          exact congrArg lN (by omega)
      · rw [if_neg (fun z => d3 (c3.mp z)), if_neg (show ¬ (2 ^ (T - F - 1) < u % 2 ^ (T - F) ∨ (u % 2 ^ (T - F) = 2 ^ (T - F - 1) ∧ u / 2 ^ (T - F) % 2 = 1)) by omega), lN_subI (by omega)]
        exact congrArg lN (by omega)
