/-! kinds, good bits, the order -/
def kOK (k : Int32) : Prop := k = 0 ∨ k = 1 ∨ k = 2 ∨ k = 3
theorem lgG (x y : Int64) : (0 < lg_cmp x y) ↔ ¬ x ≤ y := by rw [lg_cmp_gt]; exact Int64.not_le.symm
theorem lgL (x y : Int64) : (lg_cmp x y < 0) ↔ ¬ y ≤ x := by rw [lg_cmp_lt]; exact Int64.not_le.symm
theorem good_eq {k : Int32} (hk : kOK k) (v : Int64) : f_X1_isGood k v = f_X2_isGood v k := by
  rcases hk with rfl | rfl | rfl | rfl <;> simp [f_X1_isGood, f_X2_isGood, f_X2_isNone, lgG, lgL, lg_cmp_le]
  all_goals (repeat' split) <;> simp_all
  all_goals (rename_i h1 h2; first | exact absurd h2 (Int64.not_le.mpr h1) | exact absurd h1 (Int64.not_le.mpr h2))
/-- a SINGLE's bits, as good ones are -/
def G2 (k : Int32) (v : Int64) : Prop := k = 2 → ∃ s r : Nat, s < 2 ∧ r ≤ 2139095040 ∧ v = lN (s * (2 ^ 64 - 2 ^ 31) + r)
theorem G2_n {k : Int32} {v : Int64} (h : ¬ k = 2) : G2 k v := fun e => absurd e h
theorem g2_b {s r : Nat} (hs : s < 2) (hr : r ≤ 2139095040) : s * (2 ^ 64 - 2 ^ 31) + r < 2 ^ 64 := by
  rcases (show s = 0 ∨ s = 1 by omega) with rfl | rfl <;> omega
theorem g2_r {s r : Nat} (hs : s < 2) : s * (2 ^ 64 - 2 ^ 31) + r = s * 2 ^ 63 + (s * (2 ^ 63 - 2 ^ 31) + r) := by
  rcases (show s = 0 ∨ s = 1 by omega) with rfl | rfl <;> omega
theorem g2_n {s r : Nat} (hs : s < 2) (hr : r ≤ 2139095040) : s * (2 ^ 63 - 2 ^ 31) + r < 2 ^ 63 := by
  rcases (show s = 0 ∨ s = 1 by omega) with rfl | rfl <;> omega
theorem g2_l {s r : Nat} (hs : s < 2) (hr : r ≤ 2139095040) : lN (s * (2 ^ 64 - 2 ^ 31) + r) &&& (2147483647 : Int64) = lN r := by
  rw [r_l31 (g2_b hs hr)]
  congr 1
  rcases (show s = 0 ∨ s = 1 by omega) with rfl | rfl <;> omega
theorem g2_0 {s r : Nat} (hs : s < 2) (hr : r ≤ 2139095040) : (0 : Int64) ≤ lN (s * (2 ^ 64 - 2 ^ 31) + r) ↔ s = 0 := by
  rw [g2_r hs]; exact r_nn hs (g2_n hs hr)
theorem good_G2 {k : Int32} {v : Int64} (h : ¬ f_X1_isGood k v = 0) : G2 k v := by
  intro e
  subst e
  unfold f_X1_isGood at h
  rw [if_neg (by decide), if_neg (by decide)] at h
  by_cases h1 : lg_cmp v (-2147483648) < 0
  · rw [if_pos h1] at h; exact absurd rfl h
  · rw [if_neg h1] at h
    by_cases h2 : lg_cmp v 2147483647 ≤ 0
    · rw [if_pos h2, if_neg (by decide)] at h
      by_cases h3 : 0 < lg_cmp (v &&& 2147483647) 2139095040
      · rw [if_pos h3] at h; exact absurd rfl h
      · rw [lgL, Classical.not_not] at h1
        rw [lg_cmp_le] at h2
        rw [lgG, Classical.not_not] at h3
        obtain ⟨s, n, hs, hn, rfl⟩ := i64_rep v
        rw [Int64.le_iff_toInt_le, lN_ti (s_lt hs hn)] at h1 h2
        rw [show (-2147483648 : Int64).toInt = -2147483648 by decide] at h1
        rw [show (2147483647 : Int64).toInt = 2147483647 by decide] at h2
        rw [r_l31 (s_lt hs hn)] at h3
        have h4 := (lLe (a := (s * 2 ^ 63 + n) % 2 ^ 31) (b := 2139095040) (by omega) (by decide)).mp h3
        rcases (show s = 0 ∨ s = 1 by omega) with rfl | rfl
        · rw [if_pos (by omega)] at h1 h2
          exact ⟨0, n, by decide, by omega, by rw [show 0 * (2 ^ 64 - 2 ^ 31) + n = 0 * 2 ^ 63 + n by omega]⟩
        · rw [if_neg (by omega)] at h1 h2
          exact ⟨1, n - (2 ^ 63 - 2 ^ 31), by decide, by omega, by rw [show 1 * (2 ^ 64 - 2 ^ 31) + (n - (2 ^ 63 - 2 ^ 31)) = 1 * 2 ^ 63 + n by omega]⟩
    · rw [if_neg h2] at h; exact absurd rfl h
theorem x_low {c m k : Nat} (hm : m < 2 ^ k) : (2 ^ k * c + m) ^^^ (2 ^ k - 1) = 2 ^ k * c + (2 ^ k - (m + 1)) := by
  apply Nat.eq_of_testBit_eq
  intro i
  have h2 : 2 ^ k - (m + 1) < 2 ^ k := by omega
  rw [Nat.testBit_xor, Nat.testBit_two_pow_mul_add _ hm, Nat.testBit_two_pow_mul_add _ h2, Nat.testBit_two_pow_sub_one, Nat.testBit_two_pow_sub_succ hm]
  by_cases h : i < k
  · simp [h]
  · simp [h]
theorem x_63 {n : Nat} (hn : n < 2 ^ 63) : lN (1 * 2 ^ 63 + n) ^^^ (9223372036854775807 : Int64) = lN (1 * 2 ^ 63 + (2 ^ 63 - (n + 1))) := by
  show lN (1 * 2 ^ 63 + n) ^^^ lN (2 ^ 63 - 1) = _
  rw [lN_xor, show 1 * 2 ^ 63 + n = 2 ^ 63 * 1 + n by omega, x_low hn, show 2 ^ 63 * 1 + (2 ^ 63 - (n + 1)) = 1 * 2 ^ 63 + (2 ^ 63 - (n + 1)) by omega]
theorem x_31 {r : Nat} (hr : r < 2 ^ 31) : lN (1 * (2 ^ 64 - 2 ^ 31) + r) ^^^ (2147483647 : Int64) = lN (1 * 2 ^ 63 + (2 ^ 63 - (r + 1))) := by
  show lN (1 * (2 ^ 64 - 2 ^ 31) + r) ^^^ lN (2 ^ 31 - 1) = _
  rw [lN_xor, show 1 * (2 ^ 64 - 2 ^ 31) + r = 2 ^ 31 * (2 ^ 33 - 1) + r by omega, x_low hr]
  congr 1
  omega
theorem key_s0 {k : Int32} {s n : Nat} (hs : s < 2) (hn : n < 2 ^ 63) (hk : kOK k) : (f_X1_orderKey (lN (s * 2 ^ 63 + n)) k).toInt = if s = 0 then (n : Int) else if k = 2 ∨ k = 3 then -1 - (n : Int) else (n : Int) - 2 ^ 63 := by
  have e0 : 0 ≤ lg_cmp (lN (s * 2 ^ 63 + n)) 0 ↔ s = 0 := (lg_cmp_ge _ _).trans (r_nn hs hn)
  unfold f_X1_orderKey
  rcases (show s = 0 ∨ s = 1 by omega) with rfl | rfl
  · rw [if_pos rfl]
    have h9 : (lN (0 * 2 ^ 63 + n)).toInt = (n : Int) := by rw [show 0 * 2 ^ 63 + n = n by omega]; exact pf_lI hn
    rw [if_pos (e0.mpr rfl)]
    split
    · exact h9
    · exact h9
  · have e1 : ¬ 0 ≤ lg_cmp (lN (1 * 2 ^ 63 + n)) 0 := fun h => absurd (e0.mp h) (by decide)
    rw [if_neg (show ¬ (1 : Nat) = 0 by decide), if_neg e1]
    have h8 : (lN (1 * 2 ^ 63 + n)).toInt = (n : Int) - 2 ^ 63 := by rw [lN_ti (s_lt hs hn), if_neg (by omega)]; omega
    have h9 : (lN (1 * 2 ^ 63 + n) ^^^ (9223372036854775807 : Int64)).toInt = -1 - (n : Int) := by
      rw [x_63 hn, lN_ti (by omega), if_neg (by omega)]; omega
    rcases hk with rfl | rfl | rfl | rfl
    · rw [if_pos (by decide), if_neg (by decide)]; exact h8
    · rw [if_pos (by decide), if_neg (by decide)]; exact h8
    · rw [if_neg (by decide), if_pos (by decide)]; exact h9
    · rw [if_neg (by decide), if_pos (by decide)]; exact h9
theorem key_inj {k : Int32} (hk : kOK k) {a b : Int64} (h : f_X1_orderKey a k = f_X1_orderKey b k) : a = b := by
  obtain ⟨s, n, hs, hn, rfl⟩ := i64_rep a
  obtain ⟨t, q, ht, hq, rfl⟩ := i64_rep b
  have h1 := congrArg Int64.toInt h
  rw [key_s0 hs hn hk, key_s0 ht hq hk] at h1
  rcases (show s = 0 ∨ s = 1 by omega) with rfl | rfl <;> rcases (show t = 0 ∨ t = 1 by omega) with rfl | rfl
  · rw [if_pos rfl, if_pos rfl] at h1; congr 1; omega
  · rw [if_pos rfl, if_neg (show ¬ (1 : Nat) = 0 by decide)] at h1; split at h1 <;> omega
  · rw [if_neg (show ¬ (1 : Nat) = 0 by decide), if_pos rfl] at h1; split at h1 <;> omega
  · rw [if_neg (show ¬ (1 : Nat) = 0 by decide), if_neg (show ¬ (1 : Nat) = 0 by decide)] at h1
    split at h1
    · congr 1; omega
    · congr 1; omega
theorem above0 (a b : Int64) (k : Int32) : f_X1_isAbove a b k = 0 ↔ (f_X1_orderKey a k).toInt ≤ (f_X1_orderKey b k).toInt := by
  have h : lg_cmp (f_X1_orderKey a k) (f_X1_orderKey b k) ≤ 0 ↔ (f_X1_orderKey a k).toInt ≤ (f_X1_orderKey b k).toInt := (lg_cmp_le _ _).trans Int64.le_iff_toInt_le
  rw [← h]
  unfold f_X1_isAbove
  split
  · exact ⟨fun _ => by assumption, fun _ => rfl⟩
  · exact ⟨fun h => absurd h (by decide), fun h => absurd h (by assumption)⟩
theorem aboveM0 (a b : Int64) (k : Int32) : f_X2_isAbove a b k = 0 ↔ (f_X2_keyOf a k).toInt ≤ (f_X2_keyOf b k).toInt := by
  have h : lg_cmp (f_X2_keyOf a k) (f_X2_keyOf b k) ≤ 0 ↔ (f_X2_keyOf a k).toInt ≤ (f_X2_keyOf b k).toInt := (lg_cmp_le _ _).trans Int64.le_iff_toInt_le
  rw [← h]
  unfold f_X2_isAbove
  split
  · exact ⟨fun _ => by assumption, fun _ => rfl⟩
  · exact ⟨fun h => absurd h (by decide), fun h => absurd h (by assumption)⟩
theorem above01 (a b : Int64) (k : Int32) : f_X1_isAbove a b k = 0 ∨ f_X1_isAbove a b k = 1 := by
  unfold f_X1_isAbove
  split
  · exact Or.inl rfl
  · exact Or.inr rfl
theorem aboveM01 (a b : Int64) (k : Int32) : f_X2_isAbove a b k = 0 ∨ f_X2_isAbove a b k = 1 := by
  unfold f_X2_isAbove
  split
  · exact Or.inl rfl
  · exact Or.inr rfl
theorem above_tie {a b : Int64} {k : Int32} (hk : kOK k) (h1 : f_X1_isAbove a b k = 0) (h2 : f_X1_isAbove b a k = 0) : a = b := by
  rw [above0] at h1 h2
  exact key_inj hk (Int64.toInt_inj.mp (by omega))
theorem above_total {a b : Int64} {k : Int32} (h1 : ¬ f_X1_isAbove a b k = 0) : f_X1_isAbove b a k = 0 := by
  rw [above0] at h1 ⊢
  omega
theorem above_eq {k : Int32} (hk : kOK k) {a b : Int64} (ha : G2 k a) (hb : G2 k b) : f_X1_isAbove a b k = f_X2_isAbove a b k := by
  have key : ((f_X1_orderKey a k).toInt ≤ (f_X1_orderKey b k).toInt) ↔ ((f_X2_keyOf a k).toInt ≤ (f_X2_keyOf b k).toInt) := by
    have same : ∀ v : Int64, ¬ k = 2 → f_X1_orderKey v k = f_X2_keyOf v k := by
      intro v h2
      rcases hk with rfl | rfl | rfl | rfl
      · rfl
      · rfl
      · exact absurd rfl h2
      · unfold f_X1_orderKey f_X2_keyOf
        rw [if_neg (show ¬ f_X1_isReal 3 = 0 by decide), if_neg (show ¬ (3 : Int32) < 2 by decide), if_neg (show ¬ (3 : Int32) = 2 by decide)]
        by_cases h : (0 : Int64) ≤ v
        · rw [if_pos ((lg_cmp_ge _ _).mpr h), if_neg (fun z => (lgL _ _).mp z h)]
        · rw [if_neg (fun z => h ((lg_cmp_ge _ _).mp z)), if_pos ((lgL _ _).mpr h)]
    by_cases h2 : k = 2
    · subst h2
      obtain ⟨s, r, hs, hr, rfl⟩ := ha rfl
      obtain ⟨t, q, ht, hq, rfl⟩ := hb rfl
      have k2 : ∀ s r : Nat, s < 2 → r ≤ 2139095040 → (f_X2_keyOf (lN (s * (2 ^ 64 - 2 ^ 31) + r)) 2).toInt = if s = 0 then (r : Int) else -1 - (r : Int) := by
        intro s r hs hr
        unfold f_X2_keyOf
        rw [if_neg (show ¬ (2 : Int32) < 2 by decide), if_pos (show (2 : Int32) = 2 from rfl)]
        rcases (show s = 0 ∨ s = 1 by omega) with rfl | rfl
        · rw [if_neg (fun z => (lgL _ _).mp z ((g2_0 hs hr).mpr rfl)), if_pos rfl, show 0 * (2 ^ 64 - 2 ^ 31) + r = r by omega]
          exact pf_lI (by omega)
        · rw [if_pos ((lgL _ _).mpr (fun z => absurd ((g2_0 hs hr).mp z) (by decide))), if_neg (show ¬ (1 : Nat) = 0 by decide), x_31 (by omega), lN_ti (by omega), if_neg (by omega)]
          omega
      rw [k2 s r hs hr, k2 t q ht hq, g2_r hs, g2_r ht, key_s0 hs (g2_n hs hr) hk, key_s0 ht (g2_n ht hq) hk]
      rw [if_pos (show (2 : Int32) = 2 ∨ (2 : Int32) = 3 from Or.inl rfl), if_pos (show (2 : Int32) = 2 ∨ (2 : Int32) = 3 from Or.inl rfl)]
      rcases (show s = 0 ∨ s = 1 by omega) with rfl | rfl <;> rcases (show t = 0 ∨ t = 1 by omega) with rfl | rfl
      · rw [if_pos rfl, if_pos rfl, if_pos rfl, if_pos rfl]; omega
      · rw [if_pos rfl, if_neg (show ¬ (1 : Nat) = 0 by decide), if_pos rfl, if_neg (show ¬ (1 : Nat) = 0 by decide)]; omega
      · rw [if_neg (show ¬ (1 : Nat) = 0 by decide), if_pos rfl, if_neg (show ¬ (1 : Nat) = 0 by decide), if_pos rfl]; omega
      · rw [if_neg (show ¬ (1 : Nat) = 0 by decide), if_neg (show ¬ (1 : Nat) = 0 by decide)]; omega
    · rw [same a h2, same b h2]
  rcases above01 a b k with h | h <;> rcases aboveM01 a b k with h' | h'
  · rw [h, h']
  · exact absurd ((aboveM0 a b k).mpr (key.mp ((above0 a b k).mp h))) (by rw [h']; decide)
  · exact absurd ((above0 a b k).mpr (key.mpr ((aboveM0 a b k).mp h'))) (by rw [h]; decide)
  · rw [h, h']
