/-! sizes, signs, sorts -/
theorem size_eq {k : Int32} (hk : kOK k) (v : Int64) : f_X1_sizeOf v k = f_X2_sizeOf v k := by
  rcases hk with rfl | rfl | rfl | rfl
  · rfl
  · unfold f_X1_sizeOf f_X2_sizeOf
    rw [if_pos (show f_X1_isReal 1 = 0 by decide), if_neg (show ¬ (1 : Int32) = 0 by decide), if_neg (show ¬ (1 : Int32) = 0 by decide), if_pos (show (1 : Int32) = 1 from rfl)]
    by_cases h : 0 ≤ lg_cmp v 0
    · rw [if_pos h, if_pos h]
    · rw [if_neg h, if_neg h]
      by_cases h2 : lg_cmp v (-9223372036854775808) = 0
      · rw [if_pos h2]
        rw [lg_cmp_eq] at h2
        rw [h2]
        decide
      · rw [if_neg h2]
  · unfold f_X1_sizeOf f_X2_sizeOf
    rw [if_neg (show ¬ f_X1_isReal 2 = 0 by decide), if_neg (show ¬ (2 : Int32) = 0 by decide), if_neg (show ¬ (2 : Int32) = 1 by decide), if_pos (show (2 : Int32) = 2 from rfl), show f_X1_signBits 2 ^^^ (-1 : Int64) = 2147483647 by decide]
  · unfold f_X1_sizeOf f_X2_sizeOf
    rw [if_neg (show ¬ f_X1_isReal 3 = 0 by decide), if_neg (show ¬ (3 : Int32) = 0 by decide), if_neg (show ¬ (3 : Int32) = 1 by decide), if_neg (show ¬ (3 : Int32) = 2 by decide), show f_X1_signBits 3 ^^^ (-1 : Int64) = 9223372036854775807 by decide]
theorem size2 (v : Int64) : f_X2_sizeOf v 2 = v &&& 2147483647 := by
  unfold f_X2_sizeOf
  rw [if_neg (show ¬ (2 : Int32) = 0 by decide), if_neg (show ¬ (2 : Int32) = 1 by decide), if_pos (show (2 : Int32) = 2 from rfl)]
theorem size3 (v : Int64) : f_X2_sizeOf v 3 = v &&& 9223372036854775807 := by
  unfold f_X2_sizeOf
  rw [if_neg (show ¬ (3 : Int32) = 0 by decide), if_neg (show ¬ (3 : Int32) = 1 by decide), if_neg (show ¬ (3 : Int32) = 2 by decide)]
theorem G2_l {r : Nat} (hr : r ≤ 2139095040) (k : Int32) : G2 k (lN r) := fun _ => ⟨0, r, by decide, hr, by rw [show 0 * (2 ^ 64 - 2 ^ 31) + r = r by omega]⟩
theorem size_G2 {k : Int32} {v : Int64} (h : G2 k v) : G2 k (f_X2_sizeOf v k) := by
  intro e
  subst e
  obtain ⟨s, r, hs, hr, rfl⟩ := h rfl
  rw [size2, g2_l hs hr]
  exact G2_l hr 2 rfl
theorem or31 {r : Nat} (hr : r < 2 ^ 31) : lN r ||| (-2147483648 : Int64) = lN (1 * (2 ^ 64 - 2 ^ 31) + r) := by
  have h := g_or' (k := 31) (p := 2 ^ 31) (a := r) (b := 2 ^ 33 - 1) rfl hr (by omega)
  rw [show r + (2 ^ 33 - 1) * 2 ^ 31 = 1 * (2 ^ 64 - 2 ^ 31) + r by omega] at h
  exact h
theorem sub31 {r : Nat} (hr : r < 2 ^ 31) : lN r - (2147483648 : Int64) = lN (1 * (2 ^ 64 - 2 ^ 31) + r) := by
  apply wb_inj
  rw [Int64.toBitVec_sub, wb_tb, wb_tb]
  apply BitVec.eq_of_toNat_eq
  rw [BitVec.toNat_sub, BitVec.toNat_ofNat, BitVec.toNat_ofNat, show (2147483648 : Int64).toBitVec.toNat = 2147483648 by decide]
  omega
theorem shown_eq {k : Int32} (hk : k = 2 ∨ k = 3) (v : Int64) : f_X1_shown v k = f_X2_shown v k := by
  have hs : f_X1_sizeOf v k = v &&& (if k = 2 then 2147483647 else 9223372036854775807) := by
    rcases hk with rfl | rfl
    · rw [size_eq (Or.inr (Or.inr (Or.inl rfl))), size2]; rfl
    · rw [size_eq (Or.inr (Or.inr (Or.inr rfl))), size3]; rfl
  unfold f_X1_shown f_X2_shown f_X2_isZero
  rw [hs]
  rcases hk with rfl | rfl
  · rw [if_pos (show (2 : Int32) = 2 from rfl), if_pos (show (2 : Int32) = 2 from rfl), if_pos (show (2 : Int32) = 2 from rfl), if_pos (show (2 : Int32) = 2 from rfl)]
    by_cases h : lg_cmp (v &&& 2147483647) 0 = 0
    · rw [if_pos h, if_pos h, if_neg (by decide)]
    · rw [if_neg h, if_neg h, if_pos rfl]
      by_cases h2 : 0 ≤ lg_cmp v 0
      · rw [if_pos h2, if_pos h2]; decide
      · rw [if_neg h2, if_neg h2]; decide
  · rw [if_neg (show ¬ (3 : Int32) = 2 by decide), if_neg (show ¬ (3 : Int32) = 2 by decide), if_neg (show ¬ (3 : Int32) = 2 by decide), if_neg (show ¬ (3 : Int32) = 2 by decide)]
    by_cases h : lg_cmp (v &&& 9223372036854775807) 0 = 0
    · rw [if_pos h, if_pos h, if_neg (by decide)]
    · rw [if_neg h, if_neg h, if_pos rfl]
      by_cases h2 : 0 ≤ lg_cmp v 0
      · rw [if_pos h2, if_pos h2]; decide
      · rw [if_neg h2, if_neg h2]; decide
theorem shown_G2 {k : Int32} {v : Int64} (h : G2 k v) : G2 k (f_X2_shown v k) := by
  intro e
  subst e
  unfold f_X2_shown
  rw [if_pos (show (2 : Int32) = 2 from rfl)]
  split
  · split
    · exact ⟨0, 1065353216, by decide, by decide, by decide⟩
    · exact ⟨1, 1065353216, by decide, by decide, by decide⟩
  · exact h rfl
theorem like_eq {k : Int32} (hk : k = 2 ∨ k = 3) {v o : Int64} (hv : G2 k v) : (if 0 ≤ lg_cmp o 0 then f_X1_withSign (f_X1_sizeOf v k) 0 k else f_X1_withSign (f_X1_sizeOf v k) 1 k) = f_X2_like v o k := by
  have hk4 : kOK k := by rcases hk with rfl | rfl; exact Or.inr (Or.inr (Or.inl rfl)); exact Or.inr (Or.inr (Or.inr rfl))
  rw [size_eq hk4]
  unfold f_X2_like f_X1_withSign
  rw [if_pos (show (0 : Int32) = 0 from rfl), if_neg (show ¬ (1 : Int32) = 0 by decide)]
  by_cases h : (0 : Int64) ≤ o
  · rw [if_pos ((lg_cmp_ge _ _).mpr h), if_neg (fun z => (lgL _ _).mp z h)]
  · rw [if_neg (fun z => h ((lg_cmp_ge _ _).mp z)), if_pos ((lgL _ _).mpr h)]
    rcases hk with rfl | rfl
    · rw [if_pos (show (2 : Int32) = 2 from rfl)]
      obtain ⟨s, r, hs, hr, rfl⟩ := hv rfl
      rw [size2, g2_l hs hr, show f_X1_signBits 2 = -2147483648 by decide, or31 (by omega), sub31 (by omega)]
    · rw [if_neg (show ¬ (3 : Int32) = 2 by decide), show f_X1_signBits 3 = -9223372036854775808 by decide]
theorem like_G2 {k : Int32} {v o : Int64} (h : G2 k v) : G2 k (f_X2_like v o k) := by
  intro e
  subst e
  obtain ⟨s, r, hs, hr, rfl⟩ := h rfl
  unfold f_X2_like
  rw [size2, g2_l hs hr, if_pos (show (2 : Int32) = 2 from rfl)]
  split
  · exact ⟨1, r, by decide, hr, sub31 (by omega)⟩
  · exact G2_l hr 2 rfl
theorem has01 (k s : Int32) : f_X2_has k s = 0 ∨ f_X2_has k s = 1 := by
  unfold f_X2_has
  repeat' split
  all_goals first | exact Or.inl rfl | exact Or.inr rfl
theorem sort2 {k : Int32} (hk : kOK k) (s w : Int32) : e_X1_needSort k s w = 2 ↔ (f_X2_has k s = 0 ∨ ¬ f_X2_wants s = w) := by
  have hw : f_X1_wantsOperand s = f_X2_wants s := rfl
  have hl : ∀ a : Int32, s ≤ a ↔ ¬ a < s := fun a => Int32.not_lt.symm
  unfold e_X1_needSort f_X2_has
  rw [hw]
  rcases hk with rfl | rfl | rfl | rfl
  all_goals
    simp only [show f_X1_lastSort 0 = 2 by decide, show f_X1_lastSort 1 = 2 by decide, show f_X1_lastSort 2 = 4 by decide, show f_X1_lastSort 3 = 7 by decide, show ¬ (2 : Int32) ≤ 0 by decide, show ¬ (2 : Int32) ≤ 1 by decide, show (2 : Int32) ≤ 2 by decide, show (2 : Int32) ≤ 3 by decide, show ¬ (3 : Int32) = 2 by decide, if_true, if_false, hl]
    by_cases h1 : s < 0
    · simp [h1]
    · simp only [h1, if_false]
      split
      · split <;> simp_all
      · simp_all
/-- the reference's step, by its sort and operand -/
def fdn (s : Int32) (v o : Int64) (k : Int32) : Int64 := if s = 0 then f_X2_sizeOf v k else if s = 1 then (if f_X2_isAbove o v k = 0 then v else o) else if s = 2 then (if f_X2_isAbove v o k = 0 then v else o) else if s = 3 then f_X2_shown v k else if s = 4 then f_X2_like v o k else f_X2_wholeOf v s
theorem sort_of {k s : Int32} (hk : kOK k) (h : ¬ f_X2_has k s = 0) : s = 0 ∨ s = 1 ∨ s = 2 ∨ ((k = 2 ∨ k = 3) ∧ (s = 3 ∨ s = 4)) ∨ (k = 3 ∧ (s = 5 ∨ s = 6 ∨ s = 7)) := by
  have h0 : (0 : Int32).toInt = 0 := by decide
  have h2 : (2 : Int32).toInt = 2 := by decide
  have h4 : (4 : Int32).toInt = 4 := by decide
  have h7 : (7 : Int32).toInt = 7 := by decide
  have hv : ∀ n : Int32, s.toInt = n.toInt → s = n := fun n e => Int32.toInt_inj.mp e
  have e0 := hv 0
  have e1 := hv 1
  have e2 := hv 2
  have e3 := hv 3
  have e4 := hv 4
  have e5 := hv 5
  have e6 := hv 6
  have e7 := hv 7
  rw [show (0 : Int32).toInt = 0 by decide] at e0
  rw [show (1 : Int32).toInt = 1 by decide] at e1
  rw [show (2 : Int32).toInt = 2 by decide] at e2
  rw [show (3 : Int32).toInt = 3 by decide] at e3
  rw [show (4 : Int32).toInt = 4 by decide] at e4
  rw [show (5 : Int32).toInt = 5 by decide] at e5
  rw [show (6 : Int32).toInt = 6 by decide] at e6
  rw [show (7 : Int32).toInt = 7 by decide] at e7
  unfold f_X2_has at h
  by_cases h1 : s < 0
  · rw [if_pos h1] at h; exact absurd rfl h
  · rw [if_neg h1] at h
    rw [Int32.lt_iff_toInt_lt, h0] at h1
    have pick : ∀ m : Int, s.toInt ≤ m → m ≤ 7 → s = 0 ∨ s = 1 ∨ s = 2 ∨ (3 ≤ m ∧ (s = 3)) ∨ (4 ≤ m ∧ s = 4) ∨ (5 ≤ m ∧ (s = 5 ∨ s = 6 ∨ s = 7)) := by
      intro m hm hm7
      rcases (show s.toInt = 0 ∨ s.toInt = 1 ∨ s.toInt = 2 ∨ s.toInt = 3 ∨ s.toInt = 4 ∨ s.toInt = 5 ∨ s.toInt = 6 ∨ s.toInt = 7 by omega) with z | z | z | z | z | z | z | z
      · exact Or.inl (e0 z)
      · exact Or.inr (Or.inl (e1 z))
      · exact Or.inr (Or.inr (Or.inl (e2 z)))
      · exact Or.inr (Or.inr (Or.inr (Or.inl ⟨by omega, e3 z⟩)))
      · exact Or.inr (Or.inr (Or.inr (Or.inr (Or.inl ⟨by omega, e4 z⟩))))
      · exact Or.inr (Or.inr (Or.inr (Or.inr (Or.inr ⟨by omega, Or.inl (e5 z)⟩))))
      · exact Or.inr (Or.inr (Or.inr (Or.inr (Or.inr ⟨by omega, Or.inr (Or.inl (e6 z))⟩))))
      · exact Or.inr (Or.inr (Or.inr (Or.inr (Or.inr ⟨by omega, Or.inr (Or.inr (e7 z))⟩))))
    have small : ∀ c : Int32, ¬ (if c < s then (0 : Int32) else 1) = 0 → s.toInt ≤ c.toInt := by
      intro c hc
      by_cases z : c < s
      · rw [if_pos z] at hc; exact absurd rfl hc
      · rw [Int32.lt_iff_toInt_lt] at z; omega
    rcases hk with rfl | rfl | rfl | rfl
    · rw [if_neg (by decide)] at h
      rcases pick 2 (by have := small _ h; omega) (by decide) with z | z | z | ⟨z, -⟩ | ⟨z, -⟩ | ⟨z, -⟩
      · exact Or.inl z
      · exact Or.inr (Or.inl z)
      · exact Or.inr (Or.inr (Or.inl z))
      · omega
      · omega
      · omega
    · rw [if_neg (by decide)] at h
      rcases pick 2 (by have := small _ h; omega) (by decide) with z | z | z | ⟨z, -⟩ | ⟨z, -⟩ | ⟨z, -⟩
      · exact Or.inl z
      · exact Or.inr (Or.inl z)
      · exact Or.inr (Or.inr (Or.inl z))
      · omega
      · omega
      · omega
    · rw [if_pos (by decide), if_pos rfl] at h
      rcases pick 4 (by have := small _ h; omega) (by decide) with z | z | z | ⟨-, z⟩ | ⟨-, z⟩ | ⟨z, -⟩
      · exact Or.inl z
      · exact Or.inr (Or.inl z)
      · exact Or.inr (Or.inr (Or.inl z))
      · exact Or.inr (Or.inr (Or.inr (Or.inl ⟨Or.inl rfl, Or.inl z⟩)))
      · exact Or.inr (Or.inr (Or.inr (Or.inl ⟨Or.inl rfl, Or.inr z⟩)))
      · omega
    · rw [if_pos (by decide), if_neg (by decide)] at h
      rcases pick 7 (by have := small _ h; omega) (by decide) with z | z | z | ⟨-, z⟩ | ⟨-, z⟩ | ⟨-, z⟩
      · exact Or.inl z
      · exact Or.inr (Or.inl z)
      · exact Or.inr (Or.inr (Or.inl z))
      · exact Or.inr (Or.inr (Or.inr (Or.inl ⟨Or.inr rfl, Or.inl z⟩)))
      · exact Or.inr (Or.inr (Or.inr (Or.inl ⟨Or.inr rfl, Or.inr z⟩)))
      · exact Or.inr (Or.inr (Or.inr (Or.inr ⟨rfl, z⟩)))
