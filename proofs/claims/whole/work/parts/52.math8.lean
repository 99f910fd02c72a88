/-! handing on: the class's and the reference's -/
theorem sz_rep {v : Int64} (h0 : ¬ v = 0) : ∃ u : Nat, 0 < u ∧ u < 2 ^ 64 ∧ (if 0 ≤ lg_cmp v 0 then v else -v) = lN u := by
  obtain ⟨m, hm, rfl⟩ := wb_of v
  have hm0 : m ≠ 0 := fun z => h0 (by rw [z]; rfl)
  split
  · exact ⟨m, by omega, hm, rfl⟩
  · exact ⟨2 ^ 64 - m, by omega, by omega, lN_negI (by omega) hm⟩
theorem wS0 (a : Int64) (k : Int32) : f_X1_withSign a 0 k = a := by
  unfold f_X1_withSign
  rw [if_pos rfl]
theorem wS1 (a : Int64) (k : Int32) : f_X1_withSign a 1 k = a ||| f_X1_signBits k := by
  unfold f_X1_withSign
  rw [if_neg (by decide)]
theorem near0 (F B : Int32) : f_X2_nearest 0 F B = 0 := by
  unfold f_X2_nearest
  rw [if_pos ((lg_cmp_eq _ _).mpr rfl)]
/-- a number's size as a real, of both -/
theorem size_real {u F B : Nat} (h0 : 0 < u) (hu : u < 2 ^ 64) (hF1 : 1 ≤ F) (hF : F ≤ 52) (hB : B ≤ 1023) :
    ∃ w : Nat, ((((f_X1_highestBit (lN u)) + nI B).toInt64) <<< ((nI F).toInt64 &&& 63)) + ((f_X1_cutTo (lN u) ((f_X1_highestBit (lN u)) - nI F)) - ((1 : Int64) <<< ((nI F).toInt64 &&& 63))) = lN w ∧ f_X2_nearest (lN u) (nI F) (nI B) = lN w ∧ w ≤ (64 + B) * 2 ^ F := by
  obtain ⟨T, hT, h1, h2⟩ := log_ex h0 hu
  refine ⟨(T + B) * 2 ^ F + (sg9 u T F - 2 ^ F), real_eq hu hT hF1 hF hB h1 h2, near_eq hu hT hF1 hF hB h1 h2, ?_⟩
  have a := sg_hi (F := F) h1 h2
  rw [Nat.pow_succ] at a
  have b : (T + B) * 2 ^ F ≤ (63 + B) * 2 ^ F := Nat.mul_le_mul_right _ (by omega)
  have c : (64 + B) * 2 ^ F = (63 + B) * 2 ^ F + 2 ^ F := by rw [show 64 + B = 63 + B + 1 by omega, Nat.add_mul, Nat.one_mul]
  omega
theorem asS_eq (v : Int64) : f_X1_wholeAsReal v 23 127 2 = f_X2_asSingle v ∧ G2 2 (f_X2_asSingle v) := by
  by_cases h0 : v = 0
  · subst h0
    have e1 : f_X1_wholeAsReal 0 23 127 2 = 0 := by
      unfold f_X1_wholeAsReal
      rw [if_pos ((lg_cmp_eq _ _).mpr rfl)]
    have e2 : f_X2_asSingle 0 = 0 := by
      unfold f_X2_asSingle
      rw [if_pos ((lg_cmp_ge _ _).mpr (Int64.le_refl _)), near0]
    rw [e1, e2]
    exact ⟨rfl, G2_l (r := 0) (by decide) 2⟩
  · obtain ⟨u, hu0, hu, hv⟩ := sz_rep h0
    obtain ⟨w, w1, w2, w3⟩ := size_real (F := 23) (B := 127) hu0 hu (by decide) (by decide) (by decide)
    have hw : w ≤ 2139095040 := Nat.le_trans w3 (by decide)
    unfold f_X1_wholeAsReal f_X2_asSingle
    rw [if_neg (fun z => h0 ((lg_cmp_eq _ _).mp z))]
    by_cases hs : 0 ≤ lg_cmp v 0
    · rw [if_pos hs] at hv
      rw [if_pos hs, if_pos hs, wS0, hv]
      have w1' : ((((f_X1_highestBit (lN u)) + (127 : Int32)).toInt64) <<< ((23 : Int32).toInt64 &&& 63)) + ((f_X1_cutTo (lN u) ((f_X1_highestBit (lN u)) - (23 : Int32))) - ((1 : Int64) <<< ((23 : Int32).toInt64 &&& 63))) = lN w := w1
      have w2' : f_X2_nearest (lN u) 23 127 = lN w := w2
      rw [w1', w2']
      exact ⟨rfl, G2_l hw 2⟩
    · rw [if_neg hs] at hv
      rw [if_neg hs, if_neg hs, wS1, hv]
      have w1' : ((((f_X1_highestBit (lN u)) + (127 : Int32)).toInt64) <<< ((23 : Int32).toInt64 &&& 63)) + ((f_X1_cutTo (lN u) ((f_X1_highestBit (lN u)) - (23 : Int32))) - ((1 : Int64) <<< ((23 : Int32).toInt64 &&& 63))) = lN w := w1
      have w2' : f_X2_nearest (lN u) 23 127 = lN w := w2
      rw [w1', w2', show f_X1_signBits 2 = -2147483648 by decide, or31 (by omega), sub31 (by omega)]
      exact ⟨rfl, fun _ => ⟨1, w, by decide, hw, rfl⟩⟩
theorem asD_eq (v : Int64) : f_X1_wholeAsReal v 52 1023 3 = f_X2_asDouble v := by
  by_cases h0 : v = 0
  · subst h0
    have e1 : f_X1_wholeAsReal 0 52 1023 3 = 0 := by
      unfold f_X1_wholeAsReal
      rw [if_pos ((lg_cmp_eq _ _).mpr rfl)]
    have e2 : f_X2_asDouble 0 = 0 := by
      unfold f_X2_asDouble
      rw [if_pos ((lg_cmp_ge _ _).mpr (Int64.le_refl _)), near0]
    rw [e1, e2]
  · obtain ⟨u, hu0, hu, hv⟩ := sz_rep h0
    obtain ⟨w, w1, w2, w3⟩ := size_real (F := 52) (B := 1023) hu0 hu (by decide) (by decide) (by decide)
    have w1' : ((((f_X1_highestBit (lN u)) + (1023 : Int32)).toInt64) <<< ((52 : Int32).toInt64 &&& 63)) + ((f_X1_cutTo (lN u) ((f_X1_highestBit (lN u)) - (52 : Int32))) - ((1 : Int64) <<< ((52 : Int32).toInt64 &&& 63))) = lN w := w1
    have w2' : f_X2_nearest (lN u) 52 1023 = lN w := w2
    unfold f_X1_wholeAsReal f_X2_asDouble
    rw [if_neg (fun z => h0 ((lg_cmp_eq _ _).mp z))]
    by_cases hs : 0 ≤ lg_cmp v 0
    · rw [if_pos hs] at hv
      rw [if_pos hs, if_pos hs, wS0, hv, w1', w2']
    · rw [if_neg hs] at hv
      rw [if_neg hs, if_neg hs, wS1, hv, w1', w2', show f_X1_signBits 3 = -9223372036854775808 by decide]
/-- a SINGLE's size as a DOUBLE -/
theorem wid_eq {r : Nat} (hr : r ≤ 2139095040) : f_X1_sizeAsDouble (lN r) = if r / 2 ^ 23 = 255 then 9218868437227405312 else if r = 0 then 0 else if r / 2 ^ 23 = 0 then
    ((((f_X2_top (lN r)) + (874 : Int32)).toInt64) <<< ((52 : Int32).toInt64 &&& 63)) + ((lN r) <<< (((52 : Int32) - (f_X2_top (lN r))).toInt64 &&& 63)) - (4503599627370496 : Int64) else lN ((r / 2 ^ 23 + 896) * 2 ^ 52 + r % 2 ^ 23 * 2 ^ 29) := by
  unfold f_X1_sizeAsDouble
  have c1 : lg_cmp (lN r) 0 = 0 ↔ r = 0 := cmp0 (by omega)
  have c2 : lg_cmp (lN r) 2139095040 = 0 ↔ r = 2139095040 := (lg_cmp_eq _ _).trans (lE (b := 2139095040) (by omega) (by decide))
  have e3 : ((lN r).toUInt64 >>> ((23 : Int32).toInt64.toUInt64 &&& Int64.toUInt64 63)).toInt64 = lN (r / 2 ^ 23) := wb_shr (n := r) (k := 23) (by omega) (by decide)
  rw [e3]
  have c3 : lg_cmp (lN (r / 2 ^ 23)) 0 = 0 ↔ r / 2 ^ 23 = 0 := cmp0 (by omega)
  by_cases d1 : r = 0
  · rw [if_pos (c1.mpr d1), if_neg (show ¬ r / 2 ^ 23 = 255 by omega), if_pos d1]
  · rw [if_neg (fun z => d1 (c1.mp z))]
    by_cases d2 : r = 2139095040
    · rw [if_pos (c2.mpr d2), if_pos (show r / 2 ^ 23 = 255 by omega)]
    · rw [if_neg (fun z => d2 (c2.mp z)), if_neg (show ¬ r / 2 ^ 23 = 255 by omega), if_neg d1]
      by_cases d3 : r / 2 ^ 23 = 0
      · rw [if_pos (c3.mpr d3), if_pos d3]
        obtain ⟨T, hT, h1, h2⟩ := log_ex (n := r) (by omega) (by omega)
        have hT2 : T ≤ 22 := by
          rcases Nat.lt_or_ge 22 T with z | z
          · have := Nat.pow_le_pow_right (n := 2) (by decide) (show 23 ≤ T by omega)
            omega
          · exact z
        have w1 := real_eq (F := 52) (B := 1023) (u := r) (by omega) hT (by decide) (by decide) (by decide) h1 h2
        have w1' : ((((f_X1_highestBit (lN r)) + (1023 : Int32)).toInt64) <<< ((52 : Int32).toInt64 &&& 63)) + ((f_X1_cutTo (lN r) ((f_X1_highestBit (lN r)) - (52 : Int32))) - ((1 : Int64) <<< ((52 : Int32).toInt64 &&& 63))) = lN ((T + 1023) * 2 ^ 52 + (sg9 r T 52 - 2 ^ 52)) := w1
        unfold f_X1_wholeAsReal
        rw [if_neg (fun z => d1 (c1.mp z)), if_pos (show 0 ≤ lg_cmp (lN r) 0 from (lg_cmp_ge _ _).mpr ((lLe (a := 0) (b := r) (by decide) (by omega)).mpr (by omega))), wS0, w1']
        have hlo := sg_lo (F := 52) h1 h2
        have hhi := sg_hi (F := 52) h1 h2
        have es : sg9 r T 52 = r * 2 ^ (52 - T) := by
          unfold sg9
          rw [if_pos (by omega)]
        rw [show f_X2_top (lN r) = nI T from tp_eq (by omega) h1 h2 63 hT (by omega)]
        have ex : ((nI T + (874 : Int32)).toInt64) <<< ((52 : Int32).toInt64 &&& 63) = lN ((T + 874) * 2 ^ 52) := exp_eq (B := 874) (F := 52) hT (by decide) (by decide)
        have e5 : (52 : Int32) - nI T = nI (52 - T) := nI_subI (a := 52) (by omega)
        rw [ex, e5, wb_shl _ (by omega), ← es, lN_add]
        rw [show (4503599627370496 : Int64) = lN (2 ^ 52) by decide, show (671036344478203904 : Int64) = lN (149 * 2 ^ 52) by decide, lN_subI (by omega), lN_subI (by omega)]
        exact congrArg lN (by omega)
      · rw [if_neg (fun z => d3 (c3.mp z)), if_neg d3]
        have e4 : lN r <<< ((29 : Int32).toInt64 &&& 63) = lN (r * 2 ^ 29) := wb_shl r (k := 29) (by decide)
        rw [e4, show (4035225266123964416 : Int64) = lN (896 * 2 ^ 52) by decide, lN_add]
        exact congrArg lN (by omega)
theorem sad_eq {v : Int64} (hv : G2 2 v) : f_X1_singleAsDouble v = f_X2_widened v := by
  obtain ⟨s, r, hs, hr, rfl⟩ := hv rfl
  unfold f_X1_singleAsDouble f_X2_widened
  have eL : lN (s * (2 ^ 64 - 2 ^ 31) + r) &&& (2147483647 : Int64) = lN r := g2_l hs hr
  have eE : lN r >>> ((23 : Int32).toInt64 &&& 63) = lN (r / 2 ^ 23) := r_shr (d := 23) (by decide) (by omega)
  have eF : lN r &&& (8388607 : Int64) = lN (r % 2 ^ 23) := wb_mask (n := r) (k := 23) (by omega) (by decide)
  rw [eL, eE, eF, wid_eq hr, wS0, wS1, show f_X1_signBits 3 = -9223372036854775808 by decide]
  have c1 : lg_cmp (lN (r / 2 ^ 23)) 255 = 0 ↔ r / 2 ^ 23 = 255 := (lg_cmp_eq _ _).trans (lE (b := 255) (by omega) (by decide))
  have c2 : lg_cmp (lN r) 0 = 0 ↔ r = 0 := cmp0 (by omega)
  have c3 : lg_cmp (lN (r / 2 ^ 23)) 0 ≤ 0 ↔ r / 2 ^ 23 = 0 := by
    rw [lg_cmp_le]
    exact (lLe (b := 0) (by omega) (by decide)).trans (by omega)
  have eX : (lN (r / 2 ^ 23) + (896 : Int64)) <<< ((52 : Int32).toInt64 &&& 63) = lN ((r / 2 ^ 23 + 896) * 2 ^ 52) := by
    rw [show (896 : Int64) = lN 896 from rfl, lN_add]
    exact wb_shl _ (k := 52) (by decide)
  have eY : lN (r % 2 ^ 23) <<< ((29 : Int32).toInt64 &&& 63) = lN (r % 2 ^ 23 * 2 ^ 29) := wb_shl _ (k := 29) (by decide)
  rw [eX, eY, lN_add]
  by_cases hs0 : 0 ≤ lg_cmp (lN (s * (2 ^ 64 - 2 ^ 31) + r)) 0
  · rw [if_pos hs0, if_pos hs0]
    by_cases d1 : r / 2 ^ 23 = 255
    · rw [if_pos d1, if_pos (c1.mpr d1), r_0or]
    · rw [if_neg d1, if_neg (fun z => d1 (c1.mp z))]
      by_cases d2 : r = 0
      · rw [if_pos d2, if_pos (c2.mpr d2)]
      · rw [if_neg d2, if_neg (fun z => d2 (c2.mp z))]
        by_cases d3 : r / 2 ^ 23 = 0
        · rw [if_pos d3, if_pos (c3.mpr d3), r_0or, show r % 2 ^ 23 = r by omega]
        · rw [if_neg d3, if_neg (fun z => d3 (c3.mp z)), r_0or]
  · rw [if_neg hs0, if_neg hs0]
    by_cases d1 : r / 2 ^ 23 = 255
    · rw [if_pos d1, if_pos (c1.mpr d1)]; exact Int64.or_comm ..
    · rw [if_neg d1, if_neg (fun z => d1 (c1.mp z))]
      by_cases d2 : r = 0
      · rw [if_pos d2, if_pos (c2.mpr d2), r_0or]
      · rw [if_neg d2, if_neg (fun z => d2 (c2.mp z))]
        by_cases d3 : r / 2 ^ 23 = 0
        · rw [if_pos d3, if_pos (c3.mpr d3), show r % 2 ^ 23 = r by omega]; exact Int64.or_comm ..
        · rw [if_neg d3, if_neg (fun z => d3 (c3.mp z))]; exact Int64.or_comm ..
theorem hand_eq {a b : Int32} (ha : kOK a) (hb : kOK b) (hab : a ≤ b) {v : Int64} (hv : G2 a v) : f_X1_handedOn v a b = f_X2_handed v a b ∧ G2 b (f_X2_handed v a b) := by
  unfold f_X1_handedOn f_X2_handed
  by_cases h1 : a = b
  · rw [if_pos h1, if_pos h1]
    exact ⟨rfl, h1 ▸ hv⟩
  · rw [if_neg h1, if_neg h1]
    by_cases h2 : b = 1
    · rw [if_pos h2, if_pos h2]
      exact ⟨rfl, G2_n (by rw [h2]; decide)⟩
    · rw [if_neg h2, if_neg h2]
      by_cases h3 : a = 2
      · rw [if_pos h3, if_pos h3]
        subst h3
        refine ⟨sad_eq hv, G2_n (fun z => h1 z.symm)⟩
      · rw [if_neg h3, if_neg h3]
        by_cases h4 : b = 2
        · rw [if_pos h4, if_pos h4]
          subst h4
          exact asS_eq v
        · rw [if_neg h4, if_neg h4]
          exact ⟨asD_eq v, G2_n h4⟩
