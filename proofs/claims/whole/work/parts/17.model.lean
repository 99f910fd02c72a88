/-! the reference's state and its cells -/
abbrev MS : Type := Int32 × (Nat → Int32) × (Nat → Int32) × (Nat → Int64) × (Nat → Int32) × (Nat → Int32) × (Nat → Int32) × (Nat → Int32) × (Nat → Int64) × (Nat → Int64) × (Nat → Int32) × (Nat → Int32) × (Nat → Int64) × (Nat → Int32)
abbrev mth (x : MS) : Int32 := x.1
abbrev mT (x : MS) : Nat → Int32 := x.2.1
abbrev mK (x : MS) : Nat → Int32 := x.2.2.1
abbrev mV (x : MS) : Nat → Int64 := x.2.2.2.1
abbrev mS (x : MS) : Nat → Int32 := x.2.2.2.2.1
abbrev mR (x : MS) : Nat → Int32 := x.2.2.2.2.2.1
abbrev mW (x : MS) : Nat → Int32 := x.2.2.2.2.2.2.1
abbrev mM (x : MS) : Nat → Int32 := x.2.2.2.2.2.2.2.1
abbrev mH (x : MS) : Nat → Int64 := x.2.2.2.2.2.2.2.2.1
abbrev mL (x : MS) : Nat → Int64 := x.2.2.2.2.2.2.2.2.2.1
abbrev mO (x : MS) : Nat → Int32 := x.2.2.2.2.2.2.2.2.2.2.1
abbrev mP (x : MS) : Nat → Int32 := x.2.2.2.2.2.2.2.2.2.2.2.1
abbrev mB (x : MS) : Nat → Int64 := x.2.2.2.2.2.2.2.2.2.2.2.2.1
abbrev mG (x : MS) : Nat → Int32 := x.2.2.2.2.2.2.2.2.2.2.2.2.2
abbrev MW (cI cJ cZ : ClassId) (m : Nat) (a : Nat → Nat) (x : MS) : va_W := [(m, .inr (2, [.int (mth x), .ref (a 1), .ref (a 2), .ref (a 3), .ref (a 4), .ref (a 5), .ref (a 6), .ref (a 7), .ref (a 8), .ref (a 9), .ref (a 10), .ref (a 11), .ref (a 12), .ref (a 13)])),
  (a 1, .inl (cZ, 12, .inl (mT x))), (a 2, .inl (cI, 12, .inl (mK x))), (a 3, .inl (cJ, 12, .inr (.inl (mV x)))), (a 4, .inl (cI, 12, .inl (mS x))), (a 5, .inl (cI, 12, .inl (mR x))), (a 6, .inl (cI, 12, .inl (mW x))), (a 7, .inl (cZ, 12, .inl (mM x))),
  (a 8, .inl (cJ, 12, .inr (.inl (mH x)))), (a 9, .inl (cJ, 12, .inr (.inl (mL x)))), (a 10, .inl (cI, 96, .inl (mO x))), (a 11, .inl (cI, 96, .inl (mP x))), (a 12, .inl (cJ, 96, .inr (.inl (mB x)))), (a 13, .inl (cI, 96, .inl (mG x)))]
theorem in96 {g s : Int32} (hg : vp_in g 12) (hs : vp_in s 8) : vp_in ((8 : Int32) * g + s) 96 := by
  obtain ⟨j, hj, rfl⟩ := vp_in_of hg (by decide)
  obtain ⟨k, hk, rfl⟩ := vp_in_of hs (by decide)
  show vp_in (nI 8 * nI j + nI k) 96
  rw [pk_mul, nI_add]
  exact vp_in_nI (by omega) (by decide)
theorem in8 {s : Int32} (hs : vp_in s 9) (h : ¬ s = (8 : Int32)) : vp_in s 8 := by
  obtain ⟨k, hk, rfl⟩ := vp_in_of hs (by decide)
  have : k ≠ 8 := fun e => h (by rw [e]; rfl)
  exact vp_in_nI (by omega) (by decide)
theorem in_cnt {s n : Int32} (hn : vp_in n 9) (hs : vp_in s 9) (h : ¬ n ≤ s) : vp_in s 8 := by
  obtain ⟨k, hk, rfl⟩ := vp_in_of hn (by decide)
  obtain ⟨j, hj, rfl⟩ := vp_in_of hs (by decide)
  have : ¬ k ≤ j := fun e => h (nI_le e (by omega))
  exact vp_in_nI (by omega) (by decide)
/-- what of the reference's state its own methods rest on -/
def MI (x : MS) : Prop := ∀ j : Nat, j < 12 → vp_in (mS x j) 9 ∧ (∀ s : Nat, s < 8 → nI s < mS x j → mP x (8 * j + s) = 2 → vp_in (mG x (8 * j + s)) 12) ∧ (mT x j = 0 ∨ mT x j = 1) ∧ (mM x j = 0 ∨ mM x j = 1)
theorem MI.cnt {x : MS} (h : MI x) {g : Int32} (hg : vp_in g 12) : vp_in (mS x g.toNatClampNeg) 9 := by
  obtain ⟨j, hj, rfl⟩ := vp_in_of hg (by decide)
  rw [nI_clamp (by omega)]
  exact (h j hj).1
theorem MI.src {x : MS} (h : MI x) {g s : Int32} (hg : vp_in g 12) (hs : vp_in s 8) (hlt : ¬ mS x g.toNatClampNeg ≤ s) (h2 : mP x ((8 : Int32) * g + s).toNatClampNeg = 2) : vp_in (mG x ((8 : Int32) * g + s).toNatClampNeg) 12 := by
  obtain ⟨j, hj, rfl⟩ := vp_in_of hg (by decide)
  obtain ⟨k, hk, rfl⟩ := vp_in_of hs (by decide)
  have e : (8 : Int32) * nI j + nI k = nI (8 * j + k) := by
    show nI 8 * nI j + nI k = _
    rw [pk_mul, nI_add]
  rw [e, nI_clamp (by omega)] at h2 ⊢
  rw [nI_clamp (by omega)] at hlt
  exact (h j hj).2.1 k hk (Int32.not_le.mp hlt) h2
theorem bool_nar {v : Int32} (h : v = 0 ∨ v = 1) : narrow .boolean (.int v) = .int v := by
  rcases h with rfl | rfl <;> rfl
theorem MI.bT {x : MS} (h : MI x) {g : Int32} (hg : vp_in g 12) : narrow .boolean (.int (mT x g.toNatClampNeg)) = .int (mT x g.toNatClampNeg) := by
  obtain ⟨j, hj, rfl⟩ := vp_in_of hg (by decide)
  rw [nI_clamp (by omega)]
  exact bool_nar (h j hj).2.2.1
theorem MI.bM {x : MS} (h : MI x) {g : Int32} (hg : vp_in g 12) : narrow .boolean (.int (mM x g.toNatClampNeg)) = .int (mM x g.toNatClampNeg) := by
  obtain ⟨j, hj, rfl⟩ := vp_in_of hg (by decide)
  rw [nI_clamp (by omega)]
  exact bool_nar (h j hj).2.2.2
theorem in12' {g : Int32} (h1 : ¬ g < 0) (h2 : g ≤ (11 : Int32)) : vp_in g 12 := vp_in_iff.mpr (by
  rw [Int32.lt_iff_toInt_lt] at h1
  rw [Int32.le_iff_toInt_le] at h2
  have a1 : (0 : Int32).toInt = 0 := by decide
  have a2 : (11 : Int32).toInt = 11 := by decide
  omega)
theorem in_lt {i n : Nat} (h : vp_in (nI i) n) (hi : i < 2 ^ 31) : i < n := by
  have := vp_in_iff.mp h
  rw [nI_toInt hi] at this
  omega
theorem in_rg {s n : Int32} (hn : vp_in n 9) (h0 : ¬ s < 0) (h : s < n) : vp_in s 8 := by
  obtain ⟨k, hk, rfl⟩ := vp_in_of hn (by decide)
  have h1 := vp_in_iff (x := s) (n := 8)
  rw [Int32.lt_iff_toInt_lt] at h0 h
  rw [nI_toInt (by omega)] at h
  have a1 : (0 : Int32).toInt = 0 := by decide
  exact h1.mpr (by omega)
