/-! a gauge's state and cells; the board's -/
abbrev GS : Type := (Nat → Int32) × (Nat → Int32) × (Nat → Int64) × Int32 × Int32 × Int64 × Int32 × Int64 × Int64 × Int32 × Int32
abbrev gSo (x : GS) : Nat → Int32 := x.1
abbrev gSr (x : GS) : Nat → Int32 := x.2.1
abbrev gOp (x : GS) : Nat → Int64 := x.2.2.1
abbrev gK (x : GS) : Int32 := x.2.2.2.1
abbrev gC (x : GS) : Int32 := x.2.2.2.2.1
abbrev gV (x : GS) : Int64 := x.2.2.2.2.2.1
abbrev gM (x : GS) : Int32 := x.2.2.2.2.2.2.1
abbrev gH (x : GS) : Int64 := x.2.2.2.2.2.2.2.1
abbrev gL (x : GS) : Int64 := x.2.2.2.2.2.2.2.2.1
abbrev gR (x : GS) : Int32 := x.2.2.2.2.2.2.2.2.2.1
abbrev gW (x : GS) : Int32 := x.2.2.2.2.2.2.2.2.2.2
abbrev ga : Type := Nat × Nat × Nat × Nat
abbrev GZ (cI cJ : ClassId) (q : ga) (x : GS) : va_W := [(q.1, .inr (0, [.ref q.2.1, .ref q.2.2.1, .ref q.2.2.2, .int (gK x), .int (gC x), .long (gV x), .int (gM x), .long (gH x), .long (gL x), .int (gR x), .int (gW x)])),
  (q.2.1, .inl (cI, 8, .inl (gSo x))), (q.2.2.1, .inl (cI, 8, .inl (gSr x))), (q.2.2.2, .inl (cJ, 8, .inr (.inl (gOp x))))]
theorem GZ_eq {cI cJ : ClassId} {q : ga} {so sr : Nat → Int32} {op : Nat → Int64} {k c mk rd sw : Int32} {v hi lo : Int64} : GZ cI cJ q (so, sr, op, k, c, v, mk, hi, lo, rd, sw) = [(q.1, .inr (0, [.ref q.2.1, .ref q.2.2.1, .ref q.2.2.2, .int k, .int c, .long v, .int mk, .long hi, .long lo, .int rd, .int sw])),
  (q.2.1, .inl (cI, 8, .inl so)), (q.2.2.1, .inl (cI, 8, .inl sr)), (q.2.2.2, .inl (cJ, 8, .inr (.inl op)))] := rfl
def gz (cI cJ : ClassId) (q : ga) : Option GS → va_W
  | none => []
  | some x => GZ cI cJ q x
def BG (cI cJ : ClassId) (ad : Nat → ga) (st : Nat → Option GS) : Nat → va_W
  | 0 => []
  | n + 1 => gz cI cJ (ad n) (st n) ++ BG cI cJ ad st n
def pl (ad : Nat → ga) (st : Nat → Option GS) : Nat → Option Nat := fun i => (st i).map (fun _ => (ad i).1)
abbrev BB (cG : ClassId) (b P : Nat) (f : Nat → Option Nat) : va_W := [(b, .inr (1, [.ref P])), (P, .inl (cG, 12, .inr (.inr (.inr (.inr f)))))]
abbrev BW (cI cJ cG : ClassId) (b P : Nat) (ad : Nat → ga) (st : Nat → Option GS) : va_W := BB cG b P (pl ad st) ++ BG cI cJ ad st 12
theorem BG_congr {cI cJ : ClassId} {ad ad' : Nat → ga} {st st' : Nat → Option GS} : ∀ n : Nat, (∀ j, j < n → gz cI cJ (ad j) (st j) = gz cI cJ (ad' j) (st' j)) → BG cI cJ ad st n = BG cI cJ ad' st' n
  | 0, _ => rfl
  | n + 1, h => by rw [BG, BG, h n (Nat.lt_succ_self n), BG_congr n (fun j hj => h j (Nat.lt_succ_of_lt hj))]
theorem BG_perm {cI cJ : ClassId} {ad : Nat → ga} {st : Nat → Option GS} {i : Nat} : ∀ n : Nat, i < n → (BG cI cJ ad st n).Perm (gz cI cJ (ad i) (st i) ++ BG cI cJ ad (va_up st i none) n)
  | 0, h => absurd h (Nat.not_lt_zero _)
  | n + 1, h => by
    rw [BG, BG]
    by_cases e : i = n
    · subst e
      have e1 : BG cI cJ ad (va_up st i none) i = BG cI cJ ad st i := BG_congr i (fun j hj => by rw [va_up_ne _ _ (show j ≠ i by omega)])
      have e2 : gz cI cJ (ad i) (va_up st i none i) = [] := by simp [va_up, gz]
      rw [e1, e2]
      exact List.Perm.refl _
    · have h1 := BG_perm (cI := cI) (cJ := cJ) (ad := ad) (st := st) (i := i) n (by omega)
      have e2 : va_up st i none n = st n := va_up_ne _ _ (show n ≠ i by omega)
      rw [e2]
      refine ((h1.append_left (gz cI cJ (ad n) (st n))).trans ?_)
      rw [← List.append_assoc, ← List.append_assoc]
      exact (List.perm_append_comm).append_right _
theorem BG_mem {cI cJ : ClassId} {ad : Nat → ga} {st : Nat → Option GS} {i : Nat} {x : GS} {n : Nat} (hi : i < n) (hx : st i = some x) : ∀ q ∈ GZ cI cJ (ad i) x, q ∈ BG cI cJ ad st n := fun q hq => (BG_perm n hi).mem_iff.mpr (List.mem_append_left _ (by rw [hx]; exact hq))
/-- the board's cells with those of gauge i in front -/
theorem BW_perm {cI cJ cG : ClassId} {b P : Nat} {ad : Nat → ga} {st : Nat → Option GS} {i : Nat} {x : GS} (hi : i < 12) (hx : st i = some x) : (BW cI cJ cG b P ad st).Perm (GZ cI cJ (ad i) x ++ (BB cG b P (pl ad st) ++ BG cI cJ ad (va_up st i none) 12)) := by
  have h := BG_perm (cI := cI) (cJ := cJ) (ad := ad) (st := st) (i := i) 12 hi
  rw [hx] at h
  refine (h.append_left (BB cG b P (pl ad st))).trans ?_
  rw [← List.append_assoc, ← List.append_assoc]
  exact (List.perm_append_comm).append_right _
theorem pl_up {ad : Nat → ga} {st : Nat → Option GS} {i : Nat} {x y : GS} (hx : st i = some x) : pl ad (va_up st i (some y)) = pl ad st := by
  funext j
  by_cases e : j = i
  · subst e
    simp [pl, va_up, hx]
  · simp [pl, va_up_ne _ _ e]
/-- .. and back, with a new state for it -/
theorem BW_back {cI cJ cG : ClassId} {b P : Nat} {ad : Nat → ga} {st : Nat → Option GS} {i : Nat} {x y : GS} (hi : i < 12) (hx : st i = some x) : (GZ cI cJ (ad i) y ++ (BB cG b P (pl ad st) ++ BG cI cJ ad (va_up st i none) 12)).Perm (BW cI cJ cG b P ad (va_up st i (some y))) := by
  have h := BW_perm (cI := cI) (cJ := cJ) (cG := cG) (b := b) (P := P) (ad := ad) (st := va_up st i (some y)) (i := i) (x := y) hi (by simp [va_up])
  rw [bx_uu, pl_up hx] at h
  exact h.symm
theorem BW_gauge {D : va_G} {cI cJ cG : ClassId} {b P : Nat} {ad : Nat → ga} {st : Nat → Option GS} {H : Heap} (hP : va_P D vwCl (BW cI cJ cG b P ad st) H) {i : Nat} {x : GS} (hi : i < 12) (hx : st i = some x) : va_P D vwCl (GZ cI cJ (ad i) x) H := wd_P.part hP (fun q hq => List.mem_append_right _ (BG_mem hi hx q hq))
theorem BW_board {D : va_G} {cI cJ cG : ClassId} {b P : Nat} {ad : Nat → ga} {st : Nat → Option GS} {H : Heap} (hP : va_P D vwCl (BW cI cJ cG b P ad st) H) : va_P D vwCl (BB cG b P (pl ad st)) H := wd_P.part hP (fun q hq => List.mem_append_left _ hq)
theorem in8' {s : Int32} (hs : vp_in s 9) (h : s < (8 : Int32)) : vp_in s 8 := in8 hs (fun e => by rw [e] at h; exact absurd h (by decide))
