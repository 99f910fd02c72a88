/-! worlds by membership; a world's cells in another order; what a call leaves -/
theorem wd_P {D : va_G} {cl : List vw_C} {ws : va_W} {H : Heap} : va_P D cl ws H ↔ ∀ q ∈ ws, va_at D cl q H := by
  refine ⟨fun h q hq => ?_, fun h k q hk => h q (List.mem_of_getElem? hk)⟩
  obtain ⟨k, hk⟩ := List.getElem?_of_mem hq
  exact h k q hk
theorem wd_D {A : Nat → Prop} {ws : va_W} : va_D A ws ↔ (ws.map (·.1)).Pairwise (· ≠ ·) ∧ ∀ q ∈ ws, A q.1 := by
  constructor
  · intro h
    refine ⟨List.pairwise_iff_getElem.mpr (fun i j hi hj hij e => ?_), fun q hq => ?_⟩
    · rw [List.length_map] at hi hj
      rw [List.getElem_map, List.getElem_map] at e
      have := h.1 i j _ _ (List.getElem?_eq_getElem hi) (List.getElem?_eq_getElem hj) e
      omega
    · obtain ⟨k, hk⟩ := List.getElem?_of_mem hq
      exact h.2 k q hk
  · intro h
    refine ⟨fun i j x y hi hj e => ?_, fun k q hk => h.2 q (List.mem_of_getElem? hk)⟩
    obtain ⟨li, hi⟩ := List.getElem?_eq_some_iff.mp hi
    obtain ⟨lj, hj⟩ := List.getElem?_eq_some_iff.mp hj
    have hp := List.pairwise_iff_getElem.mp h.1
    rcases Nat.lt_trichotomy i j with z | z | z
    · exact absurd (by rw [List.getElem_map, List.getElem_map, hi, hj]; exact e) (hp i j (by rw [List.length_map]; exact li) (by rw [List.length_map]; exact lj) z)
    · exact z
    · exact absurd (by rw [List.getElem_map, List.getElem_map, hi, hj]; exact e.symm) (hp j i (by rw [List.length_map]; exact lj) (by rw [List.length_map]; exact li) z)
theorem wd_P.perm {D : va_G} {cl : List vw_C} {ws ws' : va_W} {H : Heap} (h : va_P D cl ws H) (hp : ws.Perm ws') : va_P D cl ws' H := wd_P.mpr (fun q hq => wd_P.mp h q (hp.mem_iff.mpr hq))
theorem wd_D.perm {A : Nat → Prop} {ws ws' : va_W} (h : va_D A ws) (hp : ws.Perm ws') : va_D A ws' := by
  have h1 := wd_D.mp h
  exact wd_D.mpr ⟨(h1.1.perm (hp.map _) (fun z => Ne.symm z)), fun q hq => h1.2 q (hp.mem_iff.mpr hq)⟩
theorem wd_P.part {D : va_G} {cl : List vw_C} {ws ws' : va_W} {H : Heap} (h : va_P D cl ws H) (hs : ∀ q ∈ ws', q ∈ ws) : va_P D cl ws' H := wd_P.mpr (fun q hq => wd_P.mp h q (hs q hq))
theorem wd_D.left {A : Nat → Prop} {w1 w2 : va_W} (h : va_D A (w1 ++ w2)) : va_D A w1 := by
  have h1 := wd_D.mp h
  rw [List.map_append] at h1
  exact wd_D.mpr ⟨(List.pairwise_append.mp h1.1).1, fun q hq => h1.2 q (List.mem_append_left _ hq)⟩
/-- behind a call on the cells wc, the others R as they were -/
theorem wd_join {A0 : Nat → Prop} {D : va_G} {cl : List vw_C} {wc R w1 : va_W} {H H1 : Heap} (hP : va_P D cl (wc ++ R) H) (hD : va_D A0 (wc ++ R)) (hk : ∀ q : Nat, q < H.size → ¬ va_A wc H.size q → H1[q]? = H[q]?)
    (hF : ∀ q, va_A wc H.size q → A0 q) (hP1 : va_P D cl w1 H1) (hD1 : va_D (va_A wc H.size) w1) : va_P D cl (w1 ++ R) H1 ∧ va_D A0 (w1 ++ R) := by
  have hPm := wd_P.mp hP
  have hDm := wd_D.mp hD
  rw [List.map_append, List.pairwise_append] at hDm
  have apart : ∀ q ∈ R, q.1 < H.size ∧ ¬ va_A wc H.size q.1 := by
    intro q hq
    have hl := (hPm q (List.mem_append_right _ hq)).lt
    refine ⟨hl, fun h => ?_⟩
    rcases h with ⟨k, e, h⟩ | h
    · exact hDm.1.2.2 q.1 (List.mem_map.mpr ⟨(q.1, e), List.mem_of_getElem? h, rfl⟩) q.1 (List.mem_map.mpr ⟨q, hq, rfl⟩) rfl
    · omega
  have hD1m := wd_D.mp hD1
  refine ⟨wd_P.mpr (fun q hq => ?_), wd_D.mpr ⟨?_, fun q hq => ?_⟩⟩
  · rcases List.mem_append.mp hq with h | h
    · exact wd_P.mp hP1 q h
    · obtain ⟨g1, g2⟩ := apart q h
      exact (hPm q (List.mem_append_right _ h)).kept (hk q.1 g1 g2)
  · rw [List.map_append, List.pairwise_append]
    refine ⟨hD1m.1, hDm.1.2.1, fun a ha b hb e => ?_⟩
    obtain ⟨x, hx, rfl⟩ := List.mem_map.mp ha
    obtain ⟨y, hy, rfl⟩ := List.mem_map.mp hb
    exact (apart y hy).2 (e ▸ hD1m.2 x hx)
  · rcases List.mem_append.mp hq with h | h
    · exact hF _ (hD1m.2 q h)
    · exact hDm.2 q (List.mem_append_right _ h)
theorem wd_free {A0 : Nat → Prop} {wc R : va_W} {H0 H : Heap} {locs : List Loc} (hD : va_D A0 (wc ++ R)) (hS : va_S A0 H0 H locs) (hA : ∀ q, H0.size ≤ q → A0 q) : ∀ q, va_A wc H.size q → A0 q := by
  intro q h
  rcases h with ⟨k, e, h⟩ | h
  · exact (wd_D.mp hD).2 (q, e) (List.mem_append_left _ (List.mem_of_getElem? h))
  · exact hA q (Nat.le_trans hS.1 h)
/-- one cell of a world -/
theorem wd_one {D : va_G} {cl : List vw_C} {ws : va_W} {H : Heap} {q : Nat × va_E} (h : va_P D cl ws H) (hq : q ∈ ws) : va_P D cl [q] H := wd_P.part h (fun z hz => by rw [List.mem_singleton.mp hz]; exact hq)
