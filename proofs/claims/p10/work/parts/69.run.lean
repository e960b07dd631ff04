/-! Ends, calls, the way from one loop head to the next. -/
def yupd (i : Instr) (D : List (Nat × Int)) : List (Nat × Int) := match i with
  | .iinc k n => D.map fun q => if q.1 = k then (q.1, q.2 + (Int32.ofInt n).toInt) else q
  | .istore_n k => D.filter fun q => !(q.1 == (k : Nat))
  | .istore k => D.filter fun q => !(q.1 == k)
  | .astore_n k => D.filter fun q => !(q.1 == (k : Nat))
  | .astore k => D.filter fun q => !(q.1 == k)
  | .lstore_n k => D.filter fun q => !(q.1 == (k : Nat)) && !(q.1 == (k : Nat) + 1)
  | .lstore k => D.filter fun q => !(q.1 == k) && !(q.1 == k + 1)
  | _ => D
def yD (D : List (Nat × Int)) (lv0 lv : zL) : Prop := ∀ q ∈ D, ∃ x0 x : Int32, zlv lv0 q.1 = some (.int x0) ∧ zlv lv q.1 = some (.int x) ∧ x.toInt = x0.toInt + q.2
theorem yD_1 {D : List (Nat × Int)} {lv0 lv : zL} {k : Nat} {v : Value} (h : yD D lv0 lv) : yD (D.filter fun q => !(q.1 == k)) lv0 ((k, v) :: zf1 k lv) := by
  intro q hq
  obtain ⟨h1, h2⟩ := List.mem_filter.mp hq
  obtain ⟨x0, x, h3, h4, h5⟩ := h q h1
  have hne : q.1 ≠ k := by simpa using h2
  exact ⟨x0, x, h3, by rw [zlv_cons_ne hne]; exact zlv_f1 h4 hne (fun _ => rfl), h5⟩
theorem yD_2 {D : List (Nat × Int)} {lv0 lv : zL} {k : Nat} {v : Value} (h : yD D lv0 lv) : yD (D.filter fun q => !(q.1 == k) && !(q.1 == k + 1)) lv0 ((k, v) :: zf2 k lv) := by
  intro q hq
  obtain ⟨h1, h2⟩ := List.mem_filter.mp hq
  obtain ⟨x0, x, h3, h4, h5⟩ := h q h1
  have hne : q.1 ≠ k ∧ q.1 ≠ k + 1 := by simpa using h2
  exact ⟨x0, x, h3, by rw [zlv_cons_ne hne.1]; exact zlv_f2 h4 hne.1 hne.2 (fun _ => rfl), h5⟩
theorem yD_i {D : List (Nat × Int)} {lv0 lv : zL} {k : Nat} {x y : Int32} (h : yD D lv0 lv) (hx : zlv lv k = some (.int x)) (he : (x + y).toInt = x.toInt + y.toInt) : yD (D.map fun q => if q.1 = k then (q.1, q.2 + y.toInt) else q) lv0 ((k, .int (x + y)) :: zf1 k lv) := by
  intro q hq
  obtain ⟨p, hp, e⟩ := List.mem_map.mp hq
  obtain ⟨x0, x', h3, h4, h5⟩ := h p hp
  by_cases hk : p.1 = k
  · rw [if_pos hk] at e
    subst e
    rw [hk] at h4
    have e2 : x = x' := Value.int.inj (Option.some.inj (hx.symm.trans h4))
    subst e2
    refine ⟨x0, x + y, h3, ?_, by rw [he]; dsimp only; omega⟩
    show zlv _ p.1 = _
    rw [hk]
    exact zlv_cons
  · rw [if_neg hk] at e
    subst e
    exact ⟨x0, x', h3, by rw [zlv_cons_ne hk]; exact zlv_f1 h4 hk (fun _ => rfl), h5⟩
/-- a counter that is watched doesn't leave the ints -/
def yir (i : Instr) (L : yL) (D : List (Nat × Int)) : Bool := match i with
  | .iinc k n => (D.all fun q => !(q.1 == k)) || (match ylk L k with
    | some (.inl q) => decide (-2147483648 ≤ q.1 + (Int32.ofInt n).toInt ∧ q.2 + (Int32.ofInt n).toInt ≤ 2147483647)
    | _ => false)
  | _ => true
theorem yD_n {D : List (Nat × Int)} {lv0 lv : zL} {k : Nat} {y : Int} {v : Value} (h : yD D lv0 lv) (hn : D.all (fun q => !(q.1 == k)) = true) : yD (D.map fun q => if q.1 = k then (q.1, q.2 + y) else q) lv0 ((k, v) :: zf1 k lv) := by
  intro q hq
  obtain ⟨p, hp, e⟩ := List.mem_map.mp hq
  obtain ⟨x0, x', h3, h4, h5⟩ := h p hp
  have hk : ¬ p.1 = k := by simpa using List.all_eq_true.mp hn p hp
  rw [if_neg hk] at e
  subst e
  exact ⟨x0, x', h3, by rw [zlv_cons_ne hk]; exact zlv_f1 h4 hk (fun _ => rfl), h5⟩
theorem yupd_sound {i : Instr} {v : Value} {nL pc : Nat} {L : yL} {S : yS} {ss : List yN} {lv0 lv : zL} {st : List Value} {q : Nat × zL × List Value} {D : List (Nat × Int)} (h : ya i v nL pc L S = some ss) (hl : yl L lv) (ha : za i v nL pc lv st = some q) (hi : yir i L D = true) (hD : yD D lv0 lv) : yD (yupd i D) lv0 q.2.1 := by
  cases i with
  | iinc k n =>
    simp only [ya] at h
    split at h
    · rename_i w hw
      split at h
      · rename_i hz
        obtain ⟨x, h1, h2, h3⟩ := yl_i hl hw
        simp only [za, h1] at ha
        rw [if_pos hz] at ha
        cases ha
        simp only [yir, Bool.or_eq_true, hw, decide_eq_true_eq] at hi
        rcases hi with hi | hi
        · exact yD_n hD hi
        · exact yD_i hD h1 (y_add (by omega) (by omega))
      · cases h
    · cases h
  | istore_n k =>
    simp only [za] at ha
    split at ha
    · split at ha
      · cases ha; exact yD_1 hD
      · cases ha
    · cases ha
  | istore k =>
    simp only [za] at ha
    split at ha
    · split at ha
      · cases ha; exact yD_1 hD
      · cases ha
    · cases ha
  | astore_n k =>
    simp only [za] at ha
    split at ha
    · split at ha
      · cases ha; exact yD_1 hD
      · cases ha
    · cases ha
  | astore k =>
    simp only [za] at ha
    split at ha
    · split at ha
      · cases ha; exact yD_1 hD
      · cases ha
    · cases ha
  | lstore_n k =>
    simp only [za] at ha
    split at ha
    · split at ha
      · cases ha; exact yD_2 hD
      · cases ha
    · cases ha
  | lstore k =>
    simp only [za] at ha
    split at ha
    · split at ha
      · cases ha; exact yD_2 hD
      · cases ha
    · cases ha
  | _ =>
    have e : q.2.1 = lv := by
      simp only [za] at ha
      repeat' split at ha
      all_goals first | (cases ha; done) | (cases ha; rfl)
    rw [e]
    exact hD
