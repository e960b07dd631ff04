/-! Abstract locals and stacks; a stack entry tells the local from which it was loaded (0: none). -/
abbrev yL : Type := List (Nat × yA)
abbrev yS : Type := List (yA × Nat)
def ylk : yL → Nat → Option yA
  | [], _ => none
  | q :: r, i => if q.1 = i then some q.2 else ylk r i
def yl (L : yL) (lv : zL) : Prop := ∀ q ∈ L, ∃ v, zlv lv q.1 = some v ∧ yg q.2 v
def ys : yS → List Value → zL → Prop
  | [], [], _ => True
  | q :: S, v :: st, lv => yg q.1 v ∧ (∀ k, q.2 = k + 1 → zlv lv k = some v ∧ v.category = 1) ∧ ys S st lv
  | _, _, _ => False
def ylg (a : yA) : Bool := match a with
  | .inr (.inl _) => true
  | _ => false
theorem yg_cat {a : yA} {v : Value} (h : yg a v) (hl : ylg a = false) : v.category = 1 := by
  unfold yg at h
  split at h
  · obtain ⟨x, rfl, -⟩ := h; rfl
  · cases hl
  · obtain ⟨o, rfl, -⟩ := h; rfl
def ydrop (k : Nat) (L : yL) : yL := L.filter fun q => !(q.1 == k) && !(q.1 + 1 == k && ylg q.2)
def ydrop2 (k : Nat) (L : yL) : yL := L.filter fun q => !(q.1 == k) && (!(q.1 == k + 1) && !(q.1 + 1 == k && ylg q.2))
def yinv (k : Nat) (S : yS) : yS := S.map fun q => if q.2 = k + 1 then (q.1, 0) else q
def yinv2 (k : Nat) (S : yS) : yS := S.map fun q => if q.2 = k + 1 ∨ q.2 = k + 2 then (q.1, 0) else q
theorem ylk_mem {L : yL} {k : Nat} {a : yA} (h : ylk L k = some a) : (k, a) ∈ L := by
  induction L with
  | nil => cases h
  | cons q r ih =>
    simp only [ylk] at h
    split at h
    · rename_i hq
      cases h
      subst hq
      exact List.mem_cons_self
    · exact List.mem_cons_of_mem _ (ih h)
theorem yl_at {L : yL} {lv : zL} {k : Nat} {a : yA} (hl : yl L lv) (h : ylk L k = some a) : ∃ v, zlv lv k = some v ∧ yg a v := hl _ (ylk_mem h)
theorem zlv_f1 {lv : zL} {j k : Nat} {v : Value} (h : zlv lv j = some v) (hj : j ≠ k) (hc : j + 1 = k → v.category = 1) : zlv (zf1 k lv) j = some v := by
  induction lv with
  | nil => cases h
  | cons q r ih =>
    simp only [zlv] at h
    unfold zf1
    by_cases hq : q.1 = j
    · rw [if_pos hq] at h
      cases h
      have hk : (!(q.1 == k) && !(q.1 + 1 == k && q.2.category == 2)) = true := by
        by_cases h1 : j + 1 = k
        · have := hc h1
          simp [hq, hj, this]
        · simp [hq, hj, h1]
      rw [List.filter_cons, if_pos hk]
      simp [zlv, hq]
    · rw [if_neg hq] at h
      have := ih h
      unfold zf1 at this
      rw [List.filter_cons]
      split
      · simp only [zlv]
        rw [if_neg hq]
        exact this
      · exact this
theorem zlv_f2 {lv : zL} {j k : Nat} {v : Value} (h : zlv lv j = some v) (hj : j ≠ k) (hj2 : j ≠ k + 1) (hc : j + 1 = k → v.category = 1) : zlv (zf2 k lv) j = some v := by
  induction lv with
  | nil => cases h
  | cons q r ih =>
    simp only [zlv] at h
    unfold zf2
    by_cases hq : q.1 = j
    · rw [if_pos hq] at h
      cases h
      have hk : (!(q.1 == k) && (!(q.1 == k + 1) && !(q.1 + 1 == k && q.2.category == 2))) = true := by
        by_cases h1 : j + 1 = k
        · have := hc h1
          simp [hq, hj, hj2, this]
        · simp [hq, hj, hj2, h1]
      rw [List.filter_cons, if_pos hk]
      simp [zlv, hq]
    · rw [if_neg hq] at h
      have := ih h
      unfold zf2 at this
      rw [List.filter_cons]
      split
      · simp only [zlv]
        rw [if_neg hq]
        exact this
      · exact this
theorem zlv_cons {lv : zL} {k : Nat} {v : Value} : zlv ((k, v) :: lv) k = some v := by simp [zlv]
theorem zlv_cons_ne {lv : zL} {j k : Nat} {v : Value} (h : j ≠ k) : zlv ((k, v) :: lv) j = zlv lv j := by
  simp only [zlv]
  rw [if_neg (fun e => h e.symm)]
/-- a local of one slot is stored -/
theorem yl_put {L : yL} {lv : zL} {k : Nat} {a : yA} {v : Value} (hl : yl L lv) (hv : yg a v) : yl ((k, a) :: ydrop k L) ((k, v) :: zf1 k lv) := by
  intro q hq
  rcases List.mem_cons.mp hq with rfl | hq
  · exact ⟨v, zlv_cons, hv⟩
  · obtain ⟨h1, h2⟩ := List.mem_filter.mp hq
    obtain ⟨w, h3, h4⟩ := hl q h1
    simp only [Bool.and_eq_true, Bool.not_eq_true', beq_eq_false_iff_ne, ne_eq, Bool.and_eq_false_iff] at h2
    refine ⟨w, ?_, h4⟩
    rw [zlv_cons_ne h2.1]
    refine zlv_f1 h3 h2.1 fun e => ?_
    rcases h2.2 with h5 | h5
    · exact absurd e h5
    · exact yg_cat h4 h5
theorem yl_put2 {L : yL} {lv : zL} {k : Nat} {a : yA} {v : Value} (hl : yl L lv) (hv : yg a v) : yl ((k, a) :: ydrop2 k L) ((k, v) :: zf2 k lv) := by
  intro q hq
  rcases List.mem_cons.mp hq with rfl | hq
  · exact ⟨v, zlv_cons, hv⟩
  · obtain ⟨h1, h2⟩ := List.mem_filter.mp hq
    obtain ⟨w, h3, h4⟩ := hl q h1
    simp only [Bool.and_eq_true, Bool.not_eq_true', beq_eq_false_iff_ne, ne_eq, Bool.and_eq_false_iff] at h2
    refine ⟨w, ?_, h4⟩
    rw [zlv_cons_ne h2.1]
    refine zlv_f2 h3 h2.1 h2.2.1 fun e => ?_
    rcases h2.2.2 with h5 | h5
    · exact absurd e h5
    · exact yg_cat h4 h5
theorem ys_inv {S : yS} : ∀ {st : List Value} {lv : zL} {k : Nat} {v : Value}, ys S st lv → ys (yinv k S) st ((k, v) :: zf1 k lv) := by
  induction S with
  | nil => intro st lv k v h; cases st with
    | nil => trivial
    | cons w r => exact h
  | cons q S ih => intro st lv k v h; cases st with
    | nil => exact h.elim
    | cons w r =>
      obtain ⟨h1, h2, h3⟩ := h
      simp only [yinv, List.map_cons]
      refine ⟨?_, ?_, ih h3⟩
      · split <;> exact h1
      · intro j hj
        split at hj
        · cases hj
        · rename_i hne
          obtain ⟨h4, h5⟩ := h2 j hj
          have hjk : j ≠ k := fun e => hne (by rw [hj, e])
          exact ⟨by rw [zlv_cons_ne hjk]; exact zlv_f1 h4 hjk (fun _ => h5), h5⟩
theorem ys_inv2 {S : yS} : ∀ {st : List Value} {lv : zL} {k : Nat} {v : Value}, ys S st lv → ys (yinv2 k S) st ((k, v) :: zf2 k lv) := by
  induction S with
  | nil => intro st lv k v h; cases st with
    | nil => trivial
    | cons w r => exact h
  | cons q S ih => intro st lv k v h; cases st with
    | nil => exact h.elim
    | cons w r =>
      obtain ⟨h1, h2, h3⟩ := h
      simp only [yinv2, List.map_cons]
      refine ⟨?_, ?_, ih h3⟩
      · split <;> exact h1
      · intro j hj
        split at hj
        · cases hj
        · rename_i hne
          obtain ⟨h4, h5⟩ := h2 j hj
          have hjk : j ≠ k := fun e => hne (Or.inl (by rw [hj, e]))
          have hjk2 : j ≠ k + 1 := fun e => hne (Or.inr (by rw [hj, e]))
          exact ⟨by rw [zlv_cons_ne hjk]; exact zlv_f2 h4 hjk hjk2 (fun _ => h5), h5⟩
/-- what is known better of a local -/
def yset (p : Nat) (a : yA) (L : yL) : yL := match p with
  | 0 => L
  | k + 1 => (k, a) :: L.filter fun q => !(q.1 == k)
theorem yl_set {L : yL} {lv : zL} {p : Nat} {a : yA} {v : Value} (hl : yl L lv) (hp : ∀ k, p = k + 1 → zlv lv k = some v ∧ v.category = 1) (hv : yg a v) : yl (yset p a L) lv := by
  cases p with
  | zero => exact hl
  | succ k =>
    intro q hq
    rcases List.mem_cons.mp hq with rfl | hq
    · exact ⟨v, (hp k rfl).1, hv⟩
    · exact hl q (List.mem_filter.mp hq).1
