/-! The heap's types: an object: its class and its fields' types; an array: its kind and runs of cells with their interval. -/
abbrev yC : Type := (Nat × List yA) ⊕ ((Nat × List (Nat × Int × Int)) ⊕ (Nat ⊕ (Nat × List (List Nat))))
def ysum : List (Nat × Int × Int) → Nat
  | [] => 0
  | q :: r => q.1 + ysum r
def yat : List (Nat × Int × Int) → Nat → Option (Int × Int)
  | [], _ => none
  | q :: r, j => if j < q.1 then some q.2 else yat r (j - q.1)
/-- all runs that meet lo .. hi -/
def yall (P : Int × Int → Bool) (lo hi : Nat) : List (Nat × Int × Int) → Nat → Bool
  | [], _ => true
  | q :: r, off => (decide (off + q.1 ≤ lo) || decide (hi < off) || P q.2) && yall P lo hi r (off + q.1)
theorem yall_spec {P : Int × Int → Bool} {lo hi : Nat} : ∀ {l : List (Nat × Int × Int)} {off j : Nat} {q : Int × Int}, yall P lo hi l off = true → lo ≤ off + j → off + j ≤ hi → yat l j = some q → P q = true := by
  intro l
  induction l with
  | nil => intro off j q _ _ _ h; cases h
  | cons a r ih =>
    intro off j q h h1 h2 h3
    simp only [yall, Bool.and_eq_true, Bool.or_eq_true, decide_eq_true_eq] at h
    simp only [yat] at h3
    split at h3
    · rename_i hj
      cases h3
      rcases h.1 with (h4 | h4) | h4
      · omega
      · omega
      · exact h4
    · exact ih h.2 (by omega) (by omega) h3
theorem yat_some : ∀ {l : List (Nat × Int × Int)} {j : Nat}, j < ysum l → ∃ q, yat l j = some q := by
  intro l
  induction l with
  | nil => intro j h; exact absurd h (Nat.not_lt_zero _)
  | cons a r ih =>
    intro j h
    simp only [ysum] at h
    simp only [yat]
    split
    · exact ⟨_, rfl⟩
    · exact ih (by omega)
def yok (t : yC) (c : zE) : Prop := match t, c with
  | .inl x, .inl o => x.1 = o.1 ∧ x.2.length = o.2.length ∧ ∀ (k : Nat) (a : yA) (v : Value), x.2[k]? = some a → o.2[k]? = some v → yg a v
  | .inr (.inl x), .inr (.inl y) => x.1 = y.1 ∧ y.2.length = ysum x.2 ∧ ∀ (j : Nat) (q : Int × Int) (z : Int32), yat x.2 j = some q → y.2[j]? = some z → yin q z
  | .inr (.inr (.inl n)), .inr (.inr (.inl xs)) => xs.length = n
  | .inr (.inr (.inr x)), .inr (.inr (.inr y)) => x.1 = y.1 ∧ x.2.length = y.2.length ∧ ∀ (j : Nat) (os : List Nat) (p : Option Nat), x.2[j]? = some os → y.2[j]? = some p → ∃ o, p = some o ∧ o ∈ os
  | _, _ => False
def yM (T : List yC) (M : List zE) : Prop := M.length = T.length ∧ ∀ (j : Nat) (t : yC), T[j]? = some t → ∃ c, M[j]? = some c ∧ yok t c
theorem yM_at {T : List yC} {M : List zE} (h : yM T M) {j : Nat} {t : yC} (ht : T[j]? = some t) : ∃ c, M[j]? = some c ∧ yok t c := h.2 j t ht
theorem yM_set {T : List yC} {M : List zE} {j : Nat} {t : yC} {c : zE} (h : yM T M) (ht : T[j]? = some t) (hc : yok t c) : yM T (M.set j c) := by
  refine ⟨by simp [h.1], fun k u hu => ?_⟩
  by_cases hk : j = k
  · subst hk
    cases ht.symm.trans hu
    have hlt : j < M.length := by rw [h.1]; exact (List.getElem?_eq_some_iff.mp ht).1
    exact ⟨c, by simp [hlt], hc⟩
  · obtain ⟨d, h1, h2⟩ := h.2 k u hu
    exact ⟨d, by rw [List.getElem?_set_ne hk]; exact h1, h2⟩
def yrd (Tg T : List yC) (o : Nat) : Option yC := if o < 50 then (if o = 0 then none else Tg[o]?) else T[o - 50]?
/-- the given cells' types, as far as they are told -/
def yMg (Tg : List yC) (G : List zE) : Prop := ∀ (j : Nat) (t : yC), ¬ j = 0 → Tg[j]? = some t → ∃ c, G[j]? = some c ∧ yok t c
theorem yrd_sound {Tg T : List yC} {G : List zE} {X : zX} {o : Nat} {t : yC} (hg : yMg Tg G) (hM : yM T X.1) (h : yrd Tg T o = some t) : ∃ c, zrd G X o = some c ∧ yok t c := by
  unfold yrd at h
  unfold zrd
  split at h
  · rename_i ho
    rw [if_pos ho]
    split at h
    · cases h
    · rename_i h0
      exact hg o t h0 h
  · rename_i ho
    rw [if_neg ho]
    exact hM.2 _ _ h
def yle (a b : yA) : Bool := match a, b with
  | .inl x, .inl y => decide (y.1 ≤ x.1) && decide (x.2 ≤ y.2)
  | .inr (.inl _), .inr (.inl _) => true
  | .inr (.inr x), .inr (.inr y) => x.all fun o => y.elem o
  | _, _ => false
theorem yle_sound {a b : yA} {v : Value} (h : yle a b = true) (hv : yg a v) : yg b v := by
  unfold yle at h
  split at h
  · obtain ⟨x, e, h1, h2⟩ := hv
    simp only [Bool.and_eq_true, decide_eq_true_eq] at h
    exact ⟨x, e, by omega, by omega⟩
  · exact hv
  · obtain ⟨o, e, h1⟩ := hv
    exact ⟨o, e, List.elem_iff.mp (List.all_eq_true.mp h o h1)⟩
  · cases h
def yhull (a b : yA) : yA := match a, b with
  | .inl x, .inl y => .inl (ymin x.1 y.1, ymax x.2 y.2)
  | .inr (.inr x), .inr (.inr y) => .inr (.inr (x ++ y.filter fun o => !(x.elem o)))
  | a, _ => a
def yjoin : List yA → Option yA
  | [] => none
  | a :: r => match yjoin r with
    | none => some a
    | some b => some (yhull a b)
/-- the hull of all runs that meet lo .. hi -/
def yruns (lo hi : Nat) : List (Nat × Int × Int) → Nat → List yA
  | [], _ => []
  | q :: r, off => if off + q.1 ≤ lo ∨ hi < off then yruns lo hi r (off + q.1) else .inl q.2 :: yruns lo hi r (off + q.1)
