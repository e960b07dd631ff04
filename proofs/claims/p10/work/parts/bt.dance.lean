/-! The way home, told once for both sides. -/
abbrev sNd := List Nat × (Nat → Int)
def wN0 : sNd := ([], fun _ => 0)
/-- where a call leads from a place, if it can be danced -/
def wk1 (b : Nat → List sB) (al : Nat → Bool) (x : sNd) (k : Nat) : List sNd := if al k = true ∧ sres (b k) false x.2 (b k).length = 0 then [(x.1 ++ [k], srow (b k) false x.2 (b k).length)] else []
def wkT (b : Nat → List sB) (al : Nat → Bool) (x : sNd) : Nat → List sNd
  | 0 => []
  | k + 1 => wkT b al x k ++ wk1 b al x k
def wkF (b : Nat → List sB) (al : Nat → Bool) (n : Nat) (x : sNd) : Nat → List sNd
  | 0 => []
  | j + 1 => wk1 b al x (n - 1 - j) ++ wkF b al n x j
theorem wkT_F (b : Nat → List sB) (al : Nat → Bool) (n : Nat) (x : sNd) : ∀ j, j ≤ n → wkT b al x (n - j) ++ wkF b al n x j = wkT b al x n := by
  intro j
  induction j with
  | zero => intro _; exact List.append_nil _
  | succ j ih =>
    intro h
    rw [← ih (by omega), show n - j = (n - (j + 1)) + 1 by omega]
    show wkT b al x (n - (j + 1)) ++ (wk1 b al x (n - 1 - j) ++ wkF b al n x j) = (wkT b al x (n - (j + 1)) ++ wk1 b al x (n - (j + 1))) ++ wkF b al n x j
    rw [List.append_assoc, show n - 1 - j = n - (j + 1) by omega]
theorem wkF_all (b : Nat → List sB) (al : Nat → Bool) (n : Nat) (x : sNd) : wkF b al n x n = wkT b al x n := by
  have e := wkT_F b al n x n (Nat.le_refl n)
  rw [Nat.sub_self] at e
  exact e
/-- rows of m calls more -/
def wext (b : Nat → List sB) (al : Nat → Bool) (n : Nat) : Nat → sNd → List sNd
  | 0, x => [x]
  | m + 1, x => (wkT b al x n).flatMap (wext b al n m)
theorem flatMap_nil' {α β : Type} (g : α → List β) : ([] : List α).flatMap g = [] := rfl
theorem flatMap_cons' {α β : Type} (g : α → List β) (a : α) (l : List α) : (a :: l).flatMap g = g a ++ l.flatMap g := rfl
theorem flatMap_app' {α β : Type} (g : α → List β) : ∀ (l l' : List α), (l ++ l').flatMap g = l.flatMap g ++ l'.flatMap g := by
  intro l
  induction l with
  | nil => intro l'; rfl
  | cons a l ih => intro l'; rw [List.cons_append, flatMap_cons', flatMap_cons', ih, List.append_assoc]
theorem flatMap_assoc' {α β γ : Type} (g : α → List β) (h : β → List γ) : ∀ l : List α, (l.flatMap g).flatMap h = l.flatMap (fun a => (g a).flatMap h) := by
  intro l
  induction l with
  | nil => rfl
  | cons a l ih => rw [flatMap_cons', flatMap_app', ih]; rfl
theorem flatMap_congr' {α β : Type} {g h : α → List β} (e : ∀ a, g a = h a) : ∀ l : List α, l.flatMap g = l.flatMap h := by
  intro l
  induction l with
  | nil => rfl
  | cons a l ih => rw [flatMap_cons', flatMap_cons', ih, e]
theorem flatMap_one {α : Type} : ∀ l : List α, l.flatMap (fun a => [a]) = l := by
  intro l
  induction l with
  | nil => rfl
  | cons a l ih => rw [flatMap_cons', ih]; rfl
theorem wext_s (b : Nat → List sB) (al : Nat → Bool) (n : Nat) : ∀ (m : Nat) (x : sNd), wext b al n (m + 1) x = (wext b al n m x).flatMap (fun y => wkT b al y n) := by
  intro m
  induction m with
  | zero =>
    intro x
    show (wkT b al x n).flatMap (fun y => [y]) = [x].flatMap (fun y => wkT b al y n)
    rw [flatMap_one, flatMap_cons', flatMap_nil', List.append_nil]
  | succ m ih =>
    intro x
    show (wkT b al x n).flatMap (wext b al n (m + 1)) = ((wkT b al x n).flatMap (wext b al n m)).flatMap (fun y => wkT b al y n)
    rw [flatMap_assoc']
    exact flatMap_congr' (fun y => ih y) _
def whm (x : sNd) : Bool := sall (fun d => x.2 d == shome d) 8
def wfd (b : Nat → List sB) (al : Nat → Bool) (n : Nat) (r : Nat → Int) (m : Nat) : Option sNd := (wext b al n m ([], r)).find? whm
/-- from rows of m calls on: how many, and which -/
def wrs (b : Nat → List sB) (al : Nat → Bool) (n : Nat) (r : Nat → Int) : Nat → Nat → Int × List Nat
  | 0, _ => (-1, [])
  | k + 1, m => match wfd b al n r m with
    | some x => ((m : Nat), x.1)
    | none => wrs b al n r k (m + 1)
def wres (b : Nat → List sB) (al : Nat → Bool) (n : Nat) (r : Nat → Int) : Int × List Nat := if whm ([], r) = true then (0, []) else wrs b al n r 4 1
theorem wk1_len (b : Nat → List sB) (al : Nat → Bool) (x : sNd) (k : Nat) : ((wk1 b al x k).length : Int) ≤ if al k = true then 1 else 0 := by
  unfold wk1
  split
  · rename_i h
    rw [if_pos h.1, List.length_singleton]
    decide
  · split <;> simp
theorem wkT_len (b : Nat → List sB) (al : Nat → Bool) (x : sNd) : ∀ k, ((wkT b al x k).length : Int) ≤ scnt al k := by
  intro k
  induction k with
  | zero => exact Int.le_refl _
  | succ k ih =>
    have h := wk1_len b al x k
    show ((wkT b al x k ++ wk1 b al x k).length : Int) ≤ scnt al k + if al k = true then 1 else 0
    rw [List.length_append]
    omega
theorem flatMap_len {α β : Type} {g : α → List β} (h : ∀ a, (g a).length ≤ 5) : ∀ l : List α, (l.flatMap g).length ≤ 5 * l.length := by
  intro l
  induction l with
  | nil => exact Nat.le_refl _
  | cons a l ih =>
    have := h a
    rw [flatMap_cons', List.length_append, List.length_cons]
    omega
theorem wext_len {b : Nat → List sB} {al : Nat → Bool} {n : Nat} (h5 : scnt al n ≤ 5) (m : Nat) (x : sNd) : (wext b al n (m + 1) x).length ≤ 5 * (wext b al n m x).length := by
  rw [wext_s]
  refine flatMap_len (fun y => ?_) _
  have := wkT_len b al y n
  omega
/-- rows of less than L calls -/
def wcat (b : Nat → List sB) (al : Nat → Bool) (n : Nat) (r : Nat → Int) : Nat → List sNd
  | 0 => []
  | L + 1 => wcat b al n r L ++ wext b al n L ([], r)
theorem wcat_len {b : Nat → List sB} {al : Nat → Bool} {n : Nat} {r : Nat → Int} (h5 : scnt al n ≤ 5) : (wcat b al n r 4).length ≤ 156 := by
  have e0 : (wext b al n 0 ([], r)).length = 1 := rfl
  have e1 : (wext b al n 1 ([], r)).length ≤ 5 * (wext b al n 0 ([], r)).length := wext_len (b := b) h5 0 ([], r)
  have e2 : (wext b al n 2 ([], r)).length ≤ 5 * (wext b al n 1 ([], r)).length := wext_len (b := b) h5 1 ([], r)
  have e3 : (wext b al n 3 ([], r)).length ≤ 5 * (wext b al n 2 ([], r)).length := wext_len (b := b) h5 2 ([], r)
  show ((((([] ++ wext b al n 0 ([], r)) ++ wext b al n 1 ([], r)) ++ wext b al n 2 ([], r)) ++ wext b al n 3 ([], r))).length ≤ 156
  simp only [List.length_append, List.length_nil]
  omega
theorem wcat_mono {b : Nat → List sB} {al : Nat → Bool} {n : Nat} {r : Nat → Int} : ∀ {L L' : Nat}, L ≤ L' → (wcat b al n r L).length ≤ (wcat b al n r L').length := by
  intro L L' h
  induction L' with
  | zero => rw [show L = 0 by omega]; exact Nat.le_refl _
  | succ k ih =>
    by_cases e : L = k + 1
    · rw [e]; exact Nat.le_refl _
    · have := ih (by omega)
      show _ ≤ (wcat b al n r k ++ wext b al n k ([], r)).length
      rw [List.length_append]
      omega
/-- paths are as long as they should be, and have calls alone -/
theorem wkT_mem {b : Nat → List sB} {al : Nat → Bool} {x y : sNd} : ∀ k, y ∈ wkT b al x k → ∃ c, c < k ∧ al c = true ∧ sres (b c) false x.2 (b c).length = 0 ∧ y = (x.1 ++ [c], srow (b c) false x.2 (b c).length) := by
  intro k
  induction k with
  | zero => intro h; cases h
  | succ k ih =>
    intro h
    rcases List.mem_append.mp h with h1 | h1
    · obtain ⟨c, c1, c2⟩ := ih h1
      exact ⟨c, by omega, c2⟩
    · unfold wk1 at h1
      split at h1
      · rename_i hk
        exact ⟨k, Nat.lt_succ_self k, hk.1, hk.2, List.mem_singleton.mp h1⟩
      · cases h1
theorem wext_mem {b : Nat → List sB} {al : Nat → Bool} {n : Nat} : ∀ (m : Nat) (x y : sNd), y ∈ wext b al n m x → y.1.length = x.1.length + m ∧ ((∀ c ∈ x.1, c < n) → ∀ c ∈ y.1, c < n) := by
  intro m
  induction m with
  | zero =>
    intro x y h
    rw [List.mem_singleton.mp h]
    exact ⟨rfl, fun h => h⟩
  | succ m ih =>
    intro x y h
    obtain ⟨z, hz, hy⟩ := List.mem_flatMap.mp h
    obtain ⟨c, c1, -, -, e⟩ := wkT_mem n hz
    obtain ⟨h1, h2⟩ := ih z y hy
    subst e
    refine ⟨by rw [h1, List.length_append, List.length_singleton]; omega, fun hx => h2 fun d hd => ?_⟩
    rcases List.mem_append.mp hd with h3 | h3
    · exact hx d h3
    · rw [List.mem_singleton.mp h3]
      exact c1
theorem wrs_rg {b : Nat → List sB} {al : Nat → Bool} {n : Nat} {r : Nat → Int} : ∀ k m : Nat, -1 ≤ (wrs b al n r k m).1 ∧ (wrs b al n r k m).1 < ((m + k : Nat) : Int) ∧ ((wrs b al n r k m).1 = -1 ∨ ((wrs b al n r k m).2.length : Int) = (wrs b al n r k m).1) ∧ ∀ c ∈ (wrs b al n r k m).2, c < n := by
  intro k
  induction k with
  | zero =>
    intro m
    refine ⟨by show (-1 : Int) ≤ -1; omega, by show (-1 : Int) < _; omega, Or.inl rfl, fun c hc => by cases hc⟩
  | succ k ih =>
    intro m
    cases hf : wfd b al n r m with
    | some x =>
      have e : wrs b al n r (k + 1) m = (((m : Nat) : Int), x.1) := by
        show (match wfd b al n r m with
          | some x => (((m : Nat) : Int), x.1)
          | none => wrs b al n r k (m + 1)) = _
        rw [hf]
      obtain ⟨h1, h2⟩ := wext_mem m _ _ (List.mem_of_find?_eq_some hf)
      rw [e]
      refine ⟨by show (-1 : Int) ≤ (m : Nat); omega, by show ((m : Nat) : Int) < _; omega, Or.inr (by rw [h1]; simp), h2 fun c hc => by cases hc⟩
    | none =>
      have e : wrs b al n r (k + 1) m = wrs b al n r k (m + 1) := by
        show (match wfd b al n r m with
          | some x => (((m : Nat) : Int), x.1)
          | none => wrs b al n r k (m + 1)) = _
        rw [hf]
      rw [e, show m + (k + 1) = m + 1 + k by omega]
      exact ih (m + 1)
theorem find_app {α : Type} {p : α → Bool} : ∀ (l l' : List α), l.find? p = none → (l ++ l').find? p = l'.find? p := by
  intro l
  induction l with
  | nil => intro l' _; rfl
  | cons a l ih =>
    intro l' h
    rw [List.find?_cons] at h
    split at h
    · cases h
    · rename_i hp
      rw [List.cons_append, List.find?_cons, hp]
      exact ih l' h
theorem find_app_some {α : Type} {p : α → Bool} {a : α} : ∀ (l l' : List α), l.find? p = some a → (l ++ l').find? p = some a := by
  intro l
  induction l with
  | nil => intro l' h; cases h
  | cons b l ih =>
    intro l' h
    rw [List.find?_cons] at h
    rw [List.cons_append, List.find?_cons]
    split at h
    · rename_i hp
      exact h
    · rename_i hp
      exact ih l' h
theorem find_none_app {α : Type} {p : α → Bool} {l l' : List α} (h1 : l.find? p = none) (h2 : l'.find? p = none) : (l ++ l').find? p = none := by
  rw [find_app l l' h1]
  exact h2
