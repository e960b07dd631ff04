section
/-! The way home, told once for both sides. -/
abbrev sNd := List Nat × (Nat → Int)
def wN0 : sNd := ([], fun _ => 0)
/-- where a call leads from a place, if it can be danced -/
def wk1 (b : Nat → List sB) (al : Nat → Bool) (x : sNd) (k : Nat) : List sNd := if al k = true ∧ sres (b k) false x.2 (b k).length = 0 then [(x.1 ++ [k], srow (b k) false x.2 (b k).length)] else []
def wkT (b : Nat → List sB) (al : Nat → Bool) (x : sNd) : Nat → List sNd
  | 0 => []
  | k + 1 => wkT b al x k ++ wk1 b al x k
def wkF (b : Nat → List sB) (al : Nat → Bool) (n : Nat) (x : sNd) : Nat → List sNd
  | 0 => []
  | j + 1 => wk1 b al x (n - 1 - j) ++ wkF b al n x j
theorem wkT_F (b : Nat → List sB) (al : Nat → Bool) (n : Nat) (x : sNd) : ∀ j, j ≤ n → wkT b al x (n - j) ++ wkF b al n x j = wkT b al x n := by
  intro j
  induction j with
  | zero => intro _; exact List.append_nil _
  | succ j ih =>
    intro h
    rw [← ih (by omega), show n - j = (n - (j + 1)) + 1 by omega]
    show wkT b al x (n - (j + 1)) ++ (wk1 b al x (n - 1 - j) ++ wkF b al n x j) = (wkT b al x (n - (j + 1)) ++ wk1 b al x (n - (j + 1))) ++ wkF b al n x j
    rw [List.append_assoc, show n - 1 - j = n - (j + 1) by omega]
theorem wkF_all (b : Nat → List sB) (al : Nat → Bool) (n : Nat) (x : sNd) : wkF b al n x n = wkT b al x n := by
  have e := wkT_F b al n x n (Nat.le_refl n)
  rw [Nat.sub_self] at e
  exact e
/-- rows of m calls more -/
def wext (b : Nat → List sB) (al : Nat → Bool) (n : Nat) : Nat → sNd → List sNd
  | 0, x => [x]
  | m + 1, x => (wkT b al x n).flatMap (wext b al n m)
theorem flatMap_nil' {α β : Type} (g : α → List β) : ([] : List α).flatMap g = [] := rfl
theorem flatMap_cons' {α β : Type} (g : α → List β) (a : α) (l : List α) : (a :: l).flatMap g = g a ++ l.flatMap g := rfl
theorem flatMap_app' {α β : Type} (g : α → List β) : ∀ (l l' : List α), (l ++ l').flatMap g = l.flatMap g ++ l'.flatMap g := by
  intro l
  induction l with
  | nil => intro l'; rfl
  | cons a l ih => intro l'; rw [List.cons_append, flatMap_cons', flatMap_cons', ih, List.append_assoc]
theorem flatMap_assoc' {α β γ : Type} (g : α → List β) (h : β → List γ) : ∀ l : List α, (l.flatMap g).flatMap h = l.flatMap (fun a => (g a).flatMap h) := by
  intro l
  induction l with
  | nil => rfl
  | cons a l ih => rw [flatMap_cons', flatMap_app', ih]; rfl
theorem flatMap_congr' {α β : Type} {g h : α → List β} (e : ∀ a, g a = h a) : ∀ l : List α, l.flatMap g = l.flatMap h := by
  intro l
  induction l with
  | nil => rfl
  | cons a l ih => rw [flatMap_cons', flatMap_cons', ih, e]
theorem flatMap_one {α : Type} : ∀ l : List α, l.flatMap (fun a => [a]) = l := by
  intro l
  induction l with
  | nil => rfl
  | cons a l ih => rw [flatMap_cons', ih]; rfl
theorem wext_s (b : Nat → List sB) (al : Nat → Bool) (n : Nat) : ∀ (m : Nat) (x : sNd), wext b al n (m + 1) x = (wext b al n m x).flatMap (fun y => wkT b al y n) := by
  intro m
  induction m with
  | zero =>
    intro x
    show (wkT b al x n).flatMap (fun y => [y]) = [x].flatMap (fun y => wkT b al y n)
    rw [flatMap_one, flatMap_cons', flatMap_nil', List.append_nil]
  | succ m ih =>
    intro x
    show (wkT b al x n).flatMap (wext b al n (m + 1)) = ((wkT b al x n).flatMap (wext b al n m)).flatMap (fun y => wkT b al y n)
    rw [flatMap_assoc']
    exact flatMap_congr' (fun y => ih y) _
def whm (x : sNd) : Bool := sall (fun d => x.2 d == shome d) 8
def wfd (b : Nat → List sB) (al : Nat → Bool) (n : Nat) (r : Nat → Int) (m : Nat) : Option sNd := (wext b al n m ([], r)).find? whm
/-- from rows of m calls on: how many, and which -/
def wrs (b : Nat → List sB) (al : Nat → Bool) (n : Nat) (r : Nat → Int) : Nat → Nat → Int × List Nat
  | 0, _ => (-1, [])
  | k + 1, m => match wfd b al n r m with
    | some x => ((m : Nat), x.1)
    | none => wrs b al n r k (m + 1)
def wres (b : Nat → List sB) (al : Nat → Bool) (n : Nat) (r : Nat → Int) : Int × List Nat := if whm ([], r) = true then (0, []) else wrs b al n r 4 1
theorem wk1_len (b : Nat → List sB) (al : Nat → Bool) (x : sNd) (k : Nat) : ((wk1 b al x k).length : Int) ≤ if al k = true then 1 else 0 := by
  unfold wk1
  split
  · rename_i h
    rw [if_pos h.1, List.length_singleton]
    decide
  · split <;> simp
theorem wkT_len (b : Nat → List sB) (al : Nat → Bool) (x : sNd) : ∀ k, ((wkT b al x k).length : Int) ≤ scnt al k := by
  intro k
  induction k with
  | zero => exact Int.le_refl _
  | succ k ih =>
    have h := wk1_len b al x k
    show ((wkT b al x k ++ wk1 b al x k).length : Int) ≤ scnt al k + if al k = true then 1 else 0
    rw [List.length_append]
    omega
theorem flatMap_len {α β : Type} {g : α → List β} (h : ∀ a, (g a).length ≤ 5) : ∀ l : List α, (l.flatMap g).length ≤ 5 * l.length := by
  intro l
  induction l with
  | nil => exact Nat.le_refl _
  | cons a l ih =>
    have := h a
    rw [flatMap_cons', List.length_append, List.length_cons]
    omega
theorem wext_len {b : Nat → List sB} {al : Nat → Bool} {n : Nat} (h5 : scnt al n ≤ 5) (m : Nat) (x : sNd) : (wext b al n (m + 1) x).length ≤ 5 * (wext b al n m x).length := by
  rw [wext_s]
  refine flatMap_len (fun y => ?_) _
  have := wkT_len b al y n
  omega
/-- rows of less than L calls -/
def wcat (b : Nat → List sB) (al : Nat → Bool) (n : Nat) (r : Nat → Int) : Nat → List sNd
  | 0 => []
  | L + 1 => wcat b al n r L ++ wext b al n L ([], r)
theorem wcat_len {b : Nat → List sB} {al : Nat → Bool} {n : Nat} {r : Nat → Int} (h5 : scnt al n ≤ 5) : (wcat b al n r 4).length ≤ 156 := by
  have e0 : (wext b al n 0 ([], r)).length = 1 := rfl
  have e1 : (wext b al n 1 ([], r)).length ≤ 5 * (wext b al n 0 ([], r)).length := wext_len (b := b) h5 0 ([], r)
  have e2 : (wext b al n 2 ([], r)).length ≤ 5 * (wext b al n 1 ([], r)).length := wext_len (b := b) h5 1 ([], r)
  have e3 : (wext b al n 3 ([], r)).length ≤ 5 * (wext b al n 2 ([], r)).length := wext_len (b := b) h5 2 ([], r)
  show ((((([] ++ wext b al n 0 ([], r)) ++ wext b al n 1 ([], r)) ++ wext b al n 2 ([], r)) ++ wext b al n 3 ([], r))).length ≤ 156
  simp only [List.length_append, List.length_nil]
  omega
theorem wcat_mono {b : Nat → List sB} {al : Nat → Bool} {n : Nat} {r : Nat → Int} : ∀ {L L' : Nat}, L ≤ L' → (wcat b al n r L).length ≤ (wcat b al n r L').length := by
  intro L L' h
  induction L' with
  | zero => rw [show L = 0 by omega]; exact Nat.le_refl _
  | succ k ih =>
    by_cases e : L = k + 1
    · rw [e]; exact Nat.le_refl _
    · have := ih (by omega)
      show _ ≤ (wcat b al n r k ++ wext b al n k ([], r)).length
      rw [List.length_append]
      omega
/-- paths are as long as they should be, and have calls alone -/
theorem wkT_mem {b : Nat → List sB} {al : Nat → Bool} {x y : sNd} : ∀ k, y ∈ wkT b al x k → ∃ c, c < k ∧ al c = true ∧ sres (b c) false x.2 (b c).length = 0 ∧ y = (x.1 ++ [c], srow (b c) false x.2 (b c).length) := by
  intro k
  induction k with
  | zero => intro h; cases h
  | succ k ih =>
    intro h
    rcases List.mem_append.mp h with h1 | h1
    · obtain ⟨c, c1, c2⟩ := ih h1
      exact ⟨c, by omega, c2⟩
    · unfold wk1 at h1
      split at h1
      · rename_i hk
        exact ⟨k, Nat.lt_succ_self k, hk.1, hk.2, List.mem_singleton.mp h1⟩
      · cases h1
theorem wext_mem {b : Nat → List sB} {al : Nat → Bool} {n : Nat} : ∀ (m : Nat) (x y : sNd), y ∈ wext b al n m x → y.1.length = x.1.length + m ∧ ((∀ c ∈ x.1, c < n) → ∀ c ∈ y.1, c < n) := by
  intro m
  induction m with
  | zero =>
    intro x y h
    rw [List.mem_singleton.mp h]
    exact ⟨rfl, fun h => h⟩
  | succ m ih =>
    intro x y h
    obtain ⟨z, hz, hy⟩ := List.mem_flatMap.mp h
    obtain ⟨c, c1, -, -, e⟩ := wkT_mem n hz
    obtain ⟨h1, h2⟩ := ih z y hy
    subst e
    refine ⟨by rw [h1, List.length_append, List.length_singleton]; omega, fun hx => h2 fun d hd => ?_⟩
    rcases List.mem_append.mp hd with h3 | h3
    · exact hx d h3
    · rw [List.mem_singleton.mp h3]
      exact c1
theorem wrs_rg {b : Nat → List sB} {al : Nat → Bool} {n : Nat} {r : Nat → Int} : ∀ k m : Nat, -1 ≤ (wrs b al n r k m).1 ∧ (wrs b al n r k m).1 < ((m + k : Nat) : Int) ∧ ((wrs b al n r k m).1 = -1 ∨ ((wrs b al n r k m).2.length : Int) = (wrs b al n r k m).1) ∧ ∀ c ∈ (wrs b al n r k m).2, c < n := by
  intro k
  induction k with
  | zero =>
    intro m
    refine ⟨by show (-1 : Int) ≤ -1; omega, by show (-1 : Int) < _; omega, Or.inl rfl, fun c hc => by cases hc⟩
  | succ k ih =>
    intro m
    cases hf : wfd b al n r m with
    | some x =>
      have e : wrs b al n r (k + 1) m = (((m : Nat) : Int), x.1) := by
        show (match wfd b al n r m with
          | some x => (((m : Nat) : Int), x.1)
          | none => wrs b al n r k (m + 1)) = _
        rw [hf]
      obtain ⟨h1, h2⟩ := wext_mem m _ _ (List.mem_of_find?_eq_some hf)
      rw [e]
      refine ⟨by show (-1 : Int) ≤ (m : Nat); omega, by show ((m : Nat) : Int) < _; omega, Or.inr (by rw [h1]; simp), h2 fun c hc => by cases hc⟩
    | none =>
      have e : wrs b al n r (k + 1) m = wrs b al n r k (m + 1) := by
        show (match wfd b al n r m with
          | some x => (((m : Nat) : Int), x.1)
          | none => wrs b al n r k (m + 1)) = _
        rw [hf]
      rw [e, show m + (k + 1) = m + 1 + k by omega]
      exact ih (m + 1)
theorem find_app {α : Type} {p : α → Bool} : ∀ (l l' : List α), l.find? p = none → (l ++ l').find? p = l'.find? p := by
  intro l
  induction l with
  | nil => intro l' _; rfl
  | cons a l ih =>
    intro l' h
    rw [List.find?_cons] at h
    split at h
    · cases h
    · rename_i hp
      rw [List.cons_append, List.find?_cons, hp]
      exact ih l' h
theorem find_app_some {α : Type} {p : α → Bool} {a : α} : ∀ (l l' : List α), l.find? p = some a → (l ++ l').find? p = some a := by
  intro l
  induction l with
  | nil => intro l' h; cases h
  | cons b l ih =>
    intro l' h
    rw [List.find?_cons] at h
    rw [List.cons_append, List.find?_cons]
    split at h
    · rename_i hp
      exact h
    · rename_i hp
      exact ih l' h
theorem find_none_app {α : Type} {p : α → Bool} {l l' : List α} (h1 : l.find? p = none) (h2 : l'.find? p = none) : (l ++ l').find? p = none := by
  rw [find_app l l' h1]
  exact h2
end
section
/-! The class looks for the way home. -/
theorem xs_157 {v0 : Value} {xs : List Int32} {u : Nat × Nat} {f : Nat → zE} {p : Nat} {l : List Int} {fr : Int} {r : Nat → Int} (hp : 50 ≤ p ∧ p < 204) (hf : f p = xr 0 l) (hl : l.length ≤ 5000) (hr : sRL l fr r) : xq v0 xs u 157 [(0, .ref p), (1, xi fr)] f (fun r' f' => r' = some (xi (if sall (fun d => r d == shome d) 8 = true then 1 else 0)) ∧ f' = f) := by
  unfold xq
  have lp : ∀ (w d : Nat) (lv : zL), w + d = 8 → zlv lv 0 = some (.ref p) → zlv lv 1 = some (xi fr) → zlv lv 2 = some (xi (d : Nat)) → sall (fun d => r d == shome d) d = true → xz v0 xs u (fun o X => ∃ r' f', o = .inl r' ∧ X = (xh f', u) ∧ (fun r' f' => r' = some (xi (if sall (fun d => r d == shome d) 8 = true then 1 else 0)) ∧ f' = f) r' f') 157 2 lv [] f := by
    intro w
    induction w with
    | zero =>
      intro d lv hw l0 l1 l2 hs
      have e8 : d = 8 := by omega
      subst e8
      refine x_iload_n rfl l2 ?_
      refine x_bipush rfl (by decide) ?_
      refine x_cge (t := 37) rfl rfl (by decide) (by decide) (fun _ => ?_) (fun h => absurd h (by decide))
      refine x_iconst rfl ?_
      exact x_ireturn rfl (Or.inr (Or.inl ⟨rfl, by decide⟩)) ⟨_, _, rfl, rfl, by rw [if_pos hs], rfl⟩
    | succ w ih =>
      intro d lv hw l0 l1 l2 hs
      have hd : d < 8 := by omega
      obtain ⟨a1, a2⟩ := hr.2.2 d hd
      have a3 : 0 ≤ r d ∧ r d < 400 := a2
      have b3 : 0 ≤ shome d ∧ shome d < 400 := shome_ok d
      have h0 := hr.1
      have h1 := hr.2.1
      refine x_iload_n rfl l2 ?_
      refine x_bipush rfl (by decide) ?_
      refine x_cge (t := 37) rfl rfl ⟨by omega, by omega⟩ (by decide) (fun h => by omega) (fun _ => ?_)
      refine x_aload_n rfl l0 ?_
      refine x_iload_n rfl l1 ?_
      refine x_iload_n rfl l2 ?_
      refine x_iadd rfl ?_
      refine x_iaload rfl hp hf ⟨by omega, by omega⟩ hl ?_
      rw [a1]
      refine x_iconst rfl ?_
      refine x_gets rfl ?_
      refine x_iload_n rfl l2 ?_
      refine x_gar (ys := zg1) rfl rfl ⟨by omega, by rw [zg1_len]; omega⟩ (by decide) ?_
      rw [Int.toNat_natCast, zg1_at d hd]
      refine x_imul rfl ?_
      refine x_gets rfl ?_
      refine x_iload_n rfl l2 ?_
      refine x_gar (ys := zg2) rfl rfl ⟨by omega, by rw [zg2_len]; omega⟩ (by decide) ?_
      rw [Int.toNat_natCast, zg2_at d hd]
      refine x_iadd rfl ?_
      rw [show 4 * (shome d / 4) + shome d % 4 = shome d by omega]
      have es : sall (fun d => r d == shome d) (d + 1) = (sall (fun d => r d == shome d) d && (r d == shome d)) := rfl
      refine x_ceq (t := 31) rfl rfl ⟨by omega, by omega⟩ ⟨by omega, by omega⟩ (fun he => ?_) (fun he => ?_)
      · refine x_iinc rfl l2 (show (2 : Nat) < 3 from by decide) ?_
        refine x_goto (t := 2) rfl rfl ?_
        exact ih (d + 1) _ (by omega) (xst_ne (by decide) l0 (Or.inl rfl)) (xst_ne (by decide) l1 (Or.inl rfl)) xst_eq (by rw [es, hs, beq_iff_eq.mpr he]; rfl)
      · refine x_iconst rfl ?_
        refine x_ireturn rfl (Or.inr (Or.inl ⟨rfl, by decide⟩)) ⟨_, _, rfl, rfl, ?_, rfl⟩
        have ef : sall (fun d => r d == shome d) 8 = false := sall_f (e := d + 1) (by rw [es, beq_eq_false_iff_ne.mpr he, Bool.and_false]) (by omega)
        rw [ef]
        rfl
  refine x_iconst rfl ?_
  refine x_istore_n rfl (show (2 : Nat) < 3 from by decide) ?_
  exact lp 8 0 _ rfl (xst_ne (by decide) rfl (Or.inl rfl)) (xst_ne (by decide) rfl (Or.inl rfl)) xst_eq rfl
theorem xs_158 {v0 : Value} {xs : List Int32} {u : Nat × Nat} {f : Nat → zE} {t c : Nat} {l : List Int} {r : Nat → Int} (ht : 50 ≤ t ∧ t < 203) (h1 : f t = .inl (9, [.ref (t + 1), xi (c : Nat)])) (h2 : f (t + 1) = xr 0 l) (hl : l.length = 136) (hr : sRL l ((c : Nat) * 8) r) : xq v0 xs u 158 [(0, .ref t)] f (fun r' f' => r' = some (xi (if sall (fun d => r d == shome d) 8 = true then 1 else 0)) ∧ f' = f) := by
  unfold xq
  refine x_aload_n rfl rfl ?_
  refine x_getfield rfl ⟨by omega, by omega⟩ h1 rfl ?_
  refine x_aload_n rfl rfl ?_
  refine x_getfield rfl ⟨by omega, by omega⟩ h1 rfl ?_
  refine x_bipush rfl (by decide) ?_
  refine x_imul rfl ?_
  refine x_call [_, _] rfl rfl (show (0 : Nat) ≤ 8 from by decide) (show (2 : Nat) ≤ 3 from by decide) rfl (xs_157 ⟨by omega, by omega⟩ h2 (by omega) hr) (fun r' f' hP => ?_)
  obtain ⟨rfl, hPe⟩ := hP
  subst f'
  exact x_ireturn rfl (Or.inr (Or.inl ⟨rfl, by split <;> decide⟩)) ⟨_, _, rfl, rfl, rfl, rfl⟩
def wHO (f : Nat → zE) (nd fo : Int) : Prop := f 117 = .inl (8, [.ref 53, .ref 113, .ref 118, .ref 119, .ref 120, .ref 121, xi nd, xi fo])
/-- the table of nodes -/
def wNT (f : Nat → zE) (T : List sNd) : Prop := ∃ rl pl cl : List Int, f 118 = xr 0 rl ∧ f 119 = xr 0 pl ∧ f 120 = xr 0 cl ∧ (rl.length = 1248 ∧ pl.length = 156 ∧ cl.length = 156) ∧ T.length ≤ 156 ∧ ∀ k, k < T.length → sRL rl ((k : Nat) * 8) (T.getD k wN0).2 ∧ (((T.getD k wN0).1 = [] ∧ k = 0) ∨ ∃ p c : Nat, p < k ∧ pl.getD k 0 = (p : Nat) ∧ cl.getD k 0 = (c : Nat) ∧ (T.getD k wN0).1 = (T.getD p wN0).1 ++ [c])
theorem wNT_f {f f' : Nat → zE} {T : List sNd} (h : wNT f T) (e : ∀ q, 118 ≤ q → q ≤ 120 → f' q = f q) : wNT f' T := by
  obtain ⟨rl, pl, cl, h1, h2, h3, h4⟩ := h
  exact ⟨rl, pl, cl, (e _ (by decide) (by decide)).trans h1, (e _ (by decide) (by decide)).trans h2, (e _ (by decide) (by decide)).trans h3, h4⟩
theorem xs_159 {v0 : Value} {xs : List Int32} {u : Nat × Nat} {f : Nat → zE} {T : List sNd} {nd fo : Int} {node call L : Nat} {k0 : List Int} (hH : wHO f nd fo) (hT : wNT f T) (hn : node < T.length) (hL : 1 ≤ L ∧ L ≤ 4) (hP : (T.getD node wN0).1.length + 1 = L) (h121 : f 121 = xr 0 k0) (hk0 : k0.length = 4) : xq v0 xs u 159 [(0, .ref 117), (1, xi (node : Nat)), (2, xi (call : Nat)), (3, xi (L : Nat))] f (fun r' f' => r' = none ∧ wHO f' nd (L : Nat) ∧ (∃ cl : List Int, f' 121 = xr 0 cl ∧ cl.length = 4 ∧ ∀ i, i < L → cl.getD i 0 = ((((T.getD node wN0).1 ++ [call]).getD i 0 : Nat) : Int)) ∧ ∀ q, q ≠ 117 → q ≠ 121 → f' q = f q) := by
  unfold xq
  obtain ⟨rl, pl, cl, e1, e2, e3, ⟨el1, el2, el3⟩, hT156, hTk⟩ := id hT
  generalize hPd : (T.getD node wN0).1 = P at hP ⊢
  have lp : ∀ (j at' : Nat) (lv : zL) (f1 : Nat → zE) (kl : List Int), zlv lv 0 = some (.ref 117) → zlv lv 4 = some (xi (at' : Nat)) → zlv lv 5 = some (xi ((j : Nat) - 1)) → at' < T.length → (T.getD at' wN0).1 = P.take j → j ≤ P.length → wHO f1 nd (L : Nat) → f1 121 = xr 0 kl → kl.length = 4 → (∀ i, j ≤ i → i < L → kl.getD i 0 = (((P ++ [call]).getD i 0 : Nat) : Int)) → (∀ q, q ≠ 117 → q ≠ 121 → f1 q = f q) → xz v0 xs u (fun o X => ∃ r' f', o = .inl r' ∧ X = (xh f', u) ∧ (fun r' f' => r' = none ∧ wHO f' nd (L : Nat) ∧ (∃ cl : List Int, f' 121 = xr 0 cl ∧ cl.length = 4 ∧ ∀ i, i < L → cl.getD i 0 = (((P ++ [call]).getD i 0 : Nat) : Int)) ∧ ∀ q, q ≠ 117 → q ≠ 121 → f' q = f q) r' f') 159 22 lv [] f1 := by
    intro j
    induction j with
    | zero =>
      intro at' lv f1 kl l0 l4 l5 ha hp hj hH1 g121 gl hv hfr
      refine x_iload rfl l5 ?_
      refine x_iflt (t := 56) rfl rfl (by decide) (fun _ => ?_) (fun h => absurd h (by decide))
      exact x_return rfl ⟨_, _, rfl, rfl, rfl, hH1, ⟨kl, g121, gl, fun i hi => hv i (Nat.zero_le i) hi⟩, hfr⟩
    | succ j ih =>
      intro at' lv f1 kl l0 l4 l5 ha hp hj hH1 g121 gl hv hfr
      have hlen : (P.take (j + 1)).length = j + 1 := by rw [List.length_take]; omega
      obtain ⟨-, hcase⟩ := hTk at' ha
      rcases hcase with ⟨h0, -⟩ | ⟨p, c, p1, p2, p3, p4⟩
      · rw [hp] at h0
        rw [h0] at hlen
        simp at hlen
      have hpe : (T.getD p wN0).1 = P.take j ∧ c = P.getD j 0 := by
        rw [hp, List.take_succ, List.getElem?_eq_getElem (show j < P.length by omega)] at p4
        have h5 := List.append_inj' p4 rfl
        refine ⟨h5.1.symm, ?_⟩
        have h6 : [P[j]] = [c] := h5.2
        rw [List.getD_eq_getElem?_getD, List.getElem?_eq_getElem (show j < P.length by omega)]
        exact (List.cons.inj h6).1.symm
      obtain ⟨hpe1, hpe2⟩ := hpe
      rw [show (((j + 1 : Nat) : Int) - 1) = ((j : Nat) : Int) by omega] at l5
      refine x_iload rfl l5 ?_
      refine x_iflt (t := 56) rfl rfl ⟨by omega, by omega⟩ (fun h => by omega) (fun _ => ?_)
      refine x_aload_n rfl l0 ?_
      refine x_getfield rfl (by decide) hH1 rfl ?_
      refine x_iload rfl l5 ?_
      refine x_aload_n rfl l0 ?_
      refine x_getfield rfl (by decide) hH1 rfl ?_
      refine x_iload rfl l4 ?_
      refine x_iaload rfl (by decide) ((hfr 120 (by decide) (by decide)).trans e3) ⟨by omega, by omega⟩ (by omega) ?_
      rw [Int.toNat_natCast, p3]
      refine x_iastore rfl (by decide) g121 ⟨by omega, by omega⟩ (by omega) ?_
      rw [Int.toNat_natCast]
      refine x_aload_n rfl l0 ?_
      refine x_getfield rfl (by decide) (xu_ne (by decide) hH1) rfl ?_
      refine x_iload rfl l4 ?_
      refine x_iaload rfl (by decide) (xu_ne (by decide) ((hfr 119 (by decide) (by decide)).trans e2)) ⟨by omega, by omega⟩ (by omega) ?_
      rw [Int.toNat_natCast, p2]
      refine x_istore rfl (show (4 : Nat) < 6 from by decide) ?_
      refine x_iinc rfl (xst_ne (by decide) l5 (Or.inl rfl)) (show (5 : Nat) < 6 from by decide) ?_
      refine x_goto (t := 22) rfl rfl ?_
      refine ih p _ _ _ (xst_ne (by decide) (xst_ne (by decide) l0 (Or.inl rfl)) (Or.inl rfl)) (xst_ne (by decide) xst_eq (Or.inl rfl)) xst_eq (by omega) hpe1 (by omega) (xu_ne (by decide) hH1) xu_eq (by rw [List.length_set]; exact gl) (fun i hi1 hi2 => ?_) (fun q b1 b2 => xu_ne b2 (hfr q b1 b2))
      rw [x_gset]
      by_cases hij : j = i
      · subst hij
        rw [if_pos ⟨rfl, by omega⟩, hpe2, List.getD_eq_getElem?_getD, List.getD_eq_getElem?_getD, List.getElem?_append_left (by omega)]
      · rw [if_neg (fun h => hij h.1)]
        exact hv i (by omega) hi2
  refine x_aload_n rfl rfl ?_
  refine x_iload_n rfl rfl ?_
  refine x_putfield rfl (by decide) hH (show (7 : Nat) < 8 from by decide) rfl ?_
  refine x_aload_n rfl rfl ?_
  refine x_getfield rfl (by decide) xu_eq rfl ?_
  refine x_iload_n rfl rfl ?_
  refine x_iconst rfl ?_
  refine x_isub rfl ?_
  refine x_iload_n rfl rfl ?_
  rw [show ((L : Nat) : Int) - 1 = (P.length : Nat) by omega]
  refine x_iastore rfl (by decide) (xu_ne (by decide) h121) ⟨by omega, by omega⟩ (by omega) ?_
  rw [Int.toNat_natCast]
  refine x_iload_n rfl rfl ?_
  refine x_istore rfl (show (4 : Nat) < 6 from by decide) ?_
  refine x_iload_n rfl (xst_ne (by decide) rfl (Or.inl rfl)) ?_
  refine x_iconst rfl ?_
  refine x_isub rfl ?_
  rw [show ((L : Nat) : Int) - 2 = ((P.length : Nat) : Int) - 1 by omega]
  refine x_istore rfl (show (5 : Nat) < 6 from by decide) ?_
  refine lp P.length node _ _ _ (xst_ne (by decide) (xst_ne (by decide) rfl (Or.inl rfl)) (Or.inl rfl)) (xst_ne (by decide) xst_eq (Or.inl rfl)) xst_eq hn (by rw [List.take_length]; exact hPd) (Nat.le_refl _) (xu_ne (by decide) xu_eq) xu_eq (by rw [List.length_set]; exact hk0) (fun i hi1 hi2 => ?_) (fun q b1 b2 => xu_ne b2 (xu_ne b1 rfl))
  have hie : i = P.length := by omega
  subst hie
  rw [x_gset, if_pos ⟨rfl, by omega⟩, List.getD_eq_getElem?_getD, List.getElem?_append_right (Nat.le_refl _), Nat.sub_self]
  rfl
theorem xs_160 {v0 : Value} {xs : List Int32} {u : Nat × Nat} {f : Nat → zE} {T : List sNd} {fo : Int} {p c cnt : Nat} {l : List Int} {r : Nat → Int} (hH : wHO f (T.length : Nat) fo) (hT : wNT f T) (h156 : T.length < 156) (hp : p < T.length) (h171 : f 171 = .inl (9, [.ref (171 + 1), xi (cnt : Nat)])) (h172 : f (171 + 1) = xr 0 l) (hl : l.length = 136) (hc : cnt ≤ 16) (hr : sRL l ((cnt : Nat) * 8) r) : xq v0 xs u 160 [(0, .ref 117), (1, xi (p : Nat)), (2, xi (c : Nat)), (3, .ref 171)] f (fun r' f' => r' = none ∧ wHO f' ((T.length : Nat) + 1) fo ∧ wNT f' (T ++ [((T.getD p wN0).1 ++ [c], r)]) ∧ ∀ q, ¬ (117 ≤ q ∧ q ≤ 120) → f' q = f q) := by
  unfold xq
  obtain ⟨rl, pl, cl, e1, e2, e3, ⟨el1, el2, el3⟩, hT156, hTk⟩ := id hT
  refine x_aload_n rfl rfl ?_
  refine x_getfield rfl (by decide) hH rfl ?_
  refine x_sipush rfl (by decide) ?_
  refine x_cge (t := 59) rfl rfl ⟨by omega, by omega⟩ (by decide) (fun h => by omega) (fun _ => ?_)
  refine x_aload_n rfl rfl ?_
  refine x_aload_n rfl rfl ?_
  refine x_getfield rfl (by decide) h171 rfl ?_
  refine x_aload_n rfl rfl ?_
  refine x_getfield rfl (by decide) hH rfl ?_
  refine x_aload_n rfl rfl ?_
  refine x_getfield rfl (by decide) hH rfl ?_
  refine x_bipush rfl (by decide) ?_
  refine x_imul rfl ?_
  refine x_call [_, _, _, _] rfl rfl (show (0 : Nat) ≤ 8 from by decide) (show (4 : Nat) ≤ 4 from by decide) (x_rcv (by decide) h171) (xs_106 (t := 171) (p := 118) (b := (cnt : Nat)) (o := (T.length : Nat) * 8) (by decide) h171 h172 hl ⟨by omega, by omega⟩ (by decide) (by decide) e1 (by omega) ⟨by omega, by omega⟩) (fun r' f1 hP => ?_)
  obtain ⟨rfl, ⟨rl1, w1, w2, w3⟩, w4⟩ := hP
  have g117 : f1 117 = _ := (w4 117 (by decide)).trans hH
  refine x_aload_n rfl rfl ?_
  refine x_getfield rfl (by decide) g117 rfl ?_
  refine x_aload_n rfl rfl ?_
  refine x_getfield rfl (by decide) g117 rfl ?_
  refine x_iload_n rfl rfl ?_
  refine x_iastore rfl (by decide) ((w4 119 (by decide)).trans e2) ⟨by omega, by omega⟩ (by omega) ?_
  rw [Int.toNat_natCast]
  refine x_aload_n rfl rfl ?_
  refine x_getfield rfl (by decide) (xu_ne (by decide) g117) rfl ?_
  refine x_aload_n rfl rfl ?_
  refine x_getfield rfl (by decide) (xu_ne (by decide) g117) rfl ?_
  refine x_iload_n rfl rfl ?_
  refine x_iastore rfl (by decide) (xu_ne (by decide) ((w4 120 (by decide)).trans e3)) ⟨by omega, by omega⟩ (by omega) ?_
  rw [Int.toNat_natCast]
  refine x_aload_n rfl rfl ?_
  refine x_dup rfl ?_
  refine x_getfield rfl (by decide) (xu_ne (by decide) (xu_ne (by decide) g117)) rfl ?_
  refine x_iconst rfl ?_
  refine x_iadd rfl ?_
  refine x_putfield rfl (by decide) (xu_ne (by decide) (xu_ne (by decide) g117)) (show (6 : Nat) < 8 from by decide) rfl ?_
  refine x_return rfl ⟨_, _, rfl, rfl, rfl, xu_eq, ⟨rl1, _, _, xu_ne (by decide) (xu_ne (by decide) (xu_ne (by decide) w1)), xu_ne (by decide) (xu_ne (by decide) xu_eq), xu_ne (by decide) xu_eq, ⟨w2.trans el1, by rw [List.length_set]; exact el2, by rw [List.length_set]; exact el3⟩, by rw [List.length_append, List.length_singleton]; omega, fun k hk => ?_⟩, fun q hq => xu_ne (by omega) (xu_ne (by omega) (xu_ne (by omega) (w4 q (by omega))))⟩
  rw [List.length_append, List.length_singleton] at hk
  have gA : ∀ j, j < T.length → (T ++ [((T.getD p wN0).1 ++ [c], r)]).getD j wN0 = T.getD j wN0 := fun j hj => by rw [List.getD_eq_getElem?_getD, List.getElem?_append_left hj, ← List.getD_eq_getElem?_getD]
  by_cases hkT : k < T.length
  · rw [gA k hkT]
    obtain ⟨t1, t2⟩ := hTk k hkT
    refine ⟨⟨t1.1, by omega, fun d hd => ?_⟩, ?_⟩
    · obtain ⟨a1, a2⟩ := t1.2.2 d hd
      refine ⟨?_, a2⟩
      rw [w3, if_neg (by omega)]
      exact a1
    · rcases t2 with t3 | ⟨p', c', p1, p2, p3, p4⟩
      · exact Or.inl t3
      · refine Or.inr ⟨p', c', p1, ?_, ?_, ?_⟩
        · rw [x_gset, if_neg (by omega)]
          exact p2
        · rw [x_gset, if_neg (by omega)]
          exact p3
        · rw [gA p' (by omega)]
          exact p4
  · have hke : k = T.length := by omega
    subst hke
    have gB : (T ++ [((T.getD p wN0).1 ++ [c], r)]).getD T.length wN0 = ((T.getD p wN0).1 ++ [c], r) := by
      rw [List.getD_eq_getElem?_getD, List.getElem?_append_right (Nat.le_refl _), Nat.sub_self]
      rfl
    rw [gB]
    refine ⟨⟨by omega, by omega, fun d hd => ?_⟩, Or.inr ⟨p, c, hp, ?_, ?_, ?_⟩⟩
    · obtain ⟨a1, a2⟩ := hr.2.2 d hd
      refine ⟨?_, a2⟩
      rw [w3, if_pos ⟨by omega, by omega⟩, show (((cnt : Nat) : Int) * 8).toNat + ((((T.length : Nat) : Int) * 8 + (d : Nat)).toNat - (((T.length : Nat) : Int) * 8).toNat) = (((cnt : Nat) : Int) * 8 + (d : Nat)).toNat by omega]
      exact a1
    · rw [x_gset, if_pos ⟨rfl, by omega⟩]
    · rw [x_gset, if_pos ⟨rfl, by omega⟩]
    · rw [gA p hp]
end
section
/-! Branches and search of the class. -/
def wFr (f0 f : Nat → zE) : Prop := ∀ q, ¬ (115 ≤ q ∧ q ≤ 121) → q ≠ 171 → q ≠ 172 → f q = f0 q
def wIn (f : Nat → zE) : Prop := sDN f ∧ (∃ (w : Value) (l : List Int), f 171 = .inl (9, [.ref (171 + 1), w]) ∧ f (171 + 1) = xr 0 l ∧ l.length = 136) ∧ ∃ k0 : List Int, f 121 = xr 0 k0 ∧ k0.length = 4
theorem wkT_pre (b : Nat → List sB) (al : Nat → Bool) (x : sNd) (c : Nat) : ∀ k, ∃ rest, wkT b al x (c + k) = wkT b al x c ++ rest := by
  intro k
  induction k with
  | zero => exact ⟨[], (List.append_nil _).symm⟩
  | succ k ih =>
    obtain ⟨rest, e⟩ := ih
    refine ⟨rest ++ wk1 b al x (c + k), ?_⟩
    show wkT b al x (c + k) ++ wk1 b al x (c + k) = _
    rw [e, List.append_assoc]
/-- what branches comes to -/
def wBQ (f0 : Nat → zE) (b : Nat → List sB) (al : Nat → Bool) (n : Nat) (T0 : List sNd) (x : sNd) (L : Nat) (r' : Option Value) (f' : Nat → zE) : Prop := wFr f0 f' ∧ wIn f' ∧ ((∃ y : sNd, (wkT b al x n).find? whm = some y ∧ r' = some (xi 1) ∧ (∃ nd : Int, wHO f' nd (L : Nat)) ∧ ∃ cl : List Int, f' 121 = xr 0 cl ∧ cl.length = 4 ∧ ∀ i, i < L → cl.getD i 0 = ((y.1.getD i 0 : Nat) : Int)) ∨ ((wkT b al x n).find? whm = none ∧ r' = some (xi 0) ∧ wHO f' ((T0 ++ if L < 4 then wkT b al x n else []).length : Nat) 0 ∧ wNT f' (T0 ++ if L < 4 then wkT b al x n else [])))
set_option maxRecDepth 20000 in
theorem xs_161l {v0 : Value} {xs : List Int32} {u : Nat × Nat} {f0 : Nat → zE} {K : List (Int × Int)} {G : Nat → List xBt} {n : Nat} {al : Nat → Bool} {T0 : List sNd} {node L : Nat} {x : sNd} (hCK : sCK f0 K G n) (hAC : sAC f0 al) (hx : T0.getD node wN0 = x) (hnode : node < T0.length) (hL : 1 ≤ L ∧ L ≤ 4) (hpath : x.1.length + 1 = L) (hroom : L < 4 → T0.length + (wkT (fun c => sbt K (G c)) al x n).length ≤ 156) : ∀ (w c : Nat) (lv : zL) (f : Nat → zE), w + c = n → zlv lv 0 = some (.ref 117) → zlv lv 1 = some (xi (node : Nat)) → zlv lv 2 = some (xi (L : Nat)) → zlv lv 3 = some (.ref 171) → zlv lv 4 = some (xi (c : Nat)) → wFr f0 f → wIn f → wHO f ((T0 ++ if L < 4 then wkT (fun c => sbt K (G c)) al x c else []).length : Nat) 0 → wNT f (T0 ++ if L < 4 then wkT (fun c => sbt K (G c)) al x c else []) → (wkT (fun c => sbt K (G c)) al x c).find? whm = none → xz v0 xs u (fun o X => ∃ r' f', o = .inl r' ∧ X = (xh f', u) ∧ wBQ f0 (fun c => sbt K (G c)) al n T0 x L r' f') 161 3 lv [] f := by
  obtain ⟨hn, -, -, -, -, hG⟩ := id hCK
  intro w
  induction w with
  | zero =>
    intro c lv f hw l0 l1 l2 l3 l4 hfr hin hH hT hfd
    have ec : c = n := by omega
    subst ec
    have hCKf : sCK f K G c := sCK_f hCK fun q b1 b2 => hfr q (by omega) (by omega) (by omega)
    obtain ⟨-, ⟨kp, pt, h53⟩, -⟩ := hCKf
    refine x_iload rfl l4 ?_
    refine x_aload_n rfl l0 ?_
    refine x_getfield rfl (by decide) hH rfl ?_
    refine x_getfield rfl (by decide) h53 rfl ?_
    refine x_cge (t := 101) rfl rfl ⟨by omega, by omega⟩ ⟨by omega, by omega⟩ (fun _ => ?_) (fun h => by omega)
    refine x_iconst rfl ?_
    exact x_ireturn rfl (Or.inr (Or.inl ⟨rfl, by decide⟩)) ⟨_, _, rfl, rfl, hfr, hin, Or.inr ⟨hfd, rfl, hH, hT⟩⟩
  | succ w ih =>
    intro c lv f hw l0 l1 l2 l3 l4 hfr hin hH hT hfd
    have hcn : c < n := by omega
    have hla := (hG c hcn).1
    have hlA : (sbt K (G c)).length ≤ 16 := by rw [sbt_len]; exact hla
    have hCKf : sCK f K G n := sCK_f hCK fun q b1 b2 => hfr q (by omega) (by omega) (by omega)
    obtain ⟨-, ⟨kp, pt, h53⟩, h54, hPK, hFG, -⟩ := id hCKf
    obtain ⟨nm, bb, dd, hfig0⟩ := hAC c (by omega)
    have hfig := (hfr (57 + 4 * c) (by omega) (by omega) (by omega)).trans hfig0
    obtain ⟨hDN, ⟨wt, lt, t1, t2, t3⟩, k0, g121, gk0⟩ := id hin
    obtain ⟨rl, pl, cl, e1, e2, e3, ⟨el1, el2, el3⟩, hT156, hTk⟩ := id hT
    have eT : wkT (fun c => sbt K (G c)) al x (c + 1) = wkT (fun c => sbt K (G c)) al x c ++ wk1 (fun c => sbt K (G c)) al x c := rfl
    have hTx : (T0 ++ if L < 4 then wkT (fun c => sbt K (G c)) al x c else []).getD node wN0 = x := by
      rw [List.getD_eq_getElem?_getD, List.getElem?_append_left hnode, ← List.getD_eq_getElem?_getD]
      exact hx
    have hnT : node < (T0 ++ if L < 4 then wkT (fun c => sbt K (G c)) al x c else []).length := by rw [List.length_append]; omega
    have hrow := (hTk node hnT).1
    rw [hTx] at hrow
    refine x_iload rfl l4 ?_
    refine x_aload_n rfl l0 ?_
    refine x_getfield rfl (by decide) hH rfl ?_
    refine x_getfield rfl (by decide) h53 rfl ?_
    refine x_cge (t := 101) rfl rfl ⟨by omega, by omega⟩ ⟨by omega, by omega⟩ (fun h => by omega) (fun _ => ?_)
    refine x_aload_n rfl l0 ?_
    refine x_getfield rfl (by decide) hH rfl ?_
    refine x_getfield rfl (by decide) h53 rfl ?_
    refine x_iload rfl l4 ?_
    refine x_aaload rfl (by decide) h54 ⟨by omega, by rw [show xfl.length = 13 from rfl]; omega⟩ (by decide) (o := 57 + 4 * c) (by rw [Int.toNat_natCast]; exact xfl_at (by omega)) ?_
    refine x_getfield rfl (by omega) hfig rfl ?_
    have skip : ∀ f5 : Nat → zE, wk1 (fun c => sbt K (G c)) al x c = [] → wFr f0 f5 → wIn f5 → (∀ q, 117 ≤ q → q ≤ 120 → f5 q = f q) → xz v0 xs u (fun o X => ∃ r' f', o = .inl r' ∧ X = (xh f', u) ∧ wBQ f0 (fun c => sbt K (G c)) al n T0 x L r' f') 161 95 lv [] f5 := by
      intro f5 hk hfr5 hin5 he5
      refine x_iinc rfl l4 (show (4 : Nat) < 5 from by decide) ?_
      refine x_goto (t := 3) rfl rfl ?_
      refine ih (c + 1) _ _ (by omega) (xst_ne (by decide) l0 (Or.inl rfl)) (xst_ne (by decide) l1 (Or.inl rfl)) (xst_ne (by decide) l2 (Or.inl rfl)) (xst_ne (by decide) l3 (Or.inl rfl)) xst_eq hfr5 hin5 ?_ ?_ ?_
      · rw [eT, hk, List.append_nil]
        exact (he5 117 (by decide) (by decide)).trans hH
      · rw [eT, hk, List.append_nil]
        exact wNT_f hT fun q b1 b2 => he5 q (by omega) b2
      · rw [eT, hk, List.append_nil]
        exact hfd
    cases ha : al c with
    | false =>
      refine x_ifeq (t := 95) rfl rfl (by decide) (fun _ => ?_) (fun h => absurd rfl h)
      refine skip f ?_ hfr hin (fun _ _ _ => rfl)
      unfold wk1
      rw [if_neg (fun h => by rw [ha] at h; exact absurd h.1 (by decide))]
    | true =>
      refine x_ifeq (t := 95) rfl rfl (by decide) (fun h => absurd h (by decide)) (fun _ => ?_)
      refine x_aload_n rfl l3 ?_
      refine x_aload_n rfl l0 ?_
      refine x_getfield rfl (by decide) hH rfl ?_
      refine x_iload_n rfl l1 ?_
      refine x_bipush rfl (by decide) ?_
      refine x_imul rfl ?_
      refine x_call [_, _, _] rfl rfl (show (0 : Nat) ≤ 8 from by decide) (show (3 : Nat) ≤ 3 from by decide) (x_rcv (by decide) t1) (xs_91 (t := 171) (p := 118) (o := (node : Nat) * 8) (by decide) t1 t2 t3 (by decide) (by decide) e1 (by omega) ⟨by omega, by omega⟩) (fun r' f1 hP => ?_)
      obtain ⟨rfl, p1, ⟨l1a, p2, p3, p4⟩, p5⟩ := hP
      have hr1 : sRL l1a 0 x.2 := by
        refine ⟨by omega, by omega, fun d hd => ?_⟩
        obtain ⟨a1, a2⟩ := hrow.2.2 d hd
        refine ⟨?_, a2⟩
        rw [show ((0 : Int) + (d : Nat)).toNat = d by omega, p4 d hd]
        exact a1
      have hH1 : f1 117 = _ := (p5 117 (by decide) (by decide)).trans hH
      have hCK1 : sCK f1 K G n := sCK_f hCKf fun q b1 b2 => p5 q (by omega) (by omega)
      obtain ⟨-, ⟨kp1, pt1, c53⟩, c54, cPK, cFG, -⟩ := id hCK1
      have hDN1 : sDN f1 := sDN_f hDN fun q b1 b2 => p5 q (by omega) (by omega)
      refine x_aload_n rfl l0 ?_
      refine x_getfield rfl (by decide) hH1 rfl ?_
      refine x_aload_n rfl l3 ?_
      refine x_aload_n rfl l0 ?_
      refine x_getfield rfl (by decide) hH1 rfl ?_
      refine x_getfield rfl (by decide) c53 rfl ?_
      refine x_iload rfl l4 ?_
      refine x_aaload rfl (by decide) c54 ⟨by omega, by rw [show xfl.length = 13 from rfl]; omega⟩ (by decide) (o := 57 + 4 * c) (by rw [Int.toNat_natCast]; exact xfl_at (by omega)) ?_
      refine x_iconst rfl ?_
      refine x_call [_, _, _, _] rfl rfl (show (0 : Nat) ≤ 8 from by decide) (show (4 : Nat) ≤ 6 from by decide) (x_rcv (by decide) hDN1.1) (xs_105 (t := 171) (fg := 57 + 4 * c) (back := false) (r0 := x.2) hDN1 cPK (hG c hcn) (cFG c hcn) (by decide) p1 p2 p3 hr1) (fun r' f2 hP => ?_)
      obtain ⟨rfl, ⟨l2a, u1, u2, u3⟩, ⟨ca, u4, u5, u6⟩, hDN2, u7⟩ := hP
      rw [show (G c).length = (sbt K (G c)).length from (sbt_len K (G c)).symm] at u3 u6 ⊢
      have hrg := sres_rg (bt := sbt K (G c)) (back := false) (r0 := x.2) (sbt K (G c)).length
      have hfr2 : wFr f0 f2 := fun q b1 b2 b3 => (u7 q (by omega) (by omega) b2 b3).trans ((p5 q b2 b3).trans (hfr q b1 b2 b3))
      have he2 : ∀ q, 117 ≤ q → q ≤ 121 → f2 q = f q := fun q b1 b2 => (u7 q (by omega) (by omega) (by omega) (by omega)).trans (p5 q (by omega) (by omega))
      have hin2 : wIn f2 := ⟨hDN2, ⟨_, l2a, u4, u1, u2⟩, k0, (he2 121 (by decide) (by decide)).trans g121, gk0⟩
      refine x_ifne (t := 95) rfl rfl ⟨by omega, by omega⟩ (fun hz => ?_) (fun hz => ?_)
      · refine skip f2 ?_ hfr2 hin2 (fun q b1 b2 => he2 q b1 (by omega))
        unfold wk1
        rw [if_neg (fun h => hz h.2)]
      have hk1 : wk1 (fun c => sbt K (G c)) al x c = [(x.1 ++ [c], srow (sbt K (G c)) false x.2 (sbt K (G c)).length)] := by
        unfold wk1
        rw [if_pos ⟨ha, hz⟩]
      have hca := u6 hz
      subst hca
      have hTR := (u3 hz).2 _ (Nat.le_refl _)
      have hH2 : wHO f2 ((T0 ++ if L < 4 then wkT (fun c => sbt K (G c)) al x c else []).length : Nat) 0 := (he2 117 (by decide) (by decide)).trans hH
      have hT2 : wNT f2 (T0 ++ if L < 4 then wkT (fun c => sbt K (G c)) al x c else []) := wNT_f hT fun q b1 b2 => he2 q (by omega) (by omega)
      refine x_aload_n rfl l3 ?_
      refine x_call [_] rfl rfl (show (0 : Nat) ≤ 8 from by decide) (show (1 : Nat) ≤ 1 from by decide) (x_rcv (by decide) u4) (xs_158 (t := 171) (by decide) u4 u1 u2 hTR) (fun r' f' hP => ?_)
      obtain ⟨rfl, hPe⟩ := hP
      subst f'
      have hwh : whm (x.1 ++ [c], srow (sbt K (G c)) false x.2 (sbt K (G c)).length) = sall (fun d => srow (sbt K (G c)) false x.2 (sbt K (G c)).length d == shome d) 8 := rfl
      rw [← hwh]
      by_cases hh : whm (x.1 ++ [c], srow (sbt K (G c)) false x.2 (sbt K (G c)).length) = true
      · rw [if_pos hh]
        refine x_ifeq (t := 82) rfl rfl (by decide) (fun h => absurd h (by decide)) (fun _ => ?_)
        refine x_aload_n rfl l0 ?_
        refine x_iload_n rfl l1 ?_
        refine x_iload rfl l4 ?_
        refine x_iload_n rfl l2 ?_
        refine x_call [_, _, _, _] rfl rfl (show (0 : Nat) ≤ 8 from by decide) (show (4 : Nat) ≤ 6 from by decide) (x_rcv (by decide) hH2) (xs_159 hH2 hT2 hnT hL (by rw [hTx]; exact hpath) ((he2 121 (by decide) (by decide)).trans g121) gk0) (fun r' f3 hP => ?_)
        obtain ⟨rfl, r1, ⟨cl3, r2, r3, r4⟩, r5⟩ := hP
        refine x_iconst rfl ?_
        refine x_ireturn rfl (Or.inr (Or.inl ⟨rfl, by decide⟩)) ⟨_, _, rfl, rfl, fun q b1 b2 b3 => (r5 q (by omega) (by omega)).trans (hfr2 q b1 b2 b3), ⟨sDN_f hDN2 fun q b1 b2 => r5 q (by omega) (by omega), ⟨_, l2a, (r5 171 (by decide) (by decide)).trans u4, (r5 (171 + 1) (by decide) (by decide)).trans u1, u2⟩, cl3, r2, r3⟩, Or.inl ⟨(x.1 ++ [c], srow (sbt K (G c)) false x.2 (sbt K (G c)).length), ?_, rfl, ⟨_, r1⟩, cl3, r2, r3, fun i hi => by rw [r4 i hi, hTx]⟩⟩
        obtain ⟨rest, erest⟩ := wkT_pre (fun c => sbt K (G c)) al x (c + 1) (n - (c + 1))
        rw [show c + 1 + (n - (c + 1)) = n by omega] at erest
        rw [erest, eT, hk1]
        refine find_app_some _ _ ?_
        rw [find_app _ _ hfd, List.find?_cons, hh]
      · rw [if_neg hh]
        refine x_ifeq (t := 82) rfl rfl (by decide) (fun _ => ?_) (fun h => absurd rfl h)
        have hfd2 : (wkT (fun c => sbt K (G c)) al x (c + 1)).find? whm = none := by
          rw [eT, hk1, find_app _ _ hfd, List.find?_cons, bool_f hh]
          rfl
        refine x_iload_n rfl l2 ?_
        refine x_iconst rfl ?_
        refine x_cge (t := 95) rfl rfl ⟨by omega, by omega⟩ (by decide) (fun h4 => ?_) (fun h4 => ?_)
        · have hL4 : ¬ L < 4 := by omega
          rw [if_neg hL4] at hH2 hT2
          refine x_iinc rfl l4 (show (4 : Nat) < 5 from by decide) ?_
          refine x_goto (t := 3) rfl rfl ?_
          refine ih (c + 1) _ _ (by omega) (xst_ne (by decide) l0 (Or.inl rfl)) (xst_ne (by decide) l1 (Or.inl rfl)) (xst_ne (by decide) l2 (Or.inl rfl)) (xst_ne (by decide) l3 (Or.inl rfl)) xst_eq hfr2 hin2 ?_ ?_ hfd2
          · rw [if_neg hL4]
            exact hH2
          · rw [if_neg hL4]
            exact hT2
        · have hL4 : L < 4 := by omega
          have hrm := hroom hL4
          obtain ⟨rest, erest⟩ := wkT_pre (fun c => sbt K (G c)) al x (c + 1) (n - (c + 1))
          rw [show c + 1 + (n - (c + 1)) = n by omega] at erest
          rw [erest, eT, hk1, List.length_append, List.length_append, List.length_singleton] at hrm
          rw [if_pos hL4] at hH2 hT2 hnT hTx
          refine x_aload_n rfl l0 ?_
          refine x_iload_n rfl l1 ?_
          refine x_iload rfl l4 ?_
          refine x_aload_n rfl l3 ?_
          refine x_call [_, _, _, _] rfl rfl (show (0 : Nat) ≤ 8 from by decide) (show (4 : Nat) ≤ 4 from by decide) (x_rcv (by decide) hH2) (xs_160 (c := c) hH2 hT2 (by rw [List.length_append]; omega) hnT u4 u1 u2 hlA hTR) (fun r' f3 hP => ?_)
          obtain ⟨rfl, r1, r2, r3⟩ := hP
          rw [hTx, List.append_assoc] at r2
          refine x_iinc rfl l4 (show (4 : Nat) < 5 from by decide) ?_
          refine x_goto (t := 3) rfl rfl ?_
          refine ih (c + 1) _ _ (by omega) (xst_ne (by decide) l0 (Or.inl rfl)) (xst_ne (by decide) l1 (Or.inl rfl)) (xst_ne (by decide) l2 (Or.inl rfl)) (xst_ne (by decide) l3 (Or.inl rfl)) xst_eq (fun q b1 b2 b3 => (r3 q (by omega)).trans (hfr2 q b1 b2 b3)) ⟨sDN_f hDN2 fun q b1 b2 => r3 q (by omega), ⟨_, l2a, (r3 171 (by decide)).trans u4, (r3 (171 + 1) (by decide)).trans u1, u2⟩, k0, (r3 121 (by decide)).trans ((he2 121 (by decide) (by decide)).trans g121), gk0⟩ ?_ ?_ hfd2
          · rw [if_pos hL4, eT, hk1, ← List.append_assoc, List.length_append, List.length_singleton]
            exact r1
          · rw [if_pos hL4, eT, hk1]
            exact r2
theorem xs_161 {v0 : Value} {xs : List Int32} {u : Nat × Nat} {f0 f : Nat → zE} {K : List (Int × Int)} {G : Nat → List xBt} {n : Nat} {al : Nat → Bool} {T0 : List sNd} {node L : Nat} {x : sNd} (hCK : sCK f0 K G n) (hAC : sAC f0 al) (hx : T0.getD node wN0 = x) (hnode : node < T0.length) (hL : 1 ≤ L ∧ L ≤ 4) (hpath : x.1.length + 1 = L) (hroom : L < 4 → T0.length + (wkT (fun c => sbt K (G c)) al x n).length ≤ 156) (hfr : wFr f0 f) (hin : wIn f) (hH : wHO f (T0.length : Nat) 0) (hT : wNT f T0) : xq v0 xs u 161 [(0, .ref 117), (1, xi (node : Nat)), (2, xi (L : Nat)), (3, .ref 171)] f (wBQ f0 (fun c => sbt K (G c)) al n T0 x L) := by
  unfold xq
  refine x_iconst rfl ?_
  refine x_istore rfl (show (4 : Nat) < 5 from by decide) ?_
  have e0 : (T0 ++ if L < 4 then wkT (fun c => sbt K (G c)) al x 0 else []) = T0 := by
    split
    · exact List.append_nil _
    · exact List.append_nil _
  exact xs_161l hCK hAC hx hnode hL hpath hroom n 0 _ f (by omega) (xst_ne (by decide) rfl (Or.inl rfl)) (xst_ne (by decide) rfl (Or.inl rfl)) (xst_ne (by decide) rfl (Or.inl rfl)) (xst_ne (by decide) rfl (Or.inl rfl)) xst_eq hfr hin (by rw [e0]; exact hH) (by rw [e0]; exact hT) rfl
end
section
/-! Search of the class: level by level. -/
/-- what search comes to -/
def wSQ (f0 : Nat → zE) (F : Int) (p : List Nat) (r' : Option Value) (f' : Nat → zE) : Prop := r' = some (xi F) ∧ wFr f0 f' ∧ sWC f' F (fun i => ((p.getD i 0 : Nat) : Int))
theorem wext_at {b : Nat → List sB} {al : Nat → Bool} {n : Nat} {r : Nat → Int} {L i : Nat} (hi : i < (wext b al n L ([], r)).length) : (wcat b al n r (L + 1)).getD ((wcat b al n r L).length + i) wN0 = (wext b al n L ([], r)).getD i wN0 := by
  show (wcat b al n r L ++ wext b al n L ([], r)).getD _ _ = _
  rw [List.getD_eq_getElem?_getD, List.getElem?_append_right (by omega), show (wcat b al n r L).length + i - (wcat b al n r L).length = i by omega, ← List.getD_eq_getElem?_getD]
theorem take_s {α : Type} {l : List α} {i : Nat} {d : α} (h : i < l.length) : l.take (i + 1) = l.take i ++ [l.getD i d] := by
  rw [List.take_succ, List.getElem?_eq_getElem h, List.getD_eq_getElem?_getD, List.getElem?_eq_getElem h]
  rfl
theorem flatMap_take_len {b : Nat → List sB} {al : Nat → Bool} {n : Nat} {l : List sNd} {i : Nat} (h : i < l.length) : ((l.take i).flatMap (fun y => wkT b al y n)).length + (wkT b al (l.getD i wN0) n).length ≤ (l.flatMap (fun y => wkT b al y n)).length := by
  have e : l = l.take (i + 1) ++ l.drop (i + 1) := (List.take_append_drop (i + 1) l).symm
  have e2 : (l.flatMap (fun y => wkT b al y n)).length = ((l.take (i + 1)).flatMap (fun y => wkT b al y n)).length + ((l.drop (i + 1)).flatMap (fun y => wkT b al y n)).length := by
    rw [← List.length_append, ← flatMap_app', ← e]
  rw [e2, take_s (d := wN0) h, flatMap_app', List.length_append, flatMap_cons', flatMap_nil', List.append_nil]
  omega
set_option maxRecDepth 20000 in
theorem xs_162n {v0 : Value} {xs : List Int32} {u : Nat × Nat} {f0 : Nat → zE} {K : List (Int × Int)} {G : Nat → List xBt} {n : Nat} {al : Nat → Bool} {r : Nat → Int} {L0 : Nat} (hCK : sCK f0 K G n) (hAC : sAC f0 al) (h5 : scnt al n ≤ 5) (hL : L0 < 4)
    (hk : ∀ (lv : zL) (f : Nat → zE), zlv lv 0 = some (.ref 117) → zlv lv 2 = some (.ref 171) → zlv lv 4 = some (xi ((L0 + 1 : Nat) : Int)) → zlv lv 5 = some (xi ((wcat (fun c => sbt K (G c)) al n r (L0 + 1)).length : Nat)) → wFr f0 f → wIn f → (L0 + 1 < 4 → wHO f ((wcat (fun c => sbt K (G c)) al n r (L0 + 2)).length : Nat) 0 ∧ wNT f (wcat (fun c => sbt K (G c)) al n r (L0 + 2))) → (∃ nd : Int, wHO f nd 0) → wfd (fun c => sbt K (G c)) al n r (L0 + 1) = none → xz v0 xs u (fun o X => ∃ r' f', o = .inl r' ∧ X = (xh f', u) ∧ wSQ f0 (wrs (fun c => sbt K (G c)) al n r (4 - L0) (L0 + 1)).1 (wrs (fun c => sbt K (G c)) al n r (4 - L0) (L0 + 1)).2 r' f') 162 80 lv [] f) :
    ∀ (w i : Nat) (lv : zL) (f : Nat → zE), w + i = (wext (fun c => sbt K (G c)) al n L0 ([], r)).length → zlv lv 0 = some (.ref 117) → zlv lv 2 = some (.ref 171) → zlv lv 4 = some (xi ((L0 + 1 : Nat) : Int)) → zlv lv 5 = some (xi ((wcat (fun c => sbt K (G c)) al n r (L0 + 1)).length : Nat)) → zlv lv 6 = some (xi (((wcat (fun c => sbt K (G c)) al n r L0).length + i : Nat) : Int)) → wFr f0 f → wIn f → wHO f ((wcat (fun c => sbt K (G c)) al n r (L0 + 1) ++ if L0 + 1 < 4 then ((wext (fun c => sbt K (G c)) al n L0 ([], r)).take i).flatMap (fun y => wkT (fun c => sbt K (G c)) al y n) else []).length : Nat) 0 → wNT f (wcat (fun c => sbt K (G c)) al n r (L0 + 1) ++ if L0 + 1 < 4 then ((wext (fun c => sbt K (G c)) al n L0 ([], r)).take i).flatMap (fun y => wkT (fun c => sbt K (G c)) al y n) else []) → (((wext (fun c => sbt K (G c)) al n L0 ([], r)).take i).flatMap (fun y => wkT (fun c => sbt K (G c)) al y n)).find? whm = none → xz v0 xs u (fun o X => ∃ r' f', o = .inl r' ∧ X = (xh f', u) ∧ wSQ f0 (wrs (fun c => sbt K (G c)) al n r (4 - L0) (L0 + 1)).1 (wrs (fun c => sbt K (G c)) al n r (4 - L0) (L0 + 1)).2 r' f') 162 52 lv [] f := by
  have hc4 := wcat_len (b := (fun c => sbt K (G c))) (r := r) h5
  have hcm := wcat_mono (b := (fun c => sbt K (G c))) (al := al) (n := n) (r := r) (L := L0 + 1) (L' := 4) (by omega)
  have hcL : (wcat (fun c => sbt K (G c)) al n r (L0 + 1)).length = (wcat (fun c => sbt K (G c)) al n r L0).length + (wext (fun c => sbt K (G c)) al n L0 ([], r)).length := by
    show (wcat (fun c => sbt K (G c)) al n r L0 ++ wext (fun c => sbt K (G c)) al n L0 ([], r)).length = _
    rw [List.length_append]
  have hes : wext (fun c => sbt K (G c)) al n (L0 + 1) ([], r) = (wext (fun c => sbt K (G c)) al n L0 ([], r)).flatMap (fun y => wkT (fun c => sbt K (G c)) al y n) := wext_s _ _ _ _ _
  intro w
  induction w with
  | zero =>
    intro i lv f hw l0 l2 l4 l5 l6 hfr hin hH hT hfd
    have ei : i = (wext (fun c => sbt K (G c)) al n L0 ([], r)).length := by omega
    subst ei
    rw [List.take_length, ← hes] at hH hT hfd
    refine x_iload rfl l6 ?_
    refine x_iload rfl l5 ?_
    refine x_cge (t := 80) rfl rfl ⟨by omega, by omega⟩ ⟨by omega, by omega⟩ (fun _ => ?_) (fun h => by omega)
    refine hk lv f l0 l2 l4 l5 hfr hin (fun h4 => ?_) ⟨_, hH⟩ hfd
    rw [if_pos h4] at hH hT
    exact ⟨hH, hT⟩
  | succ w ih =>
    intro i lv f hw l0 l2 l4 l5 l6 hfr hin hH hT hfd
    have hi : i < (wext (fun c => sbt K (G c)) al n L0 ([], r)).length := by omega
    have hxm : (wext (fun c => sbt K (G c)) al n L0 ([], r)).getD i wN0 ∈ wext (fun c => sbt K (G c)) al n L0 ([], r) := by
      rw [List.getD_eq_getElem?_getD, List.getElem?_eq_getElem hi]
      exact List.getElem_mem hi
    obtain ⟨hpl, -⟩ := wext_mem L0 _ _ hxm
    have hets := take_s (d := wN0) hi
    have hfl := flatMap_take_len (b := (fun c => sbt K (G c))) (al := al) (n := n) hi
    rw [← hes] at hfl
    generalize hx : (wext (fun c => sbt K (G c)) al n L0 ([], r)).getD i wN0 = x at hpl hets hfl
    have hT0x : (wcat (fun c => sbt K (G c)) al n r (L0 + 1) ++ if L0 + 1 < 4 then ((wext (fun c => sbt K (G c)) al n L0 ([], r)).take i).flatMap (fun y => wkT (fun c => sbt K (G c)) al y n) else []).getD ((wcat (fun c => sbt K (G c)) al n r L0).length + i) wN0 = x := by
      rw [List.getD_eq_getElem?_getD, List.getElem?_append_left (by omega), ← List.getD_eq_getElem?_getD, wext_at hi]
      exact hx
    have hes2 : ((wext (fun c => sbt K (G c)) al n L0 ([], r)).take (i + 1)).flatMap (fun y => wkT (fun c => sbt K (G c)) al y n) = ((wext (fun c => sbt K (G c)) al n L0 ([], r)).take i).flatMap (fun y => wkT (fun c => sbt K (G c)) al y n) ++ wkT (fun c => sbt K (G c)) al x n := by
      rw [hets, flatMap_app', flatMap_cons', flatMap_nil', List.append_nil]
    refine x_iload rfl l6 ?_
    refine x_iload rfl l5 ?_
    refine x_cge (t := 80) rfl rfl ⟨by omega, by omega⟩ ⟨by omega, by omega⟩ (fun h => by omega) (fun _ => ?_)
    refine x_aload_n rfl l0 ?_
    refine x_iload rfl l6 ?_
    refine x_iload rfl l4 ?_
    refine x_aload_n rfl l2 ?_
    refine x_call [_, _, _, _] rfl rfl (show (0 : Nat) ≤ 8 from by decide) (show (4 : Nat) ≤ 5 from by decide) (x_rcv (by decide) hH) (xs_161 (L := L0 + 1) (node := (wcat (fun c => sbt K (G c)) al n r L0).length + i) hCK hAC hT0x (by rw [List.length_append]; omega) ⟨by omega, by omega⟩ (by rw [hpl]; simp) (fun h4 => ?_) hfr hin hH hT) (fun r' f1 hP => ?_)
    · rw [if_pos h4, List.length_append]
      have hm2 := wcat_mono (b := (fun c => sbt K (G c))) (al := al) (n := n) (r := r) (L := L0 + 2) (L' := 4) (by omega)
      have hc2 : (wcat (fun c => sbt K (G c)) al n r (L0 + 2)).length = (wcat (fun c => sbt K (G c)) al n r (L0 + 1)).length + (wext (fun c => sbt K (G c)) al n (L0 + 1) ([], r)).length := by
        show (wcat (fun c => sbt K (G c)) al n r (L0 + 1) ++ wext (fun c => sbt K (G c)) al n (L0 + 1) ([], r)).length = _
        rw [List.length_append]
      omega
    obtain ⟨hfr1, hin1, hP⟩ := hP
    rcases hP with ⟨y, hy, rfl, ⟨nd, q1⟩, cl, q2, q3, q4⟩ | ⟨hy, rfl, q1, q2⟩
    · refine x_ifeq (t := 74) rfl rfl (by decide) (fun h => absurd h (by decide)) (fun _ => ?_)
      refine x_iload rfl l4 ?_
      have hfw : wfd (fun c => sbt K (G c)) al n r (L0 + 1) = some y := by
        unfold wfd
        rw [hes, ← List.take_append_drop (i + 1) (wext (fun c => sbt K (G c)) al n L0 ([], r)), flatMap_app', hes2]
        refine find_app_some _ _ ?_
        rw [find_app _ _ hfd]
        exact hy
      have ew : wrs (fun c => sbt K (G c)) al n r (4 - L0) (L0 + 1) = (((L0 + 1 : Nat) : Int), y.1) := by
        rw [show 4 - L0 = (3 - L0) + 1 by omega]
        show (match wfd (fun c => sbt K (G c)) al n r (L0 + 1) with
          | some x => (((L0 + 1 : Nat) : Int), x.1)
          | none => wrs (fun c => sbt K (G c)) al n r (3 - L0) (L0 + 1 + 1)) = _
        rw [hfw]
      rw [ew]
      refine x_ireturn rfl (Or.inl rfl) ⟨_, _, rfl, rfl, rfl, hfr1, ⟨xi nd, ?_⟩, cl, q2, q3, fun j hj => q4 j (by omega)⟩
      rw [if_neg (by omega)]
      exact q1
    · refine x_ifeq (t := 74) rfl rfl (by decide) (fun _ => ?_) (fun h => absurd rfl h)
      refine x_iinc rfl l6 (show (6 : Nat) < 7 from by decide) ?_
      refine x_goto (t := 52) rfl rfl ?_
      have eA : (wcat (fun c => sbt K (G c)) al n r (L0 + 1) ++ if L0 + 1 < 4 then ((wext (fun c => sbt K (G c)) al n L0 ([], r)).take (i + 1)).flatMap (fun y => wkT (fun c => sbt K (G c)) al y n) else []) = ((wcat (fun c => sbt K (G c)) al n r (L0 + 1) ++ if L0 + 1 < 4 then ((wext (fun c => sbt K (G c)) al n L0 ([], r)).take i).flatMap (fun y => wkT (fun c => sbt K (G c)) al y n) else []) ++ if L0 + 1 < 4 then wkT (fun c => sbt K (G c)) al x n else []) := by
        by_cases h4 : L0 + 1 < 4
        · rw [if_pos h4, if_pos h4, if_pos h4, hes2, List.append_assoc]
        · rw [if_neg h4, if_neg h4, if_neg h4, List.append_nil, List.append_nil]
      refine ih (i + 1) _ _ (by omega) (xst_ne (by decide) l0 (Or.inl rfl)) (xst_ne (by decide) l2 (Or.inl rfl)) (xst_ne (by decide) l4 (Or.inl rfl)) (xst_ne (by decide) l5 (Or.inl rfl)) xst_eq hfr1 hin1 ?_ ?_ ?_
      · rw [eA]
        exact q1
      · rw [eA]
        exact q2
      · rw [hes2, find_app _ _ hfd]
        exact hy
theorem xs_162l {v0 : Value} {xs : List Int32} {u : Nat × Nat} {f0 : Nat → zE} {K : List (Int × Int)} {G : Nat → List xBt} {n : Nat} {al : Nat → Bool} {r : Nat → Int} (hCK : sCK f0 K G n) (hAC : sAC f0 al) (h5 : scnt al n ≤ 5) : ∀ (w L0 : Nat) (lv : zL) (f : Nat → zE), w + L0 = 4 → zlv lv 0 = some (.ref 117) → zlv lv 2 = some (.ref 171) → zlv lv 3 = some (xi ((wcat (fun c => sbt K (G c)) al n r L0).length : Nat)) → zlv lv 4 = some (xi ((L0 + 1 : Nat) : Int)) → wFr f0 f → wIn f → (L0 < 4 → wHO f ((wcat (fun c => sbt K (G c)) al n r (L0 + 1)).length : Nat) 0 ∧ wNT f (wcat (fun c => sbt K (G c)) al n r (L0 + 1))) → (∃ nd : Int, wHO f nd 0) → xz v0 xs u (fun o X => ∃ r' f', o = .inl r' ∧ X = (xh f', u) ∧ wSQ f0 (wrs (fun c => sbt K (G c)) al n r (4 - L0) (L0 + 1)).1 (wrs (fun c => sbt K (G c)) al n r (4 - L0) (L0 + 1)).2 r' f') 162 37 lv [] f := by
  intro w
  induction w with
  | zero =>
    intro L0 lv f hw l0 l2 l3 l4 hfr hin hHT hH
    have eL : L0 = 4 := by omega
    subst eL
    refine x_iload rfl l4 ?_
    refine x_iconst rfl ?_
    refine x_cgt (t := 89) rfl rfl (by decide) (by decide) (fun _ => ?_) (fun h => absurd h (by decide))
    refine x_iconst rfl ?_
    obtain ⟨nd, hH⟩ := hH
    obtain ⟨-, -, k0, g121, gk0⟩ := hin
    refine x_ireturn rfl (Or.inl rfl) ⟨_, _, rfl, rfl, rfl, hfr, ⟨xi nd, hH⟩, k0, g121, gk0, fun i hi => ?_⟩
    have hi2 : ((i : Nat) : Int) < -1 := hi
    omega
  | succ w ih =>
    intro L0 lv f hw l0 l2 l3 l4 hfr hin hHT hH
    obtain ⟨hH1, hT1⟩ := hHT (by omega)
    refine x_iload rfl l4 ?_
    refine x_iconst rfl ?_
    refine x_cgt (t := 89) rfl rfl ⟨by omega, by omega⟩ (by decide) (fun h => by omega) (fun _ => ?_)
    refine x_aload_n rfl l0 ?_
    refine x_getfield rfl (by decide) hH1 rfl ?_
    refine x_istore rfl (show (5 : Nat) < 7 from by decide) ?_
    refine x_iload_n rfl (xst_ne (by decide) l3 (Or.inl rfl)) ?_
    refine x_istore rfl (show (6 : Nat) < 7 from by decide) ?_
    have e0 : (wcat (fun c => sbt K (G c)) al n r (L0 + 1) ++ if L0 + 1 < 4 then ((wext (fun c => sbt K (G c)) al n L0 ([], r)).take 0).flatMap (fun y => wkT (fun c => sbt K (G c)) al y n) else []) = wcat (fun c => sbt K (G c)) al n r (L0 + 1) := by
      split
      · exact List.append_nil _
      · exact List.append_nil _
    refine xs_162n hCK hAC h5 (by omega) (fun lv2 f2 m0 m2 m4 m5 hfr2 hin2 hHT2 hH2 hno => ?_) (wext (fun c => sbt K (G c)) al n L0 ([], r)).length 0 _ f (by omega) (xst_ne (by decide) (xst_ne (by decide) l0 (Or.inl rfl)) (Or.inl rfl)) (xst_ne (by decide) (xst_ne (by decide) l2 (Or.inl rfl)) (Or.inl rfl)) (xst_ne (by decide) (xst_ne (by decide) l4 (Or.inl rfl)) (Or.inl rfl)) (xst_ne (by decide) xst_eq (Or.inl rfl)) xst_eq hfr hin (by rw [e0]; exact hH1) (by rw [e0]; exact hT1) rfl
    refine x_iload rfl m5 ?_
    refine x_istore_n rfl (show (3 : Nat) < 7 from by decide) ?_
    refine x_iinc rfl (xst_ne (by decide) m4 (Or.inl rfl)) (show (4 : Nat) < 7 from by decide) ?_
    refine x_goto (t := 37) rfl rfl ?_
    have ew : wrs (fun c => sbt K (G c)) al n r (4 - L0) (L0 + 1) = wrs (fun c => sbt K (G c)) al n r (4 - (L0 + 1)) (L0 + 1 + 1) := by
      rw [show 4 - L0 = (4 - (L0 + 1)) + 1 by omega]
      show (match wfd (fun c => sbt K (G c)) al n r (L0 + 1) with
        | some x => (((L0 + 1 : Nat) : Int), x.1)
        | none => wrs (fun c => sbt K (G c)) al n r (4 - (L0 + 1)) (L0 + 1 + 1)) = _
      rw [hno]
    rw [ew]
    refine ih (L0 + 1) _ _ (by omega) (xst_ne (by decide) (xst_ne (by decide) m0 (Or.inl rfl)) (Or.inl rfl)) (xst_ne (by decide) (xst_ne (by decide) m2 (Or.inl rfl)) (Or.inl rfl)) (xst_ne (by decide) xst_eq (Or.inl rfl)) ?_ hfr2 hin2 hHT2 hH2
    exact xst_eq
theorem xs_162 {v0 : Value} {xs : List Int32} {u : Nat × Nat} {f0 : Nat → zE} {K : List (Int × Int)} {G : Nat → List xBt} {n : Nat} {al : Nat → Bool} {r : Nat → Int} {pl : List Int} (hM : yM yT2 (xh f0)) (hCK : sCK f0 K G n) (hAC : sAC f0 al) (h5 : scnt al n ≤ 5) (h175 : f0 175 = xr 0 pl) (hpl : pl.length = 8) (hrl : sRL pl 0 r) : xq v0 xs u 162 [(0, .ref 117), (1, .ref 175), (2, .ref 171)] f0 (wSQ f0 (wres (fun c => sbt K (G c)) al n r).1 (wres (fun c => sbt K (G c)) al n r).2) := by
  unfold xq
  obtain ⟨fs, h117, hfl, h3⟩ := xT_o (p := 117) hM (by decide) (show yT2[117 - 50]? = some (.inl (8, [.inr (.inr [53]), .inr (.inr [113]), .inr (.inr [118]), .inr (.inr [119]), .inr (.inr [120]), .inr (.inr [121]), .inl (0, 156), .inl (0, 4)])) from rfl)
  obtain ⟨rl, e118, el118, -⟩ := xT_a (p := 118) hM (by decide) (show yT2[118 - 50]? = some (.inr (.inl (0, [(1248, 0, 399)]))) from rfl)
  obtain ⟨pp, e119, el119, -⟩ := xT_a (p := 119) hM (by decide) (show yT2[119 - 50]? = some (.inr (.inl (0, [(156, 0, 155)]))) from rfl)
  obtain ⟨lc, e120, el120, -⟩ := xT_a (p := 120) hM (by decide) (show yT2[120 - 50]? = some (.inr (.inl (0, [(156, 0, 11)]))) from rfl)
  obtain ⟨k0, e121, el121, -⟩ := xT_a (p := 121) hM (by decide) (show yT2[121 - 50]? = some (.inr (.inl (0, [(4, 0, 11)]))) from rfl)
  have hl118 : rl.length = 1248 := el118
  have hl119 : pp.length = 156 := el119
  have hl120 : lc.length = 156 := el120
  have hl121 : k0.length = 4 := el121
  obtain ⟨z24, l24, t1, -, t2, t3, -⟩ := sTk hM (i := 24) (by decide)
  have hH0 : ∃ v6 v7 : Value, f0 117 = .inl (8, [.ref 53, .ref 113, .ref 118, .ref 119, .ref 120, .ref 121, v6, v7]) := by
    match fs, hfl, h117, h3 with
    | [a0, a1, a2, a3, a4, a5, a6, a7], _, h117, h3 =>
      have R : ∀ (k p : Nat) (v : Value), [a0, a1, a2, a3, a4, a5, a6, a7][k]? = some v → ([.inr (.inr [53]), .inr (.inr [113]), .inr (.inr [118]), .inr (.inr [119]), .inr (.inr [120]), .inr (.inr [121]), .inl (0, 156), .inl (0, 4)] : List yA)[k]? = some (.inr (.inr [p])) → v = .ref p := by
        intro k p v hv ha
        obtain ⟨w, hw, hg⟩ := h3 k _ ha
        rw [hv] at hw
        cases hw
        exact yg_rf hg
      refine ⟨a6, a7, ?_⟩
      rw [h117, R 0 53 a0 rfl rfl, R 1 113 a1 rfl rfl, R 2 118 a2 rfl rfl, R 3 119 a3 rfl rfl, R 4 120 a4 rfl rfl, R 5 121 a5 rfl rfl]
  obtain ⟨v6, v7, hH0⟩ := hH0
  refine x_aload_n rfl rfl ?_
  refine x_iconst rfl ?_
  refine x_putfield rfl (by decide) hH0 (show (7 : Nat) < 8 from by decide) rfl ?_
  refine x_aload_n rfl rfl ?_
  refine x_iconst rfl ?_
  refine x_call [_, _] rfl rfl (show (0 : Nat) ≤ 8 from by decide) (show (2 : Nat) ≤ 3 from by decide) rfl (xs_157 (p := 175) (by decide) (xu_ne (by decide) h175) (by omega) hrl) (fun r' f' hP => ?_)
  obtain ⟨rfl, hPe⟩ := hP
  subst f'
  have hwh : whm ([], r) = sall (fun d => r d == shome d) 8 := rfl
  rw [← hwh]
  have hfr1 : wFr f0 (xu f0 117 (.inl (8, [.ref 53, .ref 113, .ref 118, .ref 119, .ref 120, .ref 121, v6, xi 0]))) := fun q b1 _ _ => xu_ne (by omega) rfl
  by_cases hh : whm ([], r) = true
  · rw [if_pos hh]
    refine x_ifeq (t := 15) rfl rfl (by decide) (fun h => absurd h (by decide)) (fun _ => ?_)
    refine x_iconst rfl ?_
    have ew : wres (fun c => sbt K (G c)) al n r = (0, []) := by unfold wres; rw [if_pos hh]
    rw [ew]
    refine x_ireturn rfl (Or.inl rfl) ⟨_, _, rfl, rfl, rfl, hfr1, ⟨v6, xu_eq⟩, k0, xu_ne (by decide) e121, hl121, fun i hi => ?_⟩
    have hi2 : ((i : Nat) : Int) < 0 := hi
    omega
  rw [if_neg hh]
  refine x_ifeq (t := 15) rfl rfl (by decide) (fun _ => ?_) (fun h => absurd rfl h)
  have ew : wres (fun c => sbt K (G c)) al n r = wrs (fun c => sbt K (G c)) al n r 4 1 := by unfold wres; rw [if_neg hh]
  rw [ew]
  refine x_aload_n rfl rfl ?_
  refine x_iconst rfl ?_
  refine x_aload_n rfl rfl ?_
  refine x_getfield rfl (by decide) xu_eq rfl ?_
  refine x_iconst rfl ?_
  refine x_bipush rfl (by decide) ?_
  refine x_acopy rfl (by decide) (by decide) (by decide) (xu_ne (by decide) h175) (xu_ne (by decide) e118) (by decide) ⟨by omega, by omega⟩ ⟨by omega, by omega⟩ (by omega) (by omega) (show (0 : Nat) ≤ 8 from by decide) ?_
  refine x_aload_n rfl rfl ?_
  refine x_iconst rfl ?_
  refine x_putfield rfl (by decide) (xu_ne (by decide) xu_eq) (show (6 : Nat) < 8 from by decide) rfl ?_
  refine x_iconst rfl ?_
  refine x_istore_n rfl (show (3 : Nat) < 7 from by decide) ?_
  refine x_iconst rfl ?_
  refine x_istore rfl (show (4 : Nat) < 7 from by decide) ?_
  generalize hf9 : xu (xu (xu f0 117 _) 118 _) 117 _ = f9
  have k117 : wHO f9 1 0 := by rw [← hf9]; exact xu_eq
  have hfa : ∀ q, q ≠ 117 → q ≠ 118 → f9 q = f0 q := fun q b1 b2 => by rw [← hf9]; exact xu_ne b1 (xu_ne b2 (xu_ne b1 rfl))
  have k118 : ∃ l9 : List Int, f9 118 = xr 0 l9 ∧ l9.length = 1248 ∧ ∀ d : Nat, d < 8 → l9.getD d 0 = pl.getD d 0 := by
    refine ⟨_, by rw [← hf9]; exact xu_ne (by decide) xu_eq, ?_, fun d hd => ?_⟩
    · rw [show (8 : Int).toNat = 8 from rfl, show (0 : Int).toNat = 0 from rfl, scopy_len (by omega) (by omega)]
      exact hl118
    · rw [show (8 : Int).toNat = 8 from rfl, show (0 : Int).toNat = 0 from rfl, scopy_at (by omega) (by omega), if_pos ⟨by omega, by omega⟩]
      congr 1
      omega
  obtain ⟨l9, k118, kl9, kv9⟩ := k118
  have hT9 : wNT f9 (wcat (fun c => sbt K (G c)) al n r 1) := by
    refine ⟨l9, pp, lc, k118, (hfa 119 (by decide) (by decide)).trans e119, (hfa 120 (by decide) (by decide)).trans e120, ⟨kl9, hl119, hl120⟩, by show (1 : Nat) ≤ 156; omega, fun k hk => ?_⟩
    have hk0 : k = 0 := by
      have hk1 : k < 1 := hk
      omega
    subst hk0
    refine ⟨⟨by omega, by omega, fun d hd => ?_⟩, Or.inl ⟨rfl, rfl⟩⟩
    obtain ⟨a1, a2⟩ := sRL_at hrl hd
    refine ⟨?_, a2⟩
    rw [show (((0 : Nat) : Int) * 8 + (d : Nat)).toNat = d by omega, kv9 d hd]
    exact a1
  refine xs_162l hCK hAC h5 4 0 _ f9 rfl (xst_ne (by decide) (xst_ne (by decide) rfl (Or.inl rfl)) (Or.inl rfl)) (xst_ne (by decide) (xst_ne (by decide) rfl (Or.inl rfl)) (Or.inl rfl)) (xst_ne (by decide) xst_eq (Or.inl rfl)) xst_eq (fun q b1 _ _ => hfa q (by omega) (by omega)) ⟨sDN_f (sDN_M hM) fun q b1 b2 => hfa q (by omega) (by omega), ⟨_, l24, (hfa 171 (by decide) (by decide)).trans t1, (hfa (171 + 1) (by decide) (by decide)).trans t2, t3⟩, k0, (hfa 121 (by decide) (by decide)).trans e121, hl121⟩ (fun _ => ⟨k117, hT9⟩) ⟨1, k117⟩
theorem xs_163 {v0 : Value} {xs : List Int32} {u : Nat × Nat} {f : Nat → zE} {K : List (Int × Int)} {G : Nat → List xBt} {n : Nat} {al : Nat → Bool} {S : sS} (hM : yM yT2 (xh f)) (hT : sCT f K G S) (hCK : sCK f K G n) (hAC : sAC f al) (h5 : scnt al n ≤ 5) : xq v0 xs u 163 [(0, .ref 50)] f (fun r' f' => r' = some (xi (wres (fun c => sbt K (G c)) al n S.1).1) ∧ sCT f' K G S ∧ sWC f' (wres (fun c => sbt K (G c)) al n S.1).1 (fun i => (((wres (fun c => sbt K (G c)) al n S.1).2.getD i 0 : Nat) : Int)) ∧ wFr f f') := by
  unfold xq
  obtain ⟨⟨lf, h50⟩, ⟨pl, h175, hpl, hrl⟩, -⟩ := id hT
  obtain ⟨fs, h117, -⟩ := xT_o (p := 117) hM (by decide) (show yT2[117 - 50]? = some (.inl (8, [.inr (.inr [53]), .inr (.inr [113]), .inr (.inr [118]), .inr (.inr [119]), .inr (.inr [120]), .inr (.inr [121]), .inl (0, 156), .inl (0, 4)])) from rfl)
  refine x_aload_n rfl rfl ?_
  refine x_getfield rfl (by decide) h50 rfl ?_
  refine x_aload_n rfl rfl ?_
  refine x_getfield rfl (by decide) h50 rfl ?_
  refine x_aload_n rfl rfl ?_
  refine x_getfield rfl (by decide) h50 rfl ?_
  refine x_call [_, _, _] rfl rfl (show (0 : Nat) ≤ 8 from by decide) (show (3 : Nat) ≤ 7 from by decide) (x_rcv (by decide) h117) (xs_162 hM hCK hAC h5 h175 hpl hrl) (fun r' f1 hP => ?_)
  obtain ⟨rfl, hfr, hW⟩ := hP
  exact x_ireturn rfl (Or.inl rfl) ⟨_, _, rfl, rfl, rfl, sCT_f2 hT (hfr 50 (by decide) (by decide) (by decide)) (hfr 175 (by decide) (by decide) (by decide)) (fun q b1 b2 => hfr q (by omega) (by omega) (by omega)), hW, hfr⟩
end
section
/-! The model looks for the way home: its small methods. -/
/-- the next allowed call among the last j -/
def sfr (al : Nat → Bool) (n : Nat) : Nat → Int
  | 0 => -1
  | j + 1 => if al (n - 1 - j) = true then ((n - 1 - j : Nat) : Int) else sfr al n j
theorem sfr_rg (al : Nat → Bool) (n : Nat) : ∀ j, j ≤ n → -1 ≤ sfr al n j ∧ sfr al n j < (n : Nat) := by
  intro j
  induction j with
  | zero => intro _; exact ⟨by show (-1 : Int) ≤ -1; omega, by show (-1 : Int) < _; omega⟩
  | succ j ih =>
    intro h
    have := ih (by omega)
    simp only [sfr]
    split <;> omega
theorem xs_165l {v0 : Value} {xs : List Int32} {u : Nat × Nat} {f : Nat → zE} {fs : List Value} {n : Nat} {al : Nat → Bool} {bl : List Int} (h177 : f 177 = .inl (10, fs)) (h9 : fs[9]? = some (xi (n : Nat))) (h35 : fs[35]? = some (.ref 198)) (hn : n ≤ 12) (h198 : f 198 = xr 2 bl) (hbl : bl.length = 12) (hb : ∀ i, i < 12 → bl.getD i 0 = if al i = true then 1 else 0) {c : Nat} (hc : c ≤ 13) : ∀ (w j : Nat) (lv : zL), w + j = n - c → zlv lv 0 = some (.ref 177) → zlv lv 1 = some (xi (c : Nat)) → zlv lv 2 = some (xi (sfr al n j)) → zlv lv 3 = some (xi ((n : Nat) - 1 - (j : Nat))) → xz v0 xs u (fun o X => ∃ r' f', o = .inl r' ∧ X = (xh f', u) ∧ (fun r' f' => r' = some (xi (sfr al n (n - c))) ∧ f' = f) r' f') 165 9 lv [] f := by
  intro w
  induction w with
  | zero =>
    intro j lv hw l0 l1 l2 l3
    have ej : j = n - c := by omega
    subst ej
    refine x_iload_n rfl l3 ?_
    refine x_iload_n rfl l1 ?_
    refine x_clt (t := 35) rfl rfl ⟨by omega, by omega⟩ ⟨by omega, by omega⟩ (fun _ => ?_) (fun h => absurd h (by omega))
    refine x_iload_n rfl l2 ?_
    exact x_ireturn rfl (Or.inl rfl) ⟨_, _, rfl, rfl, rfl, rfl⟩
  | succ w ih =>
    intro j lv hw l0 l1 l2 l3
    have hbk := hb (n - 1 - j) (by omega)
    rw [show ((n : Nat) : Int) - 1 - (j : Nat) = ((n - 1 - j : Nat) : Int) by omega] at l3
    refine x_iload_n rfl l3 ?_
    refine x_iload_n rfl l1 ?_
    refine x_clt (t := 35) rfl rfl ⟨by omega, by omega⟩ ⟨by omega, by omega⟩ (fun h => absurd h (by omega)) (fun _ => ?_)
    refine x_dia (sfr al n (j + 1)) 28 (fun k => ?_) ?_
    · refine x_aload_n rfl l0 ?_
      refine x_getfield rfl (by decide) h177 h35 ?_
      refine x_iload_n rfl l3 ?_
      refine x_baload rfl (by decide) h198 ⟨by omega, by omega⟩ (by omega) ?_
      rw [Int.toNat_natCast, hbk]
      by_cases ha : al (n - 1 - j) = true
      · rw [if_pos ha]
        refine x_ifeq (t := 27) rfl rfl (by decide) (fun h => absurd h (by decide)) (fun _ => ?_)
        refine x_iload_n rfl l3 ?_
        refine x_goto (t := 28) rfl rfl ?_
        rw [show sfr al n (j + 1) = ((n - 1 - j : Nat) : Int) from if_pos ha] at k
        exact k
      · rw [if_neg ha]
        refine x_ifeq (t := 27) rfl rfl (by decide) (fun _ => ?_) (fun h => absurd rfl h)
        refine x_iload_n rfl l2 ?_
        rw [show sfr al n (j + 1) = sfr al n j from if_neg ha] at k
        exact k
    refine x_istore_n rfl (show (2 : Nat) < 4 from by decide) ?_
    refine x_iinc rfl (xst_ne (by decide) l3 (Or.inl rfl)) (show (3 : Nat) < 4 from by decide) ?_
    refine x_goto (t := 9) rfl rfl ?_
    refine ih (j + 1) _ (by omega) (xst_ne (by decide) (xst_ne (by decide) l0 (Or.inl rfl)) (Or.inl rfl)) (xst_ne (by decide) (xst_ne (by decide) l1 (Or.inl rfl)) (Or.inl rfl)) (xst_ne (by decide) xst_eq (Or.inl rfl)) ?_
    rw [show ((n : Nat) : Int) - 1 - ((j + 1 : Nat) : Int) = ((n - 1 - j : Nat) : Int) + -1 by omega]
    exact xst_eq
theorem xs_165 {v0 : Value} {xs : List Int32} {u : Nat × Nat} {f : Nat → zE} {fs : List Value} {n : Nat} {al : Nat → Bool} {bl : List Int} (h177 : f 177 = .inl (10, fs)) (h9 : fs[9]? = some (xi (n : Nat))) (h35 : fs[35]? = some (.ref 198)) (hn : n ≤ 12) (h198 : f 198 = xr 2 bl) (hbl : bl.length = 12) (hb : ∀ i, i < 12 → bl.getD i 0 = if al i = true then 1 else 0) {c : Nat} (hc : c ≤ 13) : xq v0 xs u 165 [(0, .ref 177), (1, xi (c : Nat))] f (fun r' f' => r' = some (xi (sfr al n (n - c))) ∧ f' = f) := by
  unfold xq
  refine x_iconst rfl ?_
  refine x_istore_n rfl (show (2 : Nat) < 4 from by decide) ?_
  refine x_aload_n rfl (xst_ne (by decide) rfl (Or.inl rfl)) ?_
  refine x_getfield rfl (by decide) h177 h9 ?_
  refine x_iconst rfl ?_
  refine x_isub rfl ?_
  refine x_istore_n rfl (show (3 : Nat) < 4 from by decide) ?_
  refine xs_165l h177 h9 h35 hn h198 hbl hb hc (n - c) 0 _ (by omega) (xst_ne (by decide) (xst_ne (by decide) rfl (Or.inl rfl)) (Or.inl rfl)) (xst_ne (by decide) (xst_ne (by decide) rfl (Or.inl rfl)) (Or.inl rfl)) (xst_ne (by decide) xst_eq (Or.inl rfl)) ?_
  rw [show ((n : Nat) : Int) - 1 - ((0 : Nat) : Int) = ((n : Nat) : Int) - 1 by omega]
  exact xst_eq
theorem xs_164l {v0 : Value} {xs : List Int32} {u : Nat × Nat} {f : Nat → zE} {fs : List Value} {sl : List Int} {k : Nat} {r : Nat → Int} (h177 : f 177 = .inl (10, fs)) (h39 : fs[39]? = some (.ref 201)) (h201 : f 201 = xr 0 sl) (hsl : sl.length = 40) (hk : k ≤ 4) (hr : ∀ d, d < 8 → sl.getD (8 * k + d) 0 = r d ∧ sok (r d)) : ∀ (w d : Nat) (lv : zL), w + d = 8 → zlv lv 0 = some (.ref 177) → zlv lv 1 = some (xi (k : Nat)) → zlv lv 2 = some (xi (if sall (fun d => r d == shome d) d = true then 1 else 0)) → zlv lv 3 = some (xi (d : Nat)) → xz v0 xs u (fun o X => ∃ r' f', o = .inl r' ∧ X = (xh f', u) ∧ (fun r' f' => r' = some (xi (if sall (fun d => r d == shome d) 8 = true then 1 else 0)) ∧ f' = f) r' f') 164 4 lv [] f := by
  intro w
  induction w with
  | zero =>
    intro d lv hw l0 l1 l2 l3
    have e8 : d = 8 := by omega
    subst e8
    refine x_iload_n rfl l3 ?_
    refine x_bipush rfl (by decide) ?_
    refine x_cge (t := 59) rfl rfl (by decide) (by decide) (fun _ => ?_) (fun h => absurd h (by decide))
    refine x_iload_n rfl l2 ?_
    exact x_ireturn rfl (Or.inr (Or.inl ⟨rfl, by split <;> decide⟩)) ⟨_, _, rfl, rfl, rfl, rfl⟩
  | succ w ih =>
    intro d lv hw l0 l1 l2 l3
    have hd : d < 8 := by omega
    obtain ⟨a1, a2⟩ := hr d hd
    have a3 : 0 ≤ r d ∧ r d < 400 := a2
    have b3 : 0 ≤ shome d ∧ shome d < 400 := shome_ok d
    have b6 := s_eq (shome d)
    have es : sall (fun d => r d == shome d) (d + 1) = (sall (fun d => r d == shome d) d && (r d == shome d)) := rfl
    refine x_iload_n rfl l3 ?_
    refine x_bipush rfl (by decide) ?_
    refine x_cge (t := 59) rfl rfl ⟨by omega, by omega⟩ (by decide) (fun h => absurd h (by omega)) (fun _ => ?_)
    refine x_dia (if sall (fun d => r d == shome d) (d + 1) = true then 1 else 0) 52 (fun kk => ?_) ?_
    · refine x_iload_n rfl l2 ?_
      by_cases hs : sall (fun d => r d == shome d) d = true
      · rw [if_pos hs]
        refine x_ifeq (t := 51) rfl rfl (by decide) (fun h => absurd h (by decide)) (fun _ => ?_)
        refine x_aload_n rfl l0 ?_
        refine x_getfield rfl (by decide) h177 h39 ?_
        refine x_bipush rfl (by decide) ?_
        refine x_iload_n rfl l1 ?_
        refine x_imul rfl ?_
        refine x_iload_n rfl l3 ?_
        refine x_iadd rfl ?_
        refine x_iaload rfl (by decide) h201 ⟨by omega, by omega⟩ (by omega) ?_
        rw [show (8 * ((k : Nat) : Int) + (d : Nat)).toNat = 8 * k + d by omega, a1]
        refine x_iconst rfl ?_
        refine x_bipush rfl (by decide) ?_
        refine x_iload_n rfl l3 ?_
        refine x_call [_] rfl rfl (show (3 : Nat) ≤ 8 from by decide) (show (1 : Nat) ≤ 1 from by decide) rfl (xs_14 hd) ?_
        intro r' f9 hP
        obtain ⟨rfl, hPe⟩ := hP
        subst f9
        refine x_imul rfl ?_
        refine x_iload_n rfl l3 ?_
        refine x_call [_] rfl rfl (show (3 : Nat) ≤ 8 from by decide) (show (1 : Nat) ≤ 1 from by decide) rfl (xs_13 hd) ?_
        intro r' f9 hP
        obtain ⟨rfl, hPe⟩ := hP
        subst f9
        refine x_iadd rfl ?_
        refine x_imul rfl ?_
        refine x_iload_n rfl l3 ?_
        refine x_call [_] rfl rfl (show (2 : Nat) ≤ 8 from by decide) (show (1 : Nat) ≤ 1 from by decide) rfl (xs_15 hd) ?_
        intro r' f9 hP
        obtain ⟨rfl, hPe⟩ := hP
        subst f9
        refine x_iadd rfl ?_
        rw [← b6]
        refine x_cne (t := 51) rfl rfl ⟨by omega, by omega⟩ ⟨by omega, by omega⟩ (fun h44 => ?_) (fun h44 => ?_)
        · refine x_iconst rfl ?_
          rw [if_neg (show ¬ sall (fun d => r d == shome d) (d + 1) = true by rw [es, beq_eq_false_iff_ne.mpr h44, Bool.and_false]; decide)] at kk
          exact kk
        · refine x_iconst rfl ?_
          refine x_goto (t := 52) rfl rfl ?_
          rw [if_pos (show sall (fun d => r d == shome d) (d + 1) = true by rw [es, hs, beq_iff_eq.mpr h44]; rfl)] at kk
          exact kk
      · rw [if_neg hs]
        refine x_ifeq (t := 51) rfl rfl (by decide) (fun _ => ?_) (fun h => absurd rfl h)
        refine x_iconst rfl ?_
        rw [if_neg (show ¬ sall (fun d => r d == shome d) (d + 1) = true by rw [es, bool_f hs, Bool.false_and]; decide)] at kk
        exact kk
    refine x_istore_n rfl (show (2 : Nat) < 4 from by decide) ?_
    refine x_iinc rfl (xst_ne (by decide) l3 (Or.inl rfl)) (show (3 : Nat) < 4 from by decide) ?_
    refine x_goto (t := 4) rfl rfl ?_
    exact ih (d + 1) _ (by omega) (xst_ne (by decide) (xst_ne (by decide) l0 (Or.inl rfl)) (Or.inl rfl)) (xst_ne (by decide) (xst_ne (by decide) l1 (Or.inl rfl)) (Or.inl rfl)) (xst_ne (by decide) xst_eq (Or.inl rfl)) xst_eq
theorem xs_164 {v0 : Value} {xs : List Int32} {u : Nat × Nat} {f : Nat → zE} {fs : List Value} {sl : List Int} {k : Nat} {r : Nat → Int} (h177 : f 177 = .inl (10, fs)) (h39 : fs[39]? = some (.ref 201)) (h201 : f 201 = xr 0 sl) (hsl : sl.length = 40) (hk : k ≤ 4) (hr : ∀ d, d < 8 → sl.getD (8 * k + d) 0 = r d ∧ sok (r d)) : xq v0 xs u 164 [(0, .ref 177), (1, xi (k : Nat))] f (fun r' f' => r' = some (xi (if sall (fun d => r d == shome d) 8 = true then 1 else 0)) ∧ f' = f) := by
  unfold xq
  refine x_iconst rfl ?_
  refine x_istore_n rfl (show (2 : Nat) < 4 from by decide) ?_
  refine x_iconst rfl ?_
  refine x_istore_n rfl (show (3 : Nat) < 4 from by decide) ?_
  exact xs_164l h177 h39 h201 hsl hk hr 8 0 _ rfl (xst_ne (by decide) (xst_ne (by decide) rfl (Or.inl rfl)) (Or.inl rfl)) (xst_ne (by decide) (xst_ne (by decide) rfl (Or.inl rfl)) (Or.inl rfl)) (xst_ne (by decide) xst_eq (Or.inl rfl)) xst_eq
theorem xs_166a {v0 : Value} {xs : List Int32} {u : Nat × Nat} {Q : zO → zX → Prop} {f0 : Nat → zE} {fs : List Value} {ca dn cl : Int} {sl : List Int} {k : Nat} {r : Nat → Int} (hB : sMB f0 fs ca dn cl) (h39 : fs[39]? = some (.ref 201)) (h201 : f0 201 = xr 0 sl) (hsl : sl.length = 40) (hk : k ≤ 3) (hr : ∀ d, d < 8 → sl.getD (8 * k + d) 0 = r d ∧ sok (r d))
    (hkk : ∀ (lv : zL) (f : Nat → zE), zlv lv 0 = some (.ref 177) → zlv lv 1 = some (xi (k : Nat)) → (∃ ax ay af : List Int, sMC f ax ay af ∧ ∀ e, e < 8 → sMP ax ay af ((e : Nat) : Int) (r e)) → (∀ q, q ≠ 192 → q ≠ 193 → q ≠ 194 → f q = f0 q) → xz v0 xs u Q 166 30 lv [] f) : ∀ (w d : Nat) (lv : zL) (f : Nat → zE), w + d = 8 → zlv lv 0 = some (.ref 177) → zlv lv 1 = some (xi (k : Nat)) → zlv lv 2 = some (xi (d : Nat)) → (∃ ax ay af : List Int, sMC f ax ay af ∧ ∀ e, e < d → sMP ax ay af ((e : Nat) : Int) (r e)) → (∀ q, q ≠ 192 → q ≠ 193 → q ≠ 194 → f q = f0 q) → xz v0 xs u Q 166 2 lv [] f := by
  have hB0 := hB
  obtain ⟨⟨h177, hfl, ⟨f11, f13, f14, f15, f17, f18⟩, h25, h26, h27⟩, ⟨a1, a2, a3, a4, a5, a6⟩, h9, h31, h30⟩ := hB
  intro w
  induction w with
  | zero =>
    intro d lv f hw l0 l1 l2 hrow hfr
    have e8 : d = 8 := by omega
    subst e8
    refine x_iload_n rfl l2 ?_
    refine x_bipush rfl (by decide) ?_
    refine x_cge (t := 30) rfl rfl (by decide) (by decide) (fun _ => ?_) (fun h => absurd h (by decide))
    exact hkk lv f l0 l1 hrow hfr
  | succ w ih =>
    intro d lv f hw l0 l1 l2 hrow hfr
    obtain ⟨ax, ay, af, hmc, hrow⟩ := hrow
    have hd : d < 8 := by omega
    obtain ⟨r1, r2⟩ := hr d hd
    have hB2 := sMB_f hB0 (f' := f) (hfr 177 (by decide) (by decide) (by decide))
    refine x_iload_n rfl l2 ?_
    refine x_bipush rfl (by decide) ?_
    refine x_cge (t := 30) rfl rfl ⟨by omega, by omega⟩ (by decide) (fun h => absurd h (by omega)) (fun _ => ?_)
    refine x_aload_n rfl l0 ?_
    refine x_iload_n rfl l2 ?_
    refine x_aload_n rfl l0 ?_
    refine x_getfield rfl (by decide) ((hfr 177 (by decide) (by decide) (by decide)).trans h177) h39 ?_
    refine x_bipush rfl (by decide) ?_
    refine x_iload_n rfl l1 ?_
    refine x_imul rfl ?_
    refine x_iload_n rfl l2 ?_
    refine x_iadd rfl ?_
    refine x_iaload rfl (by decide) ((hfr 201 (by decide) (by decide) (by decide)).trans h201) ⟨by omega, by omega⟩ (by omega) ?_
    rw [show (8 * ((k : Nat) : Int) + (d : Nat)).toNat = 8 * k + d by omega, r1]
    refine x_call [_, _, _] rfl rfl (show (0 : Nat) ≤ 8 from by decide) (show (3 : Nat) ≤ 3 from by decide) (x_rcv (by decide) ((hfr 177 (by decide) (by decide) (by decide)).trans h177)) (xs_133 hB2 hmc hd r2) ?_
    intro r' f1 hP
    obtain ⟨rfl, hmc1, hfr1⟩ := hP
    refine x_iinc rfl l2 (show (2 : Nat) < 5 from by decide) ?_
    refine x_goto (t := 2) rfl rfl ?_
    refine ih (d + 1) _ _ (by omega) (xst_ne (by decide) l0 (Or.inl rfl)) (xst_ne (by decide) l1 (Or.inl rfl)) xst_eq ⟨_, _, _, hmc1, sMP_set (n := 8) hmc.2.2.2 (by omega) hrow rfl rfl rfl⟩ (fun q b1 b2 b3 => (hfr1 q b1 b2 b3).trans (hfr q b1 b2 b3))
theorem xs_166b {v0 : Value} {xs : List Int32} {u : Nat × Nat} {f0 : Nat → zE} {fs : List Value} {ax ay af sl : List Int} {k Lc : Nat} (h177 : f0 177 = .inl (10, fs)) (h25 : fs[25]? = some (.ref 192)) (h26 : fs[26]? = some (.ref 193)) (h27 : fs[27]? = some (.ref 194)) (h39 : fs[39]? = some (.ref 201)) (hmc : sMC f0 ax ay af) (h201 : f0 201 = xr 0 sl) (hsl : sl.length = 40) (hk : k ≤ 3) (hL : Lc ≤ 16) : ∀ (w d : Nat) (lv : zL) (f : Nat → zE) (s2 : List Int), w + d = 8 → zlv lv 0 = some (.ref 177) → zlv lv 1 = some (xi (k : Nat)) → zlv lv 3 = some (xi (8 * (Lc : Nat))) → zlv lv 4 = some (xi (d : Nat)) → f 201 = xr 0 s2 → s2.length = 40 → (∀ i, i < 8 * k + 8 → s2.getD i 0 = sl.getD i 0) → (∀ e, e < d → s2.getD (8 * k + 8 + e) 0 = 4 * (10 * ay.getD (8 * (Lc : Nat) + (e : Nat) : Int).toNat 0 + ax.getD (8 * (Lc : Nat) + (e : Nat) : Int).toNat 0) + af.getD (8 * (Lc : Nat) + (e : Nat) : Int).toNat 0) → (∀ q, q ≠ 201 → f q = f0 q) → xz v0 xs u (fun o X => ∃ r' f', o = .inl r' ∧ X = (xh f', u) ∧ (fun r' f' => r' = some (xi 1) ∧ (∃ s2 : List Int, f' 201 = xr 0 s2 ∧ s2.length = 40 ∧ (∀ i, i < 8 * k + 8 → s2.getD i 0 = sl.getD i 0) ∧ ∀ e, e < 8 → s2.getD (8 * k + 8 + e) 0 = 4 * (10 * ay.getD (8 * (Lc : Nat) + (e : Nat) : Int).toNat 0 + ax.getD (8 * (Lc : Nat) + (e : Nat) : Int).toNat 0) + af.getD (8 * (Lc : Nat) + (e : Nat) : Int).toNat 0) ∧ ∀ q, q ≠ 201 → f' q = f0 q) r' f') 166 61 lv [] f := by
  obtain ⟨c1, c2, c3, y1, y2, y3⟩ := id hmc
  intro w
  induction w with
  | zero =>
    intro d lv f s2 hw l0 l1 l3 l4 g201 gl hold hnew hfr
    have e8 : d = 8 := by omega
    subst e8
    refine x_iload rfl l4 ?_
    refine x_bipush rfl (by decide) ?_
    refine x_cge (t := 123) rfl rfl (by decide) (by decide) (fun _ => ?_) (fun h => absurd h (by decide))
    refine x_iconst rfl ?_
    exact x_ireturn rfl (Or.inr (Or.inl ⟨rfl, by decide⟩)) ⟨_, _, rfl, rfl, rfl, ⟨s2, g201, gl, hold, hnew⟩, hfr⟩
  | succ w ih =>
    intro d lv f s2 hw l0 l1 l3 l4 g201 gl hold hnew hfr
    have hd : d < 8 := by omega
    refine x_iload rfl l4 ?_
    refine x_bipush rfl (by decide) ?_
    refine x_cge (t := 123) rfl rfl ⟨by omega, by omega⟩ (by decide) (fun h => absurd h (by omega)) (fun _ => ?_)
    refine x_aload_n rfl l0 ?_
    refine x_getfield rfl (by decide) ((hfr 177 (by decide)).trans h177) h39 ?_
    refine x_bipush rfl (by decide) ?_
    refine x_iload_n rfl l1 ?_
    refine x_imul rfl ?_
    refine x_bipush rfl (by decide) ?_
    refine x_iadd rfl ?_
    refine x_iload rfl l4 ?_
    refine x_iadd rfl ?_
    refine x_iconst rfl ?_
    refine x_bipush rfl (by decide) ?_
    refine x_aload_n rfl l0 ?_
    refine x_getfield rfl (by decide) ((hfr 177 (by decide)).trans h177) h26 ?_
    refine x_iload_n rfl l3 ?_
    refine x_iload rfl l4 ?_
    refine x_iadd rfl ?_
    refine x_iaload rfl (by decide) ((hfr 193 (by decide)).trans c2) ⟨by omega, by omega⟩ (by omega) ?_
    refine x_imul rfl ?_
    refine x_aload_n rfl l0 ?_
    refine x_getfield rfl (by decide) ((hfr 177 (by decide)).trans h177) h25 ?_
    refine x_iload_n rfl l3 ?_
    refine x_iload rfl l4 ?_
    refine x_iadd rfl ?_
    refine x_iaload rfl (by decide) ((hfr 192 (by decide)).trans c1) ⟨by omega, by omega⟩ (by omega) ?_
    refine x_iadd rfl ?_
    refine x_imul rfl ?_
    refine x_aload_n rfl l0 ?_
    refine x_getfield rfl (by decide) ((hfr 177 (by decide)).trans h177) h27 ?_
    refine x_iload_n rfl l3 ?_
    refine x_iload rfl l4 ?_
    refine x_iadd rfl ?_
    refine x_iaload rfl (by decide) ((hfr 194 (by decide)).trans c3) ⟨by omega, by omega⟩ (by omega) ?_
    refine x_iadd rfl ?_
    refine x_iastore rfl (by decide) g201 ⟨by omega, by omega⟩ (by omega) ?_
    refine x_iinc rfl l4 (show (4 : Nat) < 5 from by decide) ?_
    refine x_goto (t := 61) rfl rfl ?_
    rw [show (8 * ((k : Nat) : Int) + 8 + (d : Nat)).toNat = 8 * k + 8 + d by omega]
    refine ih (d + 1) _ _ _ (by omega) (xst_ne (by decide) l0 (Or.inl rfl)) (xst_ne (by decide) l1 (Or.inl rfl)) (xst_ne (by decide) l3 (Or.inl rfl)) xst_eq xu_eq (by rw [List.length_set]; exact gl) (fun i hi => ?_) (fun e he => ?_) (fun q b1 => xu_ne b1 (hfr q b1))
    · rw [x_gset, if_neg (by omega)]
      exact hold i hi
    · rw [x_gset]
      by_cases h2 : d = e
      · subst h2
        rw [if_pos ⟨rfl, by omega⟩]
      · rw [if_neg (by omega)]
        exact hnew e (by omega)
set_option maxRecDepth 20000 in
theorem xs_166 {v0 : Value} {xs : List Int32} {u : Nat × Nat} {f : Nat → zE} {fs : List Value} {ca dn cl : Int} {K : List (Int × Int)} {G : List xBt} {ax ay af tl sl : List Int} {k c : Nat} {r : Nat → Int} (hB : sMB f fs ca dn cl) (h38 : fs[38]? = some (.ref 200)) (h39 : fs[39]? = some (.ref 201)) (hmc : sMC f ax ay af) (hKM : sKM f K c G) (hG : sGok K G) (h200 : f 200 = xr 0 tl) (htl : tl.length = 5) (hk : k ≤ 3) (ht : tl.getD k 0 = (c : Nat)) (h201 : f 201 = xr 0 sl) (hsl : sl.length = 40) (hr : ∀ d, d < 8 → sl.getD (8 * k + d) 0 = r d ∧ sok (r d)) : xq v0 xs u 166 [(0, .ref 177), (1, xi (k : Nat))] f (fun r' f' => r' = some (xi (if sres (sbt K G) false r (sbt K G).length = 0 then 1 else 0)) ∧ (∃ fs' : List Value, sMO f' fs' ∧ ∀ j, j ≠ 28 → j ≠ 29 → fs'[j]? = fs[j]?) ∧ (∃ ax ay af : List Int, sMC f' ax ay af) ∧ (∃ s2 : List Int, f' 201 = xr 0 s2 ∧ s2.length = 40 ∧ (∀ i, i < 8 * k + 8 → s2.getD i 0 = sl.getD i 0) ∧ (sres (sbt K G) false r (sbt K G).length = 0 → ∀ d, d < 8 → s2.getD (8 * k + 8 + d) 0 = srow (sbt K G) false r (sbt K G).length d ∧ sok (srow (sbt K G) false r (sbt K G).length d))) ∧ ∀ q, q ≠ 177 → ¬ (192 ≤ q ∧ q ≤ 194) → q ≠ 201 → f' q = f q) := by
  unfold xq
  have hla := hG.1
  have hlA : (sbt K G).length ≤ 16 := by rw [sbt_len]; exact hla
  refine x_iconst rfl ?_
  refine x_istore_n rfl (show (2 : Nat) < 5 from by decide) ?_
  refine xs_166a hB h39 h201 hsl hk hr (fun lv f1 m0 m1 hrow hfr1 => ?_) 8 0 _ f rfl (xst_ne (by decide) rfl (Or.inl rfl)) (xst_ne (by decide) rfl (Or.inl rfl)) xst_eq ⟨ax, ay, af, hmc, fun e he => absurd he (Nat.not_lt_zero e)⟩ (fun _ _ _ _ => rfl)
  obtain ⟨ax1, ay1, af1, hmc1, hrow⟩ := hrow
  have hB1 := sMB_f hB (f' := f1) (hfr1 177 (by decide) (by decide) (by decide))
  have hmo1 : sMO f1 fs := hB1.1
  have hml1 : sML ax1 ay1 af1 0 r := sML_of hrow fun d hd => (hr d hd).2
  have hKM1 : sKM f1 K c G := sKM_f hKM fun q b1 b2 => hfr1 q (by omega) (by omega) (by omega)
  refine x_aload_n rfl m0 ?_
  refine x_getfield rfl (by decide) hmo1.1 h38 ?_
  refine x_iload_n rfl m1 ?_
  refine x_iaload rfl (by decide) ((hfr1 200 (by decide) (by decide) (by decide)).trans h200) ⟨by omega, by omega⟩ (by omega) ?_
  rw [Int.toNat_natCast, ht]
  refine x_istore_n rfl (show (2 : Nat) < 5 from by decide) ?_
  refine x_aload_n rfl (xst_ne (by decide) m0 (Or.inl rfl)) ?_
  refine x_iload_n rfl xst_eq ?_
  refine x_iconst rfl ?_
  refine x_call [_, _, _] rfl rfl (show (0 : Nat) ≤ 8 from by decide) (show (3 : Nat) ≤ 10 from by decide) (x_rcv (by decide) hmo1.1) (xs_122 (back := false) hKM1 hG hmo1 hmc1 hml1) (fun r' f2 hP => ?_)
  obtain ⟨rfl, ⟨fs2, hmo2, hfs2, -⟩, ⟨ax2, ay2, af2, hmc2, hml2⟩, hfr2⟩ := hP
  rw [show G.length = (sbt K G).length from (sbt_len K G).symm] at hml2 ⊢
  have h201' : f2 201 = xr 0 sl := (hfr2 201 (by decide) (by decide) (by decide) (by decide)).trans ((hfr1 201 (by decide) (by decide) (by decide)).trans h201)
  have hff : ∀ q, q ≠ 177 → ¬ (192 ≤ q ∧ q ≤ 194) → f2 q = f q := fun q b1 b2 => (hfr2 q b1 (by omega) (by omega) (by omega)).trans (hfr1 q (by omega) (by omega) (by omega))
  obtain ⟨i177, ifl, ⟨i11, -, -, -, -, -⟩, i25, i26, i27⟩ := id hmo2
  have i39 : fs2[39]? = some (.ref 201) := (hfs2 39 (by decide) (by decide)).trans h39
  by_cases hz : sres (sbt K G) false r (sbt K G).length = 0
  rotate_left
  · rw [if_neg hz]
    refine x_ifne (t := 48) rfl rfl (by decide) (fun h => absurd rfl h) (fun _ => ?_)
    refine x_iconst rfl ?_
    exact x_ireturn rfl (Or.inr (Or.inl ⟨rfl, by decide⟩)) ⟨_, _, rfl, rfl, rfl, ⟨fs2, hmo2, hfs2⟩, ⟨ax2, ay2, af2, hmc2⟩, ⟨sl, h201', hsl, fun _ _ => rfl, fun h => absurd h hz⟩, fun q b1 b2 b3 => hff q b1 b2⟩
  rw [if_pos hz]
  refine x_ifne (t := 48) rfl rfl (by decide) (fun _ => ?_) (fun h => absurd h (by decide))
  have hKM2 : sKM f2 K c G := sKM_f hKM fun q b1 b2 => hff q (by omega) (by omega)
  obtain ⟨hc12, cn, tk, pf, pq, se, at', k180, -, -, -, -, -, ⟨kl, -⟩, hcnt, -⟩ := hKM2
  rw [show G.length = (sbt K G).length from (sbt_len K G).symm] at hcnt
  refine x_bipush rfl (by decide) ?_
  refine x_aload_n rfl (xst_ne (by decide) m0 (Or.inl rfl)) ?_
  refine x_getfield rfl (by decide) i177 i11 ?_
  refine x_iload_n rfl xst_eq ?_
  refine x_iaload rfl (by decide) k180 ⟨by omega, by omega⟩ (by omega) ?_
  rw [Int.toNat_natCast, hcnt]
  refine x_imul rfl ?_
  refine x_istore_n rfl (show (3 : Nat) < 5 from by decide) ?_
  refine x_iconst rfl ?_
  refine x_istore rfl (show (4 : Nat) < 5 from by decide) ?_
  refine zwp_mono (xs_166b i177 i25 i26 i27 i39 hmc2 h201' hsl hk hlA 8 0 _ f2 sl rfl (xst_ne (by decide) (xst_ne (by decide) (xst_ne (by decide) m0 (Or.inl rfl)) (Or.inl rfl)) (Or.inl rfl)) (xst_ne (by decide) (xst_ne (by decide) (xst_ne (by decide) m1 (Or.inl rfl)) (Or.inl rfl)) (Or.inl rfl)) (xst_ne (by decide) xst_eq (Or.inl rfl)) xst_eq h201' hsl (fun _ _ => rfl) (fun e he => absurd he (Nat.not_lt_zero e)) (fun _ _ => rfl)) ?_
  rintro o X' ⟨r9, f9, e1, e2, e3, ⟨s2, g1, g2, g3, g4⟩, e5⟩
  refine ⟨r9, f9, e1, e2, e3, ⟨fs2, ⟨(e5 177 (by decide)).trans i177, hmo2.2⟩, hfs2⟩, ⟨ax2, ay2, af2, (e5 192 (by decide)).trans hmc2.1, (e5 193 (by decide)).trans hmc2.2.1, (e5 194 (by decide)).trans hmc2.2.2.1, hmc2.2.2.2⟩, ⟨s2, g1, g2, g3, fun _ d hd => ?_⟩, fun q b1 b2 b3 => (e5 q b3).trans (hff q b1 b2)⟩
  obtain ⟨⟨b1, b2, b3⟩, b4⟩ := (hml2 hz _ (Nat.le_refl _)).2.2 d hd
  refine ⟨?_, b4⟩
  rw [g4 d hd, b1, b2, b3]
  exact (s_eq _).symm
end
section
/-! The model's search. -/
def wMF (f : Nat → zE) (n : Nat) (S : sS) (fo : Int) : Prop := ∃ fs : List Value, sMB f fs (n : Nat) (S.2.1.length : Nat) S.2.2 ∧ fs[0]? = some (xi 0) ∧ fs[35]? = some (.ref 198) ∧ fs[36]? = some (xi fo) ∧ fs[37]? = some (.ref 199) ∧ fs[38]? = some (.ref 200) ∧ fs[39]? = some (.ref 201)
/-- at depth k, with the path p and the rows R -/
def wDI (f0 f : Nat → zE) (n : Nat) (S : sS) (k : Nat) (R : Nat → Nat → Int) (p : List Nat) (T : List Int → Prop) : Prop := wMF f n S (-1) ∧ (∃ ax ay af : List Int, sMC f ax ay af) ∧ (∃ tl : List Int, f 200 = xr 0 tl ∧ tl.length = 5 ∧ (∀ i, i < k → tl.getD i 0 = ((p.getD i 0 : Nat) : Int)) ∧ T tl) ∧ (∃ sl : List Int, f 201 = xr 0 sl ∧ sl.length = 40 ∧ ∀ i, i ≤ k → ∀ d, d < 8 → sl.getD (8 * i + d) 0 = R i d ∧ sok (R i d)) ∧ ∀ q, q ≠ 177 → ¬ (192 ≤ q ∧ q ≤ 194) → q ≠ 200 → q ≠ 201 → f q = f0 q
def wMS2 (f0 f : Nat → zE) (n : Nat) (S : sS) (many : Nat) (p : List Nat) : Prop := wMF f n S (-1) ∧ (∃ ax ay af : List Int, sMC f ax ay af) ∧ (∃ tl : List Int, f 200 = xr 0 tl ∧ tl.length = 5 ∧ ∀ i, i < many → tl.getD i 0 = ((p.getD i 0 : Nat) : Int)) ∧ (∃ sl : List Int, f 201 = xr 0 sl ∧ sl.length = 40) ∧ ∀ q, q ≠ 177 → ¬ (192 ≤ q ∧ q ≤ 194) → q ≠ 200 → q ≠ 201 → f q = f0 q
theorem wDI_200 {f0 f : Nat → zE} {n : Nat} {S : sS} {k k' : Nat} {R : Nat → Nat → Int} {p : List Nat} {T : List Int → Prop} {tl : List Int} {v : Int} (h : wDI f0 f n S k R p T) (hl : tl.length = 5) (hold : ∀ i, i < k → tl.getD i 0 = ((p.getD i 0 : Nat) : Int)) (hk : k ≤ k') (hk5 : k' < 5) : wDI f0 (xu f 200 (xr 0 (tl.set k' v))) n S k R p (fun tl => tl.getD k' 0 = v) := by
  obtain ⟨⟨fs, hB, g⟩, ⟨ax, ay, af, c1, c2, c3, c4⟩, -, ⟨sl, s1, s2⟩, hfr⟩ := h
  refine ⟨⟨fs, sMB_f hB (xu_ne (by decide) rfl), g⟩, ⟨ax, ay, af, xu_ne (by decide) c1, xu_ne (by decide) c2, xu_ne (by decide) c3, c4⟩, ⟨_, xu_eq, by rw [List.length_set]; exact hl, fun i hi => ?_, ?_⟩, ⟨sl, xu_ne (by decide) s1, s2⟩, fun q b1 b2 b3 b4 => xu_ne b3 (hfr q b1 b2 b3 b4)⟩
  · rw [x_gset, if_neg (by omega)]
    exact hold i hi
  · show (tl.set k' v).getD k' 0 = v
    rw [x_gset, if_pos ⟨rfl, by omega⟩]
/-- from(c) stands here -/
theorem wfrom {v0 : Value} {xs : List Int32} {u : Nat × Nat} {f0 f : Nat → zE} {n : Nat} {S : sS} {fo : Int} {al : Nat → Bool} {c : Nat} (hF : wMF f n S fo) (hn : n ≤ 12) (hA : sAD f0 al) (hfr : f 198 = f0 198) (hc : c ≤ 13) : xq v0 xs u 165 [(0, .ref 177), (1, xi (c : Nat))] f (fun r' f' => r' = some (xi (sfr al n (n - c))) ∧ f' = f) := by
  obtain ⟨fs, hB, -, h35, -⟩ := hF
  obtain ⟨bl, h198, hbl, hb⟩ := hA
  exact xs_165 hB.1.1 hB.2.2.1 h35 hn (hfr.trans h198) hbl hb hc
theorem xs_167x35 {v0 : Value} {xs : List Int32} {u : Nat × Nat} {Q : zO → zX → Prop} {f0 f : Nat → zE} {n : Nat} {S : sS} {al : Nat → Bool} {lv : zL} {tl : List Int} {k t : Nat} (hF : wMF f n S (-1)) (hn : n ≤ 12) (hA : sAD f0 al) (h198 : f 198 = f0 198) (h200 : f 200 = xr 0 tl) (htl : tl.length = 5) (hk : k < 5) (ht : tl.getD k 0 = (t : Nat)) (htn : t ≤ 12) (l0 : zlv lv 0 = some (.ref 177)) (l2 : zlv lv 2 = some (xi (k : Nat))) (kk : xz v0 xs u Q 167 13 lv [] (xu f 200 (xr 0 (tl.set k (sfr al n (n - (t + 1))))))) : xz v0 xs u Q 167 35 lv [] f := by
  obtain ⟨fs, hB, h0, h35, h36, h37, h38, h39⟩ := id hF
  have h177 := hB.1.1
  refine x_aload_n rfl l0 ?_
  refine x_getfield rfl (by decide) h177 h38 ?_
  refine x_iload_n rfl l2 ?_
  refine x_aload_n rfl l0 ?_
  refine x_aload_n rfl l0 ?_
  refine x_getfield rfl (by decide) h177 h38 ?_
  refine x_iload_n rfl l2 ?_
  refine x_iaload rfl (by decide) h200 ⟨by omega, by omega⟩ (by omega) ?_
  rw [Int.toNat_natCast, ht]
  refine x_iconst rfl ?_
  refine x_iadd rfl ?_
  rw [show ((t : Nat) : Int) + 1 = ((t + 1 : Nat) : Int) by omega]
  refine x_call [_, _] rfl rfl (show (2 : Nat) ≤ 8 from by decide) (show (2 : Nat) ≤ 4 from by decide) (x_rcv (by decide) h177) (wfrom (c := t + 1) hF hn hA h198 (by omega)) ?_
  intro r' f9 hP
  obtain ⟨rfl, hPe⟩ := hP
  subst f9
  refine x_iastore rfl (by decide) h200 ⟨by omega, by omega⟩ (by omega) ?_
  refine x_goto (t := 13) rfl rfl ?_
  rw [Int.toNat_natCast]
  exact kk
theorem xs_167x72 {v0 : Value} {xs : List Int32} {u : Nat × Nat} {Q : zO → zX → Prop} {f0 f : Nat → zE} {n : Nat} {S : sS} {al : Nat → Bool} {lv : zL} {tl : List Int} {k t : Nat} (hF : wMF f n S (-1)) (hn : n ≤ 12) (hA : sAD f0 al) (h198 : f 198 = f0 198) (h200 : f 200 = xr 0 tl) (htl : tl.length = 5) (hk : k < 5) (ht : tl.getD k 0 = (t : Nat)) (htn : t ≤ 12) (l0 : zlv lv 0 = some (.ref 177)) (l2 : zlv lv 2 = some (xi (k : Nat))) (kk : xz v0 xs u Q 167 13 lv [] (xu f 200 (xr 0 (tl.set k (sfr al n (n - (t + 1))))))) : xz v0 xs u Q 167 72 lv [] f := by
  obtain ⟨fs, hB, h0, h35, h36, h37, h38, h39⟩ := id hF
  have h177 := hB.1.1
  refine x_aload_n rfl l0 ?_
  refine x_getfield rfl (by decide) h177 h38 ?_
  refine x_iload_n rfl l2 ?_
  refine x_aload_n rfl l0 ?_
  refine x_aload_n rfl l0 ?_
  refine x_getfield rfl (by decide) h177 h38 ?_
  refine x_iload_n rfl l2 ?_
  refine x_iaload rfl (by decide) h200 ⟨by omega, by omega⟩ (by omega) ?_
  rw [Int.toNat_natCast, ht]
  refine x_iconst rfl ?_
  refine x_iadd rfl ?_
  rw [show ((t : Nat) : Int) + 1 = ((t + 1 : Nat) : Int) by omega]
  refine x_call [_, _] rfl rfl (show (2 : Nat) ≤ 8 from by decide) (show (2 : Nat) ≤ 4 from by decide) (x_rcv (by decide) h177) (wfrom (c := t + 1) hF hn hA h198 (by omega)) ?_
  intro r' f9 hP
  obtain ⟨rfl, hPe⟩ := hP
  subst f9
  refine x_iastore rfl (by decide) h200 ⟨by omega, by omega⟩ (by omega) ?_
  refine x_goto (t := 13) rfl rfl ?_
  rw [Int.toNat_natCast]
  exact kk
theorem xs_167x127 {v0 : Value} {xs : List Int32} {u : Nat × Nat} {Q : zO → zX → Prop} {f0 f : Nat → zE} {n : Nat} {S : sS} {al : Nat → Bool} {lv : zL} {tl : List Int} {k t : Nat} (hF : wMF f n S (-1)) (hn : n ≤ 12) (hA : sAD f0 al) (h198 : f 198 = f0 198) (h200 : f 200 = xr 0 tl) (htl : tl.length = 5) (hk : k < 5) (ht : tl.getD k 0 = (t : Nat)) (htn : t ≤ 12) (l0 : zlv lv 0 = some (.ref 177)) (l2 : zlv lv 2 = some (xi (k : Nat))) (kk : xz v0 xs u Q 167 13 lv [] (xu f 200 (xr 0 (tl.set k (sfr al n (n - (t + 1))))))) : xz v0 xs u Q 167 127 lv [] f := by
  obtain ⟨fs, hB, h0, h35, h36, h37, h38, h39⟩ := id hF
  have h177 := hB.1.1
  refine x_aload_n rfl l0 ?_
  refine x_getfield rfl (by decide) h177 h38 ?_
  refine x_iload_n rfl l2 ?_
  refine x_aload_n rfl l0 ?_
  refine x_aload_n rfl l0 ?_
  refine x_getfield rfl (by decide) h177 h38 ?_
  refine x_iload_n rfl l2 ?_
  refine x_iaload rfl (by decide) h200 ⟨by omega, by omega⟩ (by omega) ?_
  rw [Int.toNat_natCast, ht]
  refine x_iconst rfl ?_
  refine x_iadd rfl ?_
  rw [show ((t : Nat) : Int) + 1 = ((t + 1 : Nat) : Int) by omega]
  refine x_call [_, _] rfl rfl (show (2 : Nat) ≤ 8 from by decide) (show (2 : Nat) ≤ 4 from by decide) (x_rcv (by decide) h177) (wfrom (c := t + 1) hF hn hA h198 (by omega)) ?_
  intro r' f9 hP
  obtain ⟨rfl, hPe⟩ := hP
  subst f9
  refine x_iastore rfl (by decide) h200 ⟨by omega, by omega⟩ (by omega) ?_
  refine x_goto (t := 13) rfl rfl ?_
  rw [Int.toNat_natCast]
  exact kk
theorem wDI_down {f0 f : Nat → zE} {n : Nat} {S : sS} {k : Nat} {R : Nat → Nat → Int} {p : List Nat} {T : List Int → Prop} (h : wDI f0 f n S (k + 1) R p T) : wDI f0 f n S k R (p.take k) (fun _ => True) := by
  obtain ⟨h1, h2, ⟨tl, t1, t2, t3, -⟩, ⟨sl, s1, s2, s3⟩, hfr⟩ := h
  refine ⟨h1, h2, ⟨tl, t1, t2, fun i hi => ?_, trivial⟩, ⟨sl, s1, s2, fun i hi => s3 i (by omega)⟩, hfr⟩
  rw [t3 i (by omega), List.getD_eq_getElem?_getD, List.getD_eq_getElem?_getD, List.getElem?_take, if_pos hi]
theorem wDI_R {f0 f : Nat → zE} {n : Nat} {S : sS} {k : Nat} {R R' : Nat → Nat → Int} {p : List Nat} {T : List Int → Prop} (h : wDI f0 f n S k R p T) (e : ∀ i, i ≤ k → R' i = R i) : wDI f0 f n S k R' p T := by
  obtain ⟨h1, h2, h3, ⟨sl, s1, s2, s3⟩, hfr⟩ := h
  exact ⟨h1, h2, h3, ⟨sl, s1, s2, fun i hi => by rw [e i hi]; exact s3 i hi⟩, hfr⟩
theorem takeN_app {p : List Nat} {t k : Nat} (h : p.length = k) : (p ++ [t]).take k = p := by
  rw [← h]
  exact List.take_left
/-- a depth, with what is done at the depth below -/
theorem xs_167j {v0 : Value} {xs : List Int32} {u : Nat × Nat} {Q : zO → zX → Prop} {f0 : Nat → zE} {K : List (Int × Int)} {G : Nat → List xBt} {n : Nat} {S : sS} {al : Nat → Bool} {many m k : Nat} {p : List Nat} {R : Nat → Nat → Int} (hK : ∀ c, c < n → sKM f0 K c (G c)) (hG : ∀ c, c < n → sGok K (G c)) (hA : sAD f0 al) (hn : n ≤ 12) (hmany : 1 ≤ many ∧ many ≤ 4) (hkm : k + m + 1 = many) (hp : p.length = k) (hpn : ∀ c ∈ p, c < n)
    (hch : ∀ (t : Nat) (R' : Nat → Nat → Int) (lv2 : zL) (f2 : Nat → zE), t < n → (∀ i, i ≤ k → R' i = R i) → zlv lv2 0 = some (.ref 177) → zlv lv2 1 = some (xi (many : Nat)) → zlv lv2 2 = some (xi ((k + 1 : Nat) : Int)) → wDI f0 f2 n S (k + 1) R' (p ++ [t]) (fun tl => k + 1 < many → tl.getD (k + 1) 0 = sfr al n n) → (∀ (y : sNd) (f3 : Nat → zE), (wext (fun c => sbt K (G c)) al n m (p ++ [t], R' (k + 1))).find? whm = some y → wMS2 f0 f3 n S many y.1 → Q (.inl (some (xi 1))) (xh f3, u)) → ((wext (fun c => sbt K (G c)) al n m (p ++ [t], R' (k + 1))).find? whm = none → ∀ (lv3 : zL) (f3 : Nat → zE), zlv lv3 0 = some (.ref 177) → zlv lv3 1 = some (xi (many : Nat)) → zlv lv3 2 = some (xi (k : Nat)) → wDI f0 f3 n S k R' p (fun tl => tl.getD k 0 = sfr al n (n - (t + 1))) → xz v0 xs u Q 167 13 lv3 [] f3) → xz v0 xs u Q 167 13 lv2 [] f2) :
    ∀ (j : Nat) (lv : zL) (f : Nat → zE), j ≤ n → zlv lv 0 = some (.ref 177) → zlv lv 1 = some (xi (many : Nat)) → zlv lv 2 = some (xi (k : Nat)) → wDI f0 f n S k R p (fun tl => tl.getD k 0 = sfr al n j) →
    (∀ (y : sNd) (f2 : Nat → zE), ((wkF (fun c => sbt K (G c)) al n (p, R k) j).flatMap (wext (fun c => sbt K (G c)) al n m)).find? whm = some y → wMS2 f0 f2 n S many y.1 → Q (.inl (some (xi 1))) (xh f2, u)) →
    (((wkF (fun c => sbt K (G c)) al n (p, R k) j).flatMap (wext (fun c => sbt K (G c)) al n m)).find? whm = none → ∀ (lv2 : zL) (f2 : Nat → zE), zlv lv2 0 = some (.ref 177) → zlv lv2 1 = some (xi (many : Nat)) → zlv lv2 2 = some (xi ((k : Nat) - 1)) → (k = 0 → wDI f0 f2 n S 0 R [] (fun _ => True)) → (∀ k', k = k' + 1 → wDI f0 f2 n S k' R (p.take k') (fun tl => tl.getD k' 0 = sfr al n (n - (p.getD k' 0 + 1)))) → xz v0 xs u Q 167 13 lv2 [] f2) → xz v0 xs u Q 167 13 lv [] f := by
  intro j
  induction j with
  | zero =>
    intro lv f hj l0 l1 l2 hI kf kn
    obtain ⟨hF, hC, ⟨tl, g200, gl, gv, gt⟩, hS, hfr⟩ := id hI
    obtain ⟨fs, hB, h0, h35, h36, h37, h38, h39⟩ := id hF
    refine x_iload_n rfl l2 ?_
    refine x_iflt (t := 148) rfl rfl ⟨by omega, by omega⟩ (fun h => by omega) (fun _ => ?_)
    refine x_iload_n rfl l2 ?_
    refine x_iload_n rfl l1 ?_
    refine x_cne (t := 56) rfl rfl ⟨by omega, by omega⟩ ⟨by omega, by omega⟩ (fun _ => ?_) (fun h => by omega)
    refine x_aload_n rfl l0 ?_
    refine x_getfield rfl (by decide) hB.1.1 h38 ?_
    refine x_iload_n rfl l2 ?_
    refine x_iaload rfl (by decide) g200 ⟨by omega, by omega⟩ (by omega) ?_
    rw [Int.toNat_natCast, gt, show sfr al n 0 = -1 from rfl]
    refine x_ifge (t := 93) rfl rfl (by decide) (fun h => absurd h (by decide)) (fun _ => ?_)
    refine x_iinc rfl l2 (show (2 : Nat) < 3 from by decide) ?_
    have hno : ((wkF (fun c => sbt K (G c)) al n (p, R k) 0).flatMap (wext (fun c => sbt K (G c)) al n m)).find? whm = none := rfl
    cases k with
    | zero =>
      refine x_iload_n rfl xst_eq ?_
      refine x_iflt (t := 13) rfl rfl (by decide) (fun _ => ?_) (fun h => absurd h (by decide))
      have hp0 : p = [] := List.length_eq_zero_iff.mp hp
      subst hp0
      exact kn hno _ f (xst_ne (by decide) l0 (Or.inl rfl)) (xst_ne (by decide) l1 (Or.inl rfl)) xst_eq (fun _ => ⟨hF, hC, ⟨tl, g200, gl, gv, trivial⟩, hS, hfr⟩) (fun k' h => by omega)
    | succ k1 =>
      have ek : (((k1 + 1 : Nat) : Int) + -1) = ((k1 : Nat) : Int) := by omega
      rw [ek]
      have hpk : p.getD k1 0 < n := by
        rw [List.getD_eq_getElem?_getD, List.getElem?_eq_getElem (show k1 < p.length by omega)]
        exact hpn _ (List.getElem_mem _)
      refine x_iload_n rfl xst_eq ?_
      refine x_iflt (t := 13) rfl rfl ⟨by omega, by omega⟩ (fun h => by omega) (fun _ => ?_)
      refine xs_167x72 hF hn hA (hfr 198 (by decide) (by decide) (by decide) (by decide)) g200 gl (k := k1) (t := p.getD k1 0) (by omega) (gv k1 (by omega)) (by omega) (xst_ne (by decide) l0 (Or.inl rfl)) xst_eq ?_
      refine kn hno _ _ (xst_ne (by decide) l0 (Or.inl rfl)) (xst_ne (by decide) l1 (Or.inl rfl)) (by rw [show (((k1 + 1 : Nat) : Int) - 1) = ((k1 : Nat) : Int) by omega]; exact xst_eq) (fun h => by omega) (fun k' h => ?_)
      have ek1 : k' = k1 := by omega
      subst ek1
      refine wDI_200 (wDI_down hI) gl (fun i hi => ?_) (Nat.le_refl _) (by omega)
      rw [gv i (by omega), List.getD_eq_getElem?_getD, List.getD_eq_getElem?_getD, List.getElem?_take, if_pos hi]
  | succ j ih =>
    intro lv f hj l0 l1 l2 hI kf kn
    have eF : wkF (fun c => sbt K (G c)) al n (p, R k) (j + 1) = wk1 (fun c => sbt K (G c)) al (p, R k) (n - 1 - j) ++ wkF (fun c => sbt K (G c)) al n (p, R k) j := rfl
    by_cases ha : al (n - 1 - j) = true
    rotate_left
    · have e1 : wk1 (fun c => sbt K (G c)) al (p, R k) (n - 1 - j) = [] := by
        unfold wk1
        rw [if_neg (fun h => ha h.1)]
      rw [eF, e1, List.nil_append] at kf kn
      rw [show sfr al n (j + 1) = sfr al n j from if_neg ha] at hI
      exact ih lv f (by omega) l0 l1 l2 hI kf kn
    generalize ht0 : n - 1 - j = t at ha eF
    have htn : t < n := by omega
    rw [show sfr al n (j + 1) = ((n - 1 - j : Nat) : Int) from if_pos (by rw [ht0]; exact ha), ht0] at hI
    obtain ⟨hF, ⟨ax, ay, af, hmc⟩, ⟨tl, g200, gl, gv, gt⟩, ⟨sl, s1, s2, s3⟩, hfr⟩ := id hI
    obtain ⟨fs, hB, h0, h35, h36, h37, h38, h39⟩ := id hF
    have hKM : sKM f K t (G t) := sKM_f (hK t htn) fun q b1 b2 => hfr q (by omega) (by omega) (by omega) (by omega)
    refine x_iload_n rfl l2 ?_
    refine x_iflt (t := 148) rfl rfl ⟨by omega, by omega⟩ (fun h => by omega) (fun _ => ?_)
    refine x_iload_n rfl l2 ?_
    refine x_iload_n rfl l1 ?_
    refine x_cne (t := 56) rfl rfl ⟨by omega, by omega⟩ ⟨by omega, by omega⟩ (fun _ => ?_) (fun h => by omega)
    refine x_aload_n rfl l0 ?_
    refine x_getfield rfl (by decide) hB.1.1 h38 ?_
    refine x_iload_n rfl l2 ?_
    refine x_iaload rfl (by decide) g200 ⟨by omega, by omega⟩ (by omega) ?_
    rw [Int.toNat_natCast, gt]
    refine x_ifge (t := 93) rfl rfl ⟨by omega, by omega⟩ (fun _ => ?_) (fun h => by omega)
    refine x_aload_n rfl l0 ?_
    refine x_iload_n rfl l2 ?_
    refine x_call [_, _] rfl rfl (show (0 : Nat) ≤ 8 from by decide) (show (2 : Nat) ≤ 5 from by decide) (x_rcv (by decide) hB.1.1) (xs_166 (k := k) (c := t) (r := R k) hB h38 h39 hmc hKM (hG t htn) g200 gl (by omega) gt s1 s2 (s3 k (Nat.le_refl _))) (fun r' f1 hP => ?_)
    obtain ⟨rfl, ⟨fs1, hmo1, hfs1⟩, hC1, ⟨sl1, v1, v2, v3, v4⟩, hfr1⟩ := hP
    have hB1 : sMB f1 fs1 (n : Nat) (S.2.1.length : Nat) S.2.2 := sMB_k hB hmo1 hfs1
    have hF1 : wMF f1 n S (-1) := ⟨fs1, hB1, (hfs1 0 (by decide) (by decide)).trans h0, (hfs1 35 (by decide) (by decide)).trans h35, (hfs1 36 (by decide) (by decide)).trans h36, (hfs1 37 (by decide) (by decide)).trans h37, (hfs1 38 (by decide) (by decide)).trans h38, (hfs1 39 (by decide) (by decide)).trans h39⟩
    have hff1 : ∀ q, q ≠ 177 → ¬ (192 ≤ q ∧ q ≤ 194) → q ≠ 200 → q ≠ 201 → f1 q = f0 q := fun q b1 b2 b3 b4 => (hfr1 q b1 b2 b4).trans (hfr q b1 b2 b3 b4)
    have g1 : f1 200 = xr 0 tl := (hfr1 200 (by decide) (by decide) (by decide)).trans g200
    have hI1 : ∀ R' : Nat → Nat → Int, (∀ i, i ≤ k → R' i = R i) → wDI f0 f1 n S k R' p (fun _ => True) := fun R' hR => ⟨hF1, hC1, ⟨tl, g1, gl, gv, trivial⟩, ⟨sl1, v1, v2, fun i hi d hd => by rw [v3 (8 * i + d) (by omega), hR i hi]; exact s3 i hi d hd⟩, hff1⟩
    by_cases hz : sres (sbt K (G t)) false (R k) (sbt K (G t)).length = 0
    rotate_left
    · rw [if_neg hz]
      refine x_ifeq (t := 127) rfl rfl (by decide) (fun _ => ?_) (fun h => absurd rfl h)
      have e1 : wk1 (fun c => sbt K (G c)) al (p, R k) t = [] := by
        unfold wk1
        rw [if_neg (fun h => hz h.2)]
      rw [eF, e1, List.nil_append] at kf kn
      refine xs_167x127 hF1 hn hA (hff1 198 (by decide) (by decide) (by decide) (by decide)) g1 gl (k := k) (t := t) (by omega) gt (by omega) l0 l2 ?_
      rw [show n - (t + 1) = j by omega]
      exact ih lv _ (by omega) l0 l1 l2 (wDI_200 (hI1 R fun _ _ => rfl) gl gv (Nat.le_refl _) (by omega)) kf kn
    rw [if_pos hz]
    refine x_ifeq (t := 127) rfl rfl (by decide) (fun h => absurd h (by decide)) (fun _ => ?_)
    have e1 : wk1 (fun c => sbt K (G c)) al (p, R k) t = [(p ++ [t], srow (sbt K (G t)) false (R k) (sbt K (G t)).length)] := by
      unfold wk1
      rw [if_pos ⟨ha, hz⟩]
    refine x_iinc rfl l2 (show (2 : Nat) < 3 from by decide) ?_
    have q0 := xst_ne (k := 2) (v := xi (((k : Nat) : Int) + 1)) (by decide) l0 (Or.inl rfl)
    have q1 := xst_ne (k := 2) (v := xi (((k : Nat) : Int) + 1)) (by decide) l1 (Or.inl rfl)
    have q2 : zlv (xst 2 (xi (((k : Nat) : Int) + 1)) lv) 2 = some (xi ((k + 1 : Nat) : Int)) := xst_eq
    generalize xst 2 (xi (((k : Nat) : Int) + 1)) lv = lv4 at q0 q1 q2 ⊢
    obtain ⟨R', hR1, hR2⟩ : ∃ R' : Nat → Nat → Int, (∀ i, i ≤ k → R' i = R i) ∧ R' (k + 1) = srow (sbt K (G t)) false (R k) (sbt K (G t)).length := ⟨fun i => if i = k + 1 then srow (sbt K (G t)) false (R k) (sbt K (G t)).length else R i, fun i hi => if_neg (by omega), if_pos rfl⟩
    have hD : ∀ v : Int, (k + 1 < many → v = sfr al n n) → wDI f0 (xu f1 200 (xr 0 (tl.set (k + 1) v))) n S (k + 1) R' (p ++ [t]) (fun tl => k + 1 < many → tl.getD (k + 1) 0 = sfr al n n) := by
      intro v hv
      obtain ⟨-, ⟨ax9, ay9, af9, c1, c2, c3, c4⟩, -⟩ := hI1 R fun _ _ => rfl
      refine ⟨?_, ⟨ax9, ay9, af9, xu_ne (by decide) c1, xu_ne (by decide) c2, xu_ne (by decide) c3, c4⟩, ⟨_, xu_eq, by rw [List.length_set]; exact gl, fun i hi => ?_, fun hm => by rw [x_gset, if_pos ⟨rfl, by omega⟩]; exact hv hm⟩, ⟨sl1, xu_ne (by decide) v1, v2, fun i hi d hd => ?_⟩, fun q b1 b2 b3 b4 => xu_ne b3 (hff1 q b1 b2 b3 b4)⟩
      · obtain ⟨fs9, hB9, g9⟩ := hF1
        exact ⟨fs9, sMB_f hB9 (xu_ne (by decide) rfl), g9⟩
      · rw [x_gset, if_neg (by omega)]
        by_cases hik : i = k
        · subst hik
          rw [gt, List.getD_eq_getElem?_getD, List.getElem?_append_right (by omega), hp, Nat.sub_self]
          rfl
        · rw [gv i (by omega), List.getD_eq_getElem?_getD, List.getD_eq_getElem?_getD, List.getElem?_append_left (by omega)]
      · by_cases hik : i = k + 1
        · subst hik
          rw [hR2, show 8 * (k + 1) + d = 8 * k + 8 + d by omega]
          exact v4 hz d hd
        · rw [v3 (8 * i + d) (by omega), hR1 i (by omega)]
          exact s3 i (by omega) d hd
    refine x_aload_n rfl q0 ?_
    refine x_getfield rfl (by decide) hB1.1.1 ((hfs1 38 (by decide) (by decide)).trans h38) ?_
    refine x_iload_n rfl q2 ?_
    obtain ⟨v, hv1, hv⟩ : ∃ v : Int, v = (if k + 1 < many then sfr al n n else 0) ∧ (k + 1 < many → v = sfr al n n) := ⟨_, rfl, fun h => if_pos h⟩
    refine x_dia v 123 (fun kk => ?_) ?_
    · refine x_iload_n rfl q2 ?_
      refine x_iload_n rfl q1 ?_
      refine x_cge (t := 122) rfl rfl ⟨by omega, by omega⟩ ⟨by omega, by omega⟩ (fun h => ?_) (fun h => ?_)
      · refine x_iconst rfl ?_
        rw [hv1, if_neg (by omega)] at kk
        exact kk
      · refine x_aload_n rfl q0 ?_
        refine x_iconst rfl ?_
        refine x_call [_, _] rfl rfl (show (2 : Nat) ≤ 8 from by decide) (show (2 : Nat) ≤ 4 from by decide) (x_rcv (by decide) hB1.1.1) (wfrom (c := 0) hF1 hn hA (hff1 198 (by decide) (by decide) (by decide) (by decide)) (by decide)) (fun r' f' hP => ?_)
        obtain ⟨rfl, hPe⟩ := hP
        subst f'
        refine x_goto (t := 123) rfl rfl ?_
        rw [hv1, if_pos (by omega)] at kk
        exact kk
    refine x_iastore rfl (by decide) g1 ⟨by omega, by omega⟩ (by omega) ?_
    rw [Int.toNat_natCast]
    refine x_goto (t := 13) rfl rfl ?_
    rw [eF, e1, flatMap_app', flatMap_cons', flatMap_nil', List.append_nil, ← hR2] at kf kn
    refine hch t R' lv4 _ htn hR1 q0 q1 q2 (hD v hv) (fun y f3 hy h3 => kf y f3 (find_app_some _ _ hy) h3) (fun hno lv3 f3 o0 o1 o2 hI3 => ?_)
    rw [show n - (t + 1) = j by omega] at hI3
    rw [find_app _ _ hno] at kn
    refine ih lv3 f3 (by omega) o0 o1 o2 (wDI_R hI3 fun i hi => (hR1 i hi).symm) (fun y f4 hy h4 => kf y f4 ?_ h4) kn
    rw [find_app _ _ hno]
    exact hy
theorem xs_167m {v0 : Value} {xs : List Int32} {u : Nat × Nat} {Q : zO → zX → Prop} {f0 : Nat → zE} {K : List (Int × Int)} {G : Nat → List xBt} {n : Nat} {S : sS} {al : Nat → Bool} {many : Nat} (hK : ∀ c, c < n → sKM f0 K c (G c)) (hG : ∀ c, c < n → sGok K (G c)) (hA : sAD f0 al) (hn : n ≤ 12) (hmany : 1 ≤ many ∧ many ≤ 4) : ∀ (m k : Nat) (p : List Nat) (R : Nat → Nat → Int), k + m + 1 = many → p.length = k → (∀ c ∈ p, c < n) → ∀ (j : Nat) (lv : zL) (f : Nat → zE), j ≤ n → zlv lv 0 = some (.ref 177) → zlv lv 1 = some (xi (many : Nat)) → zlv lv 2 = some (xi (k : Nat)) → wDI f0 f n S k R p (fun tl => tl.getD k 0 = sfr al n j) →
    (∀ (y : sNd) (f2 : Nat → zE), ((wkF (fun c => sbt K (G c)) al n (p, R k) j).flatMap (wext (fun c => sbt K (G c)) al n m)).find? whm = some y → wMS2 f0 f2 n S many y.1 → Q (.inl (some (xi 1))) (xh f2, u)) →
    (((wkF (fun c => sbt K (G c)) al n (p, R k) j).flatMap (wext (fun c => sbt K (G c)) al n m)).find? whm = none → ∀ (lv2 : zL) (f2 : Nat → zE), zlv lv2 0 = some (.ref 177) → zlv lv2 1 = some (xi (many : Nat)) → zlv lv2 2 = some (xi ((k : Nat) - 1)) → (k = 0 → wDI f0 f2 n S 0 R [] (fun _ => True)) → (∀ k', k = k' + 1 → wDI f0 f2 n S k' R (p.take k') (fun tl => tl.getD k' 0 = sfr al n (n - (p.getD k' 0 + 1)))) → xz v0 xs u Q 167 13 lv2 [] f2) → xz v0 xs u Q 167 13 lv [] f := by
  intro m
  induction m with
  | zero =>
    intro k p R hkm hp hpn
    refine xs_167j hK hG hA hn hmany hkm hp hpn (fun t R' lv2 f2 htn hR l0 l1 l2 hI kf kn => ?_)
    obtain ⟨hF, hC, ⟨tl, g200, gl, gv, -⟩, ⟨sl, s1, s2, s3⟩, hfr⟩ := id hI
    obtain ⟨fs, hB, h0, h35, h36, h37, h38, h39⟩ := id hF
    refine x_iload_n rfl l2 ?_
    refine x_iflt (t := 148) rfl rfl ⟨by omega, by omega⟩ (fun h => by omega) (fun _ => ?_)
    refine x_iload_n rfl l2 ?_
    refine x_iload_n rfl l1 ?_
    refine x_cne (t := 56) rfl rfl ⟨by omega, by omega⟩ ⟨by omega, by omega⟩ (fun h => by omega) (fun _ => ?_)
    refine x_aload_n rfl l0 ?_
    refine x_iload_n rfl l2 ?_
    refine x_call [_, _] rfl rfl (show (0 : Nat) ≤ 8 from by decide) (show (2 : Nat) ≤ 4 from by decide) (x_rcv (by decide) hB.1.1) (xs_164 (k := k + 1) (r := R' (k + 1)) hB.1.1 h39 s1 s2 (by omega) (s3 (k + 1) (Nat.le_refl _))) (fun r' f' hP => ?_)
    obtain ⟨rfl, hPe⟩ := hP
    subst f'
    have hwh : whm (p ++ [t], R' (k + 1)) = sall (fun d => R' (k + 1) d == shome d) 8 := rfl
    rw [← hwh]
    by_cases hh : whm (p ++ [t], R' (k + 1)) = true
    · rw [if_pos hh]
      refine x_ifeq (t := 32) rfl rfl (by decide) (fun h => absurd h (by decide)) (fun _ => ?_)
      refine x_iconst rfl ?_
      refine x_ireturn rfl (Or.inr (Or.inl ⟨rfl, by decide⟩)) (kf (p ++ [t], R' (k + 1)) f2 ?_ ⟨hF, hC, ⟨tl, g200, gl, fun i hi => gv i (by omega)⟩, ⟨sl, s1, s2⟩, hfr⟩)
      show List.find? whm [(p ++ [t], R' (k + 1))] = _
      rw [List.find?_cons, hh]
    · rw [if_neg hh]
      refine x_ifeq (t := 32) rfl rfl (by decide) (fun _ => ?_) (fun h => absurd rfl h)
      have hno : (wext (fun c => sbt K (G c)) al n 0 (p ++ [t], R' (k + 1))).find? whm = none := by
        show List.find? whm [(p ++ [t], R' (k + 1))] = _
        rw [List.find?_cons, bool_f hh]
        rfl
      refine x_iinc rfl l2 (show (2 : Nat) < 3 from by decide) ?_
      have q2 : zlv (xst 2 (xi (((k + 1 : Nat) : Int) + -1)) lv2) 2 = some (xi (k : Nat)) := by
        rw [show ((k + 1 : Nat) : Int) + -1 = ((k : Nat) : Int) by omega]
        exact xst_eq
      have gtk : tl.getD k 0 = ((t : Nat) : Int) := by
        rw [gv k (by omega), List.getD_eq_getElem?_getD, List.getElem?_append_right (by omega), hp, Nat.sub_self]
        rfl
      refine xs_167x35 hF hn hA (hfr 198 (by decide) (by decide) (by decide) (by decide)) g200 gl (k := k) (t := t) (by omega) gtk (by omega) (xst_ne (by decide) l0 (Or.inl rfl)) q2 ?_
      have hd := wDI_down hI
      rw [takeN_app hp] at hd
      refine kn hno _ _ (xst_ne (by decide) l0 (Or.inl rfl)) (xst_ne (by decide) l1 (Or.inl rfl)) q2 (wDI_200 hd gl (fun i hi => ?_) (Nat.le_refl _) (by omega))
      rw [gv i (by omega), List.getD_eq_getElem?_getD, List.getD_eq_getElem?_getD, List.getElem?_append_left (by omega)]
  | succ m ihm =>
    intro k p R hkm hp hpn
    refine xs_167j hK hG hA hn hmany hkm hp hpn (fun t R' lv2 f2 htn hR l0 l1 l2 hI kf kn => ?_)
    have hI2 : wDI f0 f2 n S (k + 1) R' (p ++ [t]) (fun tl => tl.getD (k + 1) 0 = sfr al n n) := by
      obtain ⟨hF, hC, ⟨tl, g200, gl, gv, gt⟩, hS, hfr⟩ := hI
      exact ⟨hF, hC, ⟨tl, g200, gl, gv, gt (by omega)⟩, hS, hfr⟩
    have hpl : (p ++ [t]).length = k + 1 := by rw [List.length_append, List.length_singleton, hp]
    have eE : (wkF (fun c => sbt K (G c)) al n (p ++ [t], R' (k + 1)) n).flatMap (wext (fun c => sbt K (G c)) al n m) = wext (fun c => sbt K (G c)) al n (m + 1) (p ++ [t], R' (k + 1)) := by
      rw [wkF_all]
      rfl
    refine ihm (k + 1) (p ++ [t]) R' (by omega) hpl (fun c hc => ?_) n lv2 f2 (Nat.le_refl n) l0 l1 l2 hI2 (fun y f3 hy h3 => kf y f3 (by rw [← eE]; exact hy) h3) (fun hno lv3 f3 o0 o1 o2 _ o4 => ?_)
    · rcases List.mem_append.mp hc with h1 | h1
      · exact hpn c h1
      · rw [List.mem_singleton.mp h1]
        exact htn
    · have h4 := o4 k rfl
      rw [takeN_app hp, List.getD_eq_getElem?_getD, List.getElem?_append_right (by omega), hp, Nat.sub_self] at h4
      rw [eE] at hno
      refine kn hno lv3 f3 o0 o1 ?_ h4
      rw [show ((k + 1 : Nat) : Int) - 1 = ((k : Nat) : Int) by omega] at o2
      exact o2
/-- what the model's search comes to -/
theorem xs_167 {v0 : Value} {xs : List Int32} {u : Nat × Nat} {f0 f : Nat → zE} {K : List (Int × Int)} {G : Nat → List xBt} {n : Nat} {S : sS} {al : Nat → Bool} {many : Nat} {R : Nat → Nat → Int} (hK : ∀ c, c < n → sKM f0 K c (G c)) (hG : ∀ c, c < n → sGok K (G c)) (hA : sAD f0 al) (hn : n ≤ 12) (hmany : 1 ≤ many ∧ many ≤ 4) (hI : wDI f0 f n S 0 R [] (fun _ => True)) : xq v0 xs u 167 [(0, .ref 177), (1, xi (many : Nat))] f (fun r' f' => (∃ y : sNd, wfd (fun c => sbt K (G c)) al n (R 0) many = some y ∧ r' = some (xi 1) ∧ wMS2 f0 f' n S many y.1) ∨ (wfd (fun c => sbt K (G c)) al n (R 0) many = none ∧ r' = some (xi 0) ∧ wDI f0 f' n S 0 R [] (fun _ => True))) := by
  unfold xq
  obtain ⟨hF, hC, ⟨tl, g200, gl, gv, -⟩, hS, hfr⟩ := id hI
  obtain ⟨fs, hB, h0, h35, h36, h37, h38, h39⟩ := id hF
  obtain ⟨m, rfl⟩ : ∃ m, many = m + 1 := ⟨many - 1, by omega⟩
  refine x_iconst rfl ?_
  refine x_istore_n rfl (show (2 : Nat) < 3 from by decide) ?_
  refine x_aload_n rfl (xst_ne (by decide) rfl (Or.inl rfl)) ?_
  refine x_getfield rfl (by decide) hB.1.1 h38 ?_
  refine x_iconst rfl ?_
  refine x_aload_n rfl (xst_ne (by decide) rfl (Or.inl rfl)) ?_
  refine x_iconst rfl ?_
  refine x_call [_, _] rfl rfl (show (2 : Nat) ≤ 8 from by decide) (show (2 : Nat) ≤ 4 from by decide) (x_rcv (by decide) hB.1.1) (wfrom (c := 0) hF hn hA (hfr 198 (by decide) (by decide) (by decide) (by decide)) (by decide)) (fun r' f' hP => ?_)
  obtain ⟨rfl, hPe⟩ := hP
  subst f'
  refine x_iastore rfl (by decide) g200 ⟨by omega, by omega⟩ (by omega) ?_
  have eW : (wkF (fun c => sbt K (G c)) al n ([], R 0) n).flatMap (wext (fun c => sbt K (G c)) al n m) = wext (fun c => sbt K (G c)) al n (m + 1) ([], R 0) := by
    rw [wkF_all]
    rfl
  refine xs_167m hK hG hA hn hmany m 0 [] R (by omega) rfl (fun c hc => by cases hc) n _ _ (Nat.le_refl n) (xst_ne (by decide) rfl (Or.inl rfl)) (xst_ne (by decide) rfl (Or.inl rfl)) xst_eq (wDI_200 hI gl (fun i hi => absurd hi (Nat.not_lt_zero i)) (Nat.le_refl 0) (by decide)) (fun y f2 hy h2 => ?_) (fun hno lv2 f2 o0 o1 o2 o3 _ => ?_)
  · rw [eW] at hy
    exact ⟨_, _, rfl, rfl, Or.inl ⟨y, hy, rfl, h2⟩⟩
  · rw [eW] at hno
    refine x_iload_n rfl o2 ?_
    refine x_iflt (t := 148) rfl rfl (by decide) (fun _ => ?_) (fun h => absurd h (by decide))
    refine x_iconst rfl ?_
    exact x_ireturn rfl (Or.inr (Or.inl ⟨rfl, by decide⟩)) ⟨_, _, rfl, rfl, Or.inr ⟨hno, rfl, o3 rfl⟩⟩
end
section
/-! The model's resolve. -/
theorem sMB_36 {f f' : Nat → zE} {fs : List Value} {ca dn cl : Int} {v : Value} (h : sMB f fs ca dn cl) (hf : f' 177 = .inl (10, fs.set 36 v)) : sMB f' (fs.set 36 v) ca dn cl := by
  obtain ⟨⟨h177, hfl, ⟨f11, f13, f14, f15, f17, f18⟩, h25, h26, h27⟩, ⟨a1, a2, a3, a4, a5, a6⟩, h2, h3, h4⟩ := h
  exact ⟨⟨hf, by rw [List.length_set]; exact hfl, ⟨sget_ne (by decide) f11, sget_ne (by decide) f13, sget_ne (by decide) f14, sget_ne (by decide) f15, sget_ne (by decide) f17, sget_ne (by decide) f18⟩, sget_ne (by decide) h25, sget_ne (by decide) h26, sget_ne (by decide) h27⟩, ⟨sget_ne (by decide) a1, sget_ne (by decide) a2, sget_ne (by decide) a3, sget_ne (by decide) a4, sget_ne (by decide) a5, sget_ne (by decide) a6⟩, sget_ne (by decide) h2, sget_ne (by decide) h3, sget_ne (by decide) h4⟩
theorem wMF_36 {f : Nat → zE} {n : Nat} {S : sS} {fo v : Int} {fs : List Value} (h : sMB f fs (n : Nat) (S.2.1.length : Nat) S.2.2) (g : fs[0]? = some (xi 0) ∧ fs[35]? = some (.ref 198) ∧ fs[36]? = some (xi fo) ∧ fs[37]? = some (.ref 199) ∧ fs[38]? = some (.ref 200) ∧ fs[39]? = some (.ref 201)) : wMF (xu f 177 (.inl (10, fs.set 36 (xi v)))) n S v := by
  obtain ⟨g0, g1, g2, g3, g4, g5⟩ := g
  exact ⟨_, sMB_36 h xu_eq, sget_ne (by decide) g0, sget_ne (by decide) g1, sget_eq (by rw [h.1.2.1]; decide), sget_ne (by decide) g3, sget_ne (by decide) g4, sget_ne (by decide) g5⟩
theorem xs_168a {v0 : Value} {xs : List Int32} {u : Nat × Nat} {Q : zO → zX → Prop} {f0 : Nat → zE} {fs : List Value} {mx my mf : List Int} {r : Nat → Int} (h177 : f0 177 = .inl (10, fs)) (a1 : fs[22]? = some (.ref 189)) (a2 : fs[23]? = some (.ref 190)) (a3 : fs[24]? = some (.ref 191)) (h39 : fs[39]? = some (.ref 201)) (x1 : f0 189 = xr 0 mx) (x2 : f0 190 = xr 0 my) (x3 : f0 191 = xr 0 mf) (y1 : mx.length = 8) (y2 : my.length = 8) (y3 : mf.length = 8) (hx : ∀ d, d < 8 → (mx.getD d 0 = sX (r d) ∧ my.getD d 0 = sY (r d) ∧ mf.getD d 0 = sF (r d)) ∧ sok (r d))
    (hk : ∀ (lv : zL) (f : Nat → zE) (sl : List Int), zlv lv 0 = some (.ref 177) → f 201 = xr 0 sl → sl.length = 40 → (∀ d, d < 8 → sl.getD d 0 = r d) → (∀ q, q ≠ 201 → f q = f0 q) → xz v0 xs u Q 168 55 lv [] f) : ∀ (w d : Nat) (lv : zL) (f : Nat → zE) (sl : List Int), w + d = 8 → zlv lv 0 = some (.ref 177) → zlv lv 1 = some (xi (d : Nat)) → f 201 = xr 0 sl → sl.length = 40 → (∀ e, e < d → sl.getD e 0 = r e) → (∀ q, q ≠ 201 → f q = f0 q) → xz v0 xs u Q 168 12 lv [] f := by
  intro w
  induction w with
  | zero =>
    intro d lv f sl hw l0 l1 g201 gl hv hfr
    have e8 : d = 8 := by omega
    subst e8
    refine x_iload_n rfl l1 ?_
    refine x_bipush rfl (by decide) ?_
    refine x_cge (t := 55) rfl rfl (by decide) (by decide) (fun _ => ?_) (fun h => absurd h (by decide))
    exact hk lv f sl l0 g201 gl hv hfr
  | succ w ih =>
    intro d lv f sl hw l0 l1 g201 gl hv hfr
    have hd : d < 8 := by omega
    obtain ⟨⟨q1, q2, q3⟩, q4⟩ := hx d hd
    have b6 := s_eq (r d)
    refine x_iload_n rfl l1 ?_
    refine x_bipush rfl (by decide) ?_
    refine x_cge (t := 55) rfl rfl ⟨by omega, by omega⟩ (by decide) (fun h => absurd h (by omega)) (fun _ => ?_)
    refine x_aload_n rfl l0 ?_
    refine x_getfield rfl (by decide) ((hfr 177 (by decide)).trans h177) h39 ?_
    refine x_iload_n rfl l1 ?_
    refine x_iconst rfl ?_
    refine x_bipush rfl (by decide) ?_
    refine x_aload_n rfl l0 ?_
    refine x_getfield rfl (by decide) ((hfr 177 (by decide)).trans h177) a2 ?_
    refine x_iload_n rfl l1 ?_
    refine x_iaload rfl (by decide) ((hfr 190 (by decide)).trans x2) ⟨by omega, by omega⟩ (by omega) ?_
    rw [Int.toNat_natCast, q2]
    refine x_imul rfl ?_
    refine x_aload_n rfl l0 ?_
    refine x_getfield rfl (by decide) ((hfr 177 (by decide)).trans h177) a1 ?_
    refine x_iload_n rfl l1 ?_
    refine x_iaload rfl (by decide) ((hfr 189 (by decide)).trans x1) ⟨by omega, by omega⟩ (by omega) ?_
    rw [Int.toNat_natCast, q1]
    refine x_iadd rfl ?_
    refine x_imul rfl ?_
    refine x_aload_n rfl l0 ?_
    refine x_getfield rfl (by decide) ((hfr 177 (by decide)).trans h177) a3 ?_
    refine x_iload_n rfl l1 ?_
    refine x_iaload rfl (by decide) ((hfr 191 (by decide)).trans x3) ⟨by omega, by omega⟩ (by omega) ?_
    rw [Int.toNat_natCast, q3]
    refine x_iadd rfl ?_
    rw [← b6]
    refine x_iastore rfl (by decide) g201 ⟨by omega, by omega⟩ (by omega) ?_
    refine x_iinc rfl l1 (show (1 : Nat) < 2 from by decide) ?_
    refine x_goto (t := 12) rfl rfl ?_
    rw [Int.toNat_natCast]
    refine ih (d + 1) _ _ _ (by omega) (xst_ne (by decide) l0 (Or.inl rfl)) xst_eq xu_eq (by rw [List.length_set]; exact gl) (fun e he => ?_) (fun q b1 => xu_ne b1 (hfr q b1))
    rw [x_gset]
    by_cases h2 : d = e
    · subst h2
      rw [if_pos ⟨rfl, by omega⟩]
    · rw [if_neg (fun h => h2 h.1)]
      exact hv e (by omega)
theorem xs_168c {v0 : Value} {xs : List Int32} {u : Nat × Nat} {f0 : Nat → zE} {n : Nat} {S : sS} {F : Int} {p : List Nat} (hX : sMX f0 S.1) (hJ : sMJ f0 S.2.1) (hF4 : -1 ≤ F ∧ F ≤ 4) : ∀ (w k : Nat) (lv : zL) (f : Nat → zE) (tl wl : List Int), (w : Int) + (k : Nat) = max F 0 → zlv lv 0 = some (.ref 177) → zlv lv 1 = some (xi (k : Nat)) → wMF f n S F → (∃ ax ay af : List Int, sMC f ax ay af) → f 200 = xr 0 tl → tl.length = 5 → (∀ i : Nat, ((i : Nat) : Int) < F → tl.getD i 0 = ((p.getD i 0 : Nat) : Int)) → f 199 = xr 0 wl → wl.length = 4 → (∀ i, i < k → wl.getD i 0 = ((p.getD i 0 : Nat) : Int)) → (∀ q, q ≠ 177 → ¬ (192 ≤ q ∧ q ≤ 194) → ¬ (199 ≤ q ∧ q ≤ 201) → f q = f0 q) → xz v0 xs u (fun o X => ∃ r' f', o = .inl r' ∧ X = (xh f', u) ∧ (fun r' f' => r' = some (xi F) ∧ sCD f' 0 ∧ sMT f' n S ∧ sWD f' F (fun i => ((p.getD i 0 : Nat) : Int)) ∧ ∀ q, q ≠ 177 → ¬ (192 ≤ q ∧ q ≤ 194) → ¬ (199 ≤ q ∧ q ≤ 201) → f' q = f0 q) r' f') 168 107 lv [] f := by
  intro w
  induction w with
  | zero =>
    intro k lv f tl wl hw l0 l1 hM1 hC g200 gl gv g199 gwl gw hfr
    obtain ⟨fs, hB, h0, h35, h36, h37, h38, h39⟩ := id hM1
    have h177 := hB.1.1
    refine x_iload_n rfl l1 ?_
    refine x_aload_n rfl l0 ?_
    refine x_getfield rfl (by decide) h177 h36 ?_
    refine x_cge (t := 133) rfl rfl ⟨by omega, by omega⟩ ⟨by omega, by omega⟩ (fun _ => ?_) (fun h => absurd h (by omega))
    refine x_aload_n rfl l0 ?_
    refine x_getfield rfl (by decide) h177 h36 ?_
    exact x_ireturn rfl (Or.inl rfl) ⟨_, _, rfl, rfl, rfl, ⟨fs, h177, h0⟩, ⟨⟨fs, hB⟩, sMX_f hX (fun q b1 b2 => hfr q (by omega) (by omega) (by omega)), sMJ_f hJ (fun q b1 b2 => hfr q (by omega) (by omega) (by omega)), hC⟩, ⟨⟨fs, h177, h36⟩, wl, g199, gwl, fun i hi => gw i (by omega)⟩, hfr⟩
  | succ w ih =>
    intro k lv f tl wl hw l0 l1 hM1 hC g200 gl gv g199 gwl gw hfr
    obtain ⟨fs, hB, h0, h35, h36, h37, h38, h39⟩ := id hM1
    have h177 := hB.1.1
    have gvk := gv k (by omega)
    refine x_iload_n rfl l1 ?_
    refine x_aload_n rfl l0 ?_
    refine x_getfield rfl (by decide) h177 h36 ?_
    refine x_cge (t := 133) rfl rfl ⟨by omega, by omega⟩ ⟨by omega, by omega⟩ (fun h => absurd h (by omega)) (fun _ => ?_)
    refine x_aload_n rfl l0 ?_
    refine x_getfield rfl (by decide) h177 h37 ?_
    refine x_iload_n rfl l1 ?_
    refine x_aload_n rfl l0 ?_
    refine x_getfield rfl (by decide) h177 h38 ?_
    refine x_iload_n rfl l1 ?_
    refine x_iaload rfl (by decide) g200 ⟨by omega, by omega⟩ (by omega) ?_
    rw [Int.toNat_natCast, gvk]
    refine x_iastore rfl (by decide) g199 ⟨by omega, by omega⟩ (by omega) ?_
    refine x_iinc rfl l1 (show (1 : Nat) < 2 from by decide) ?_
    refine x_goto (t := 107) rfl rfl ?_
    rw [Int.toNat_natCast]
    obtain ⟨ax, ay, af, c1, c2, c3, c4⟩ := hC
    refine ih (k + 1) _ _ tl _ (by omega) (xst_ne (by decide) l0 (Or.inl rfl)) xst_eq ⟨fs, sMB_f hB (xu_ne (by decide) rfl), h0, h35, h36, h37, h38, h39⟩ ⟨ax, ay, af, xu_ne (by decide) c1, xu_ne (by decide) c2, xu_ne (by decide) c3, c4⟩ (xu_ne (by decide) g200) gl gv xu_eq (by rw [List.length_set]; exact gwl) (fun i hi => ?_) (fun q b1 b2 b3 => xu_ne (by omega) (hfr q b1 b2 b3))
    rw [x_gset]
    by_cases h2 : k = i
    · subst h2
      rw [if_pos ⟨rfl, by omega⟩]
    · rw [if_neg (fun h => h2 h.1)]
      exact gw i (by omega)
theorem xs_168d {v0 : Value} {xs : List Int32} {u : Nat × Nat} {f0 : Nat → zE} {n : Nat} {S : sS} {F : Int} {p : List Nat} (hX : sMX f0 S.1) (hJ : sMJ f0 S.2.1) (hF4 : -1 ≤ F ∧ F ≤ 4) {lv : zL} {f : Nat → zE} {tl wl : List Int} (l0 : zlv lv 0 = some (.ref 177)) (hM1 : wMF f n S F) (hC : ∃ ax ay af : List Int, sMC f ax ay af) (g200 : f 200 = xr 0 tl) (gl : tl.length = 5) (gv : ∀ i : Nat, ((i : Nat) : Int) < F → tl.getD i 0 = ((p.getD i 0 : Nat) : Int)) (g199 : f 199 = xr 0 wl) (gwl : wl.length = 4) (hfr : ∀ q, q ≠ 177 → ¬ (192 ≤ q ∧ q ≤ 194) → ¬ (199 ≤ q ∧ q ≤ 201) → f q = f0 q) : xz v0 xs u (fun o X => ∃ r' f', o = .inl r' ∧ X = (xh f', u) ∧ (fun r' f' => r' = some (xi F) ∧ sCD f' 0 ∧ sMT f' n S ∧ sWD f' F (fun i => ((p.getD i 0 : Nat) : Int)) ∧ ∀ q, q ≠ 177 → ¬ (192 ≤ q ∧ q ≤ 194) → ¬ (199 ≤ q ∧ q ≤ 201) → f' q = f0 q) r' f') 168 105 lv [] f := by
  refine x_iconst rfl ?_
  refine x_istore_n rfl (show (1 : Nat) < 2 from by decide) ?_
  exact xs_168c hX hJ hF4 (max F 0).toNat 0 _ f tl wl (by omega) (xst_ne (by decide) l0 (Or.inl rfl)) xst_eq hM1 hC g200 gl gv g199 gwl (fun i hi => absurd hi (Nat.not_lt_zero i)) hfr
theorem xs_168m {v0 : Value} {xs : List Int32} {u : Nat × Nat} {f0 : Nat → zE} {K : List (Int × Int)} {G : Nat → List xBt} {n : Nat} {S : sS} {al : Nat → Bool} {R : Nat → Nat → Int} {wl : List Int} (hX : sMX f0 S.1) (hJ : sMJ f0 S.2.1) (hK : ∀ c, c < n → sKM f0 K c (G c)) (hG : ∀ c, c < n → sGok K (G c)) (hA : sAD f0 al) (hn : n ≤ 12) (hR : R 0 = S.1) (h199 : f0 199 = xr 0 wl) (hwl : wl.length = 4) : ∀ (w many : Nat) (lv : zL) (f : Nat → zE), w + many = 5 → 1 ≤ many → zlv lv 0 = some (.ref 177) → zlv lv 1 = some (xi (many : Nat)) → wDI f0 f n S 0 R [] (fun _ => True) → xz v0 xs u (fun o X => ∃ r' f', o = .inl r' ∧ X = (xh f', u) ∧ (fun r' f' => r' = some (xi (wrs (fun c => sbt K (G c)) al n S.1 (5 - many) many).1) ∧ sCD f' 0 ∧ sMT f' n S ∧ sWD f' (wrs (fun c => sbt K (G c)) al n S.1 (5 - many) many).1 (fun i => (((wrs (fun c => sbt K (G c)) al n S.1 (5 - many) many).2.getD i 0 : Nat) : Int)) ∧ ∀ q, q ≠ 177 → ¬ (192 ≤ q ∧ q ≤ 194) → ¬ (199 ≤ q ∧ q ≤ 201) → f' q = f0 q) r' f') 168 70 lv [] f := by
  intro w
  induction w with
  | zero =>
    intro many lv f hw h1 l0 l1 hI
    have e5 : many = 5 := by omega
    subst e5
    obtain ⟨hF, hC, ⟨tl, g200, gl, -, -⟩, -, hfr⟩ := hI
    refine x_iload_n rfl l1 ?_
    refine x_iconst rfl ?_
    refine x_cgt (t := 105) rfl rfl (by decide) (by decide) (fun _ => ?_) (fun h => absurd h (by decide))
    exact xs_168d hX hJ (show -1 ≤ (-1 : Int) ∧ (-1 : Int) ≤ 4 by decide) l0 hF hC g200 gl (fun i hi => by omega) ((hfr 199 (by decide) (by decide) (by decide) (by decide)).trans h199) hwl (fun q b1 b2 b3 => hfr q b1 b2 (by omega) (by omega))
  | succ w ih =>
    intro many lv f hw h1 l0 l1 hI
    obtain ⟨hF, hC, -⟩ := id hI
    obtain ⟨fs, hB, h0, h35, h36, h37, h38, h39⟩ := id hF
    refine x_iload_n rfl l1 ?_
    refine x_iconst rfl ?_
    refine x_cgt (t := 105) rfl rfl ⟨by omega, by omega⟩ (by decide) (fun h => by omega) (fun _ => ?_)
    refine x_aload_n rfl l0 ?_
    refine x_getfield rfl (by decide) hB.1.1 h36 ?_
    refine x_ifge (t := 105) rfl rfl (by decide) (fun h => absurd h (by decide)) (fun _ => ?_)
    refine x_aload_n rfl l0 ?_
    refine x_aload_n rfl l0 ?_
    refine x_iload_n rfl l1 ?_
    refine x_call [_, _] rfl rfl (show (1 : Nat) ≤ 8 from by decide) (show (2 : Nat) ≤ 3 from by decide) (x_rcv (by decide) hB.1.1) (xs_167 hK hG hA hn ⟨h1, by omega⟩ hI) (fun r' f1 hP => ?_)
    rw [hR] at hP
    rcases hP with ⟨y, hy, rfl, hF1, hC1, ⟨tl, g200, gl, gv⟩, -, hfr1⟩ | ⟨hy, rfl, hI1⟩
    · have ew : wrs (fun c => sbt K (G c)) al n S.1 (5 - many) many = (((many : Nat) : Int), y.1) := by
        rw [show 5 - many = (4 - many) + 1 by omega]
        show (match wfd (fun c => sbt K (G c)) al n S.1 many with
          | some x => (((many : Nat) : Int), x.1)
          | none => wrs (fun c => sbt K (G c)) al n S.1 (4 - many) (many + 1)) = _
        rw [hy]
      obtain ⟨fs1, hB1, k0⟩ := hF1
      rw [ew]
      refine x_ifeq (t := 95) rfl rfl (by decide) (fun h => absurd h (by decide)) (fun _ => ?_)
      refine x_iload_n rfl l1 ?_
      refine x_goto (t := 96) rfl rfl ?_
      refine x_putfield rfl (by decide) hB1.1.1 (show (36 : Nat) < _ from by rw [hB1.1.2.1]; decide) rfl ?_
      refine x_iinc rfl l1 (show (1 : Nat) < 2 from by decide) ?_
      refine x_goto (t := 70) rfl rfl ?_
      obtain ⟨ax, ay, af, c1, c2, c3, c4⟩ := hC1
      have hF2 : wMF (xu f1 177 (.inl (10, fs1.set 36 (xi (many : Nat))))) n S ((many : Nat) : Int) := wMF_36 hB1 k0
      have fin := fun (lv9 : zL) (m0 : zlv lv9 0 = some (.ref 177)) => xs_168d (v0 := v0) (xs := xs) (u := u) (p := y.1) (lv := lv9) hX hJ (show -1 ≤ ((many : Nat) : Int) ∧ ((many : Nat) : Int) ≤ 4 by omega) m0 hF2 ⟨ax, ay, af, xu_ne (by decide) c1, xu_ne (by decide) c2, xu_ne (by decide) c3, c4⟩ (xu_ne (by decide) g200) gl (fun i hi => gv i (by omega)) (xu_ne (by decide) ((hfr1 199 (by decide) (by decide) (by decide) (by decide)).trans h199)) hwl (fun q b1 b2 b3 => xu_ne b1 (hfr1 q b1 b2 (by omega) (by omega)))
      obtain ⟨fs2, hB2, -, -, e36, -⟩ := id hF2
      refine x_iload_n rfl xst_eq ?_
      refine x_iconst rfl ?_
      refine x_cgt (t := 105) rfl rfl ⟨by omega, by omega⟩ (by decide) (fun h => fin _ (xst_ne (by decide) l0 (Or.inl rfl))) (fun h => ?_)
      refine x_aload_n rfl (xst_ne (by decide) l0 (Or.inl rfl)) ?_
      refine x_getfield rfl (by decide) hB2.1.1 e36 ?_
      refine x_ifge (t := 105) rfl rfl ⟨by omega, by omega⟩ (fun _ => fin _ (xst_ne (by decide) l0 (Or.inl rfl))) (fun h => by omega)
    · have ew : wrs (fun c => sbt K (G c)) al n S.1 (5 - many) many = wrs (fun c => sbt K (G c)) al n S.1 (5 - (many + 1)) (many + 1) := by
        rw [show 5 - many = (5 - (many + 1)) + 1 by omega]
        show (match wfd (fun c => sbt K (G c)) al n S.1 many with
          | some x => (((many : Nat) : Int), x.1)
          | none => wrs (fun c => sbt K (G c)) al n S.1 (5 - (many + 1)) (many + 1)) = _
        rw [hy]
      obtain ⟨⟨fs1, hB1, k0⟩, ⟨ax, ay, af, c1, c2, c3, c4⟩, ⟨tl, g200, gl, gv, -⟩, ⟨sl, s1, s2⟩, hfr1⟩ := hI1
      rw [ew]
      refine x_ifeq (t := 95) rfl rfl (by decide) (fun _ => ?_) (fun h => absurd rfl h)
      refine x_iconst rfl ?_
      refine x_putfield rfl (by decide) hB1.1.1 (show (36 : Nat) < _ from by rw [hB1.1.2.1]; decide) rfl ?_
      refine x_iinc rfl l1 (show (1 : Nat) < 2 from by decide) ?_
      refine x_goto (t := 70) rfl rfl ?_
      exact ih (many + 1) _ _ (by omega) (by omega) (xst_ne (by decide) l0 (Or.inl rfl)) xst_eq ⟨wMF_36 hB1 k0, ⟨ax, ay, af, xu_ne (by decide) c1, xu_ne (by decide) c2, xu_ne (by decide) c3, c4⟩, ⟨tl, xu_ne (by decide) g200, gl, gv, trivial⟩, ⟨sl, xu_ne (by decide) s1, s2⟩, fun q b1 b2 b3 b4 => xu_ne b1 (hfr1 q b1 b2 b3 b4)⟩
theorem xs_168 {v0 : Value} {xs : List Int32} {u : Nat × Nat} {f : Nat → zE} {K : List (Int × Int)} {G : Nat → List xBt} {n : Nat} {S : sS} {al : Nat → Bool} (hM : yM yT2 (xh f)) (hT : sMT f n S) (hn : n ≤ 12) (hK : ∀ c, c < n → sKM f K c (G c)) (hG : ∀ c, c < n → sGok K (G c)) (hA : sAD f al) : xq v0 xs u 168 [(0, .ref 177)] f (fun r' f' => r' = some (xi (wres (fun c => sbt K (G c)) al n S.1).1) ∧ sCD f' 0 ∧ sMT f' n S ∧ sWD f' (wres (fun c => sbt K (G c)) al n S.1).1 (fun i => (((wres (fun c => sbt K (G c)) al n S.1).2.getD i 0 : Nat) : Int)) ∧ ∀ q, q ≠ 177 → ¬ (192 ≤ q ∧ q ≤ 194) → ¬ (199 ≤ q ∧ q ≤ 201) → f' q = f q) := by
  unfold xq
  obtain ⟨⟨fs, hB⟩, hX, hJ, hC⟩ := id hT
  have hfl := hB.1.2.1
  have T : ∀ j p : Nat, ([.inl ytop, .inl (0, 100), .inr (.inr [178]), .inl ytop, .inl ytop, .inl ytop, .inl ytop, ylong, .inl ytop, .inl (0, 12), .inr (.inr [179]), .inr (.inr [180]), .inr (.inr [181]), .inr (.inr [182]), .inr (.inr [183]), .inr (.inr [184]), .inl ytop, .inr (.inr [185]), .inr (.inr [186]), .inl ytop, .inr (.inr [187]), .inr (.inr [188]), .inr (.inr [189]), .inr (.inr [190]), .inr (.inr [191]), .inr (.inr [192]), .inr (.inr [193]), .inr (.inr [194]), .inl ytop, .inl ytop, .inl ytop, .inl (0, 24), .inr (.inr [195]), .inr (.inr [196]), .inr (.inr [197]), .inr (.inr [198]), .inl (-1, 4), .inr (.inr [199]), .inr (.inr [200]), .inr (.inr [201]), .inr (.inr [202])] : List yA)[j]? = some (.inr (.inr [p])) → fs[j]? = some (.ref p) := by
    intro j p hj
    obtain ⟨fs', e1, -, e3⟩ := xT_o (p := 177) hM (by decide) yT2_177
    rw [hB.1.1] at e1
    cases e1
    obtain ⟨v, hv, hg⟩ := e3 j _ hj
    rw [hv, yg_rf hg]
  have h35 := T 35 198 rfl
  have h37 := T 37 199 rfl
  have h38 := T 38 200 rfl
  have h39 := T 39 201 rfl
  have a1 := T 22 189 rfl
  have a2 := T 23 190 rfl
  have a3 := T 24 191 rfl
  obtain ⟨wl, e199, el199, -⟩ := xT_a (p := 199) hM (by decide) (show yT2[199 - 50]? = some (.inr (.inl (0, [(4, ytop)]))) from rfl)
  obtain ⟨tl, e200, el200, -⟩ := xT_a (p := 200) hM (by decide) (show yT2[200 - 50]? = some (.inr (.inl (0, [(5, -1, 11)]))) from rfl)
  obtain ⟨sl, e201, el201, -⟩ := xT_a (p := 201) hM (by decide) (show yT2[201 - 50]? = some (.inr (.inl (0, [(40, ytop)]))) from rfl)
  have hwl : wl.length = 4 := el199
  have htl : tl.length = 5 := el200
  have hsl : sl.length = 40 := el201
  obtain ⟨mx, my, mf, x1, x2, x3, ⟨y1, y2, y3⟩, hx⟩ := id hX
  obtain ⟨ax, ay, af, c1, c2, c3, c4⟩ := hC
  refine x_aload_n rfl rfl ?_
  refine x_iconst rfl ?_
  refine x_putfield rfl (by decide) hB.1.1 (show (0 : Nat) < _ from by rw [hfl]; decide) rfl ?_
  refine x_aload_n rfl rfl ?_
  refine x_iconst rfl ?_
  refine x_putfield rfl (by decide) xu_eq (show (36 : Nat) < _ from by rw [slen hfl]; decide) rfl ?_
  refine x_iconst rfl ?_
  refine x_istore_n rfl (show (1 : Nat) < 2 from by decide) ?_
  generalize hf2 : xu (xu f 177 _) 177 _ = f2
  have g177 : f2 177 = .inl (10, (fs.set 0 (xi 0)).set 36 (xi (-1))) := by rw [← hf2]; exact xu_eq
  have hfa : ∀ q, q ≠ 177 → f2 q = f q := fun q b => by rw [← hf2]; exact xu_ne b (xu_ne b rfl)
  have hB2 := sMB_36 (sMB_0 (f' := fun _ => .inl (10, fs.set 0 (xi 0))) hB rfl) g177
  have Gf : ∀ j v, j ≠ 0 → j ≠ 36 → fs[j]? = some v → ((fs.set 0 (xi 0)).set 36 (xi (-1)))[j]? = some v := fun j v b1 b2 e => sget_ne (by omega) (sget_ne (by omega) e)
  refine xs_168a (r := S.1) g177 (Gf 22 _ (by decide) (by decide) a1) (Gf 23 _ (by decide) (by decide) a2) (Gf 24 _ (by decide) (by decide) a3) (Gf 39 _ (by decide) (by decide) h39) ((hfa 189 (by decide)).trans x1) ((hfa 190 (by decide)).trans x2) ((hfa 191 (by decide)).trans x3) y1 y2 y3 hx (fun lv f3 sl3 m0 g201 gl hv hfr => ?_) 8 0 _ f2 sl rfl (xst_ne (by decide) rfl (Or.inl rfl)) xst_eq ((hfa 201 (by decide)).trans e201) hsl (fun e he => absurd he (Nat.not_lt_zero e)) (fun _ _ => rfl)
  have k177 : f3 177 = _ := (hfr 177 (by decide)).trans g177
  have hB3 := sMB_f hB2 (f' := f3) (hfr 177 (by decide))
  have k0 : ((fs.set 0 (xi 0)).set 36 (xi (-1)))[0]? = some (xi 0) ∧ ((fs.set 0 (xi 0)).set 36 (xi (-1)))[35]? = some (.ref 198) ∧ ((fs.set 0 (xi 0)).set 36 (xi (-1)))[36]? = some (xi (-1)) ∧ ((fs.set 0 (xi 0)).set 36 (xi (-1)))[37]? = some (.ref 199) ∧ ((fs.set 0 (xi 0)).set 36 (xi (-1)))[38]? = some (.ref 200) ∧ ((fs.set 0 (xi 0)).set 36 (xi (-1)))[39]? = some (.ref 201) := ⟨sget_ne (by decide) (sget_eq (by rw [hfl]; decide)), Gf 35 _ (by decide) (by decide) h35, sget_eq (by rw [slen hfl]; decide), Gf 37 _ (by decide) (by decide) h37, Gf 38 _ (by decide) (by decide) h38, Gf 39 _ (by decide) (by decide) h39⟩
  have hff : ∀ q, q ≠ 177 → q ≠ 201 → f3 q = f q := fun q b1 b2 => (hfr q b2).trans (hfa q b1)
  have hr0 : ∀ d, d < 8 → sl3.getD (8 * 0 + d) 0 = S.1 d ∧ sok (S.1 d) := fun d hd => ⟨by rw [show 8 * 0 + d = d by omega]; exact hv d hd, (hx d hd).2⟩
  have hI3 : wDI f f3 n S 0 (fun _ => S.1) [] (fun _ => True) := ⟨⟨_, hB3, k0⟩, ⟨ax, ay, af, (hff 192 (by decide) (by decide)).trans c1, (hff 193 (by decide) (by decide)).trans c2, (hff 194 (by decide) (by decide)).trans c3, c4⟩, ⟨tl, (hff 200 (by decide) (by decide)).trans e200, htl, fun i hi => absurd hi (Nat.not_lt_zero i), trivial⟩, ⟨sl3, g201, gl, fun i hi => by rw [show i = 0 by omega]; exact hr0⟩, fun q b1 b2 b3 b4 => hff q b1 b4⟩
  refine x_aload_n rfl m0 ?_
  refine x_iconst rfl ?_
  refine x_call [_, _] rfl rfl (show (0 : Nat) ≤ 8 from by decide) (show (2 : Nat) ≤ 4 from by decide) (x_rcv (by decide) k177) (xs_164 (k := 0) (r := S.1) k177 k0.2.2.2.2.2 g201 gl (by decide) hr0) (fun r' f' hP => ?_)
  obtain ⟨rfl, hPe⟩ := hP
  subst f'
  have hwh : whm ([], S.1) = sall (fun d => S.1 d == shome d) 8 := rfl
  rw [← hwh]
  by_cases hh : whm ([], S.1) = true
  · rw [if_pos hh]
    refine x_ifeq (t := 68) rfl rfl (by decide) (fun h => absurd h (by decide)) (fun _ => ?_)
    have ew : (wres (fun c => sbt K (G c)) al n S.1) = (0, []) := by unfold wres; rw [if_pos hh]
    rw [ew]
    refine x_aload_n rfl m0 ?_
    refine x_iconst rfl ?_
    refine x_putfield rfl (by decide) k177 (show (36 : Nat) < _ from by rw [slen (slen hfl)]; decide) rfl ?_
    refine x_iconst rfl ?_
    refine x_istore_n rfl (show (1 : Nat) < 2 from by decide) ?_
    refine x_iload_n rfl xst_eq ?_
    refine x_iconst rfl ?_
    refine x_cgt (t := 105) rfl rfl (by decide) (by decide) (fun h => absurd h (by decide)) (fun _ => ?_)
    refine x_aload_n rfl (xst_ne (by decide) m0 (Or.inl rfl)) ?_
    refine x_getfield rfl (by decide) xu_eq (sget_eq (by rw [slen (slen hfl)]; decide)) ?_
    refine x_ifge (t := 105) rfl rfl (by decide) (fun _ => ?_) (fun h => absurd h (by decide))
    exact xs_168d (F := 0) (p := []) (tl := tl) (wl := wl) hX hJ (by decide) (xst_ne (by decide) m0 (Or.inl rfl)) (wMF_36 hB3 k0) ⟨ax, ay, af, xu_ne (by decide) ((hff 192 (by decide) (by decide)).trans c1), xu_ne (by decide) ((hff 193 (by decide) (by decide)).trans c2), xu_ne (by decide) ((hff 194 (by decide) (by decide)).trans c3), c4⟩ (xu_ne (by decide) ((hff 200 (by decide) (by decide)).trans e200)) htl (fun i hi => by omega) (xu_ne (by decide) ((hff 199 (by decide) (by decide)).trans e199)) hwl (fun q b1 b2 b3 => xu_ne b1 (hff q b1 (by omega)))
  rw [if_neg hh]
  refine x_ifeq (t := 68) rfl rfl (by decide) (fun _ => ?_) (fun h => absurd rfl h)
  have ew : (wres (fun c => sbt K (G c)) al n S.1) = wrs (fun c => sbt K (G c)) al n S.1 4 1 := by unfold wres; rw [if_neg hh]
  rw [ew]
  refine x_iconst rfl ?_
  refine x_istore_n rfl (show (1 : Nat) < 2 from by decide) ?_
  exact xs_168m hX hJ hK hG hA hn rfl e199 hwl 4 1 _ f3 rfl (by decide) (xst_ne (by decide) m0 (Or.inl rfl)) xst_eq hI3
end
