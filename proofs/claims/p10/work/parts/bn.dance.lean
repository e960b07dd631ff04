/-! Shape. -/
theorem x_dia {v0 : Value} {xs : List Int32} {u : Nat × Nat} {Q : zO → zX → Prop} {mi pc : Nat} {lv : zL} {st : List Value} {f : Nat → zE} (v : Int) (pj : Nat) (h : xz v0 xs u Q mi pj lv (xi v :: st) f → xz v0 xs u Q mi pc lv st f) (k : xz v0 xs u Q mi pj lv (xi v :: st) f) : xz v0 xs u Q mi pc lv st f := h k
theorem x_maxi {v0 : Value} {xs : List Int32} {u : Nat × Nat} {Q : zO → zX → Prop} {mi pc n : Nat} {lv : zL} {f : Nat → zE} {c : Nat} {v : Value} {r : List Value} {x y : Int} (hc : zcd (zt v0) mi pc = some (.invokestatic n, 1, 1, c, v)) (h8 : zcat (xi x :: r) ≤ 8) (hx : -2147483648 ≤ x ∧ x ≤ 2147483647) (hy : -2147483648 ≤ y ∧ y ≤ 2147483647) (k : xz v0 xs u Q mi (pc + 3) lv (xi (if x < y then y else x) :: r) f) : xz v0 xs u Q mi pc lv (xi y :: xi x :: r) f := by
  obtain ⟨z1, z2, z3, z4, z5⟩ := zk_za (G := zG xs) (df := zdf (zt v0)) (i := .invokestatic n) (a := 1) (b := 1) (c := c) (v := v) (nL := znl (zt v0) mi) (pc := pc) (lv := lv) (st := xi y :: xi x :: r) (X := (xh f, u)) rfl
  have e : zd 1 (xi y :: xi x :: r) (xh f, u) = some (xi (if x < y then y else x) :: r, (xh f, u)) := by
    simp only [zd, xi_lt hx hy]
    by_cases h : x < y
    · rw [if_pos h, if_pos h]
    · rw [if_neg h, if_neg h]
  exact zwp_jdk ⟨hc, z1, z2, z3⟩ z4 rfl rfl e h8 k
theorem x_mini {v0 : Value} {xs : List Int32} {u : Nat × Nat} {Q : zO → zX → Prop} {mi pc n : Nat} {lv : zL} {f : Nat → zE} {c : Nat} {v : Value} {r : List Value} {x y : Int} (hc : zcd (zt v0) mi pc = some (.invokestatic n, 1, 2, c, v)) (h8 : zcat (xi x :: r) ≤ 8) (hx : -2147483648 ≤ x ∧ x ≤ 2147483647) (hy : -2147483648 ≤ y ∧ y ≤ 2147483647) (k : xz v0 xs u Q mi (pc + 3) lv (xi (if y < x then y else x) :: r) f) : xz v0 xs u Q mi pc lv (xi y :: xi x :: r) f := by
  obtain ⟨z1, z2, z3, z4, z5⟩ := zk_za (G := zG xs) (df := zdf (zt v0)) (i := .invokestatic n) (a := 1) (b := 2) (c := c) (v := v) (nL := znl (zt v0) mi) (pc := pc) (lv := lv) (st := xi y :: xi x :: r) (X := (xh f, u)) rfl
  have e : zd 2 (xi y :: xi x :: r) (xh f, u) = some (xi (if y < x then y else x) :: r, (xh f, u)) := by
    simp only [zd, xi_lt hy hx]
    by_cases h : y < x
    · rw [if_pos h, if_pos h]
    · rw [if_neg h, if_neg h]
  exact zwp_jdk ⟨hc, z1, z2, z3⟩ z4 rfl rfl e h8 k
def slo (i : Int) (g : Nat → Int) : Nat → Int
  | 0 => i
  | k + 1 => if g k < slo i g k then g k else slo i g k
def shi (g : Nat → Int) : Nat → Int
  | 0 => 0
  | k + 1 => if shi g k < g k then g k else shi g k
theorem slo_rg {i : Int} {g : Nat → Int} (hi : 0 ≤ i) (h : ∀ e, e < 8 → 0 ≤ g e ∧ g e ≤ 9) : ∀ k, k ≤ 8 → 0 ≤ slo i g k ∧ slo i g k ≤ i := by
  intro k
  induction k with
  | zero => intro _; exact ⟨hi, Int.le_refl _⟩
  | succ k ih =>
    intro hk
    have := ih (by omega)
    have := h k (by omega)
    simp only [slo]
    split <;> omega
theorem shi_rg {g : Nat → Int} (h : ∀ e, e < 8 → 0 ≤ g e ∧ g e ≤ 9) : ∀ k, k ≤ 8 → 0 ≤ shi g k ∧ shi g k ≤ 9 := by
  intro k
  induction k with
  | zero => intro _; exact ⟨by show (0 : Int) ≤ 0; omega, by show (0 : Int) ≤ 9; omega⟩
  | succ k ih =>
    intro hk
    have := ih (by omega)
    have := h k (by omega)
    simp only [shi]
    split <;> omega
theorem slo_10 {g : Nat → Int} (h : ∀ e, e < 8 → 0 ≤ g e ∧ g e ≤ 9) : ∀ k, k < 8 → slo 10 g (k + 1) = slo 9 g (k + 1) := by
  intro k
  induction k with
  | zero =>
    intro hk
    have := h 0 (by omega)
    show (if g 0 < 10 then g 0 else 10) = (if g 0 < 9 then g 0 else 9)
    split <;> split <;> omega
  | succ k ih =>
    intro hk
    have e := ih (by omega)
    show (if g (k + 1) < slo 10 g (k + 1) then g (k + 1) else slo 10 g (k + 1)) = (if g (k + 1) < slo 9 g (k + 1) then g (k + 1) else slo 9 g (k + 1))
    rw [e]
theorem slo_le {i : Int} {g : Nat → Int} : ∀ k d, d < k → slo i g k ≤ g d := by
  intro k
  induction k with
  | zero => intro d h; omega
  | succ k ih =>
    intro d h
    simp only [slo]
    by_cases e : d = k
    · subst e
      split <;> omega
    · have := ih d (by omega)
      split <;> omega
theorem shi_ge {g : Nat → Int} : ∀ k d, d < k → g d ≤ shi g k := by
  intro k
  induction k with
  | zero => intro d h; omega
  | succ k ih =>
    intro d h
    simp only [shi]
    by_cases e : d = k
    · subst e
      split <;> omega
    · have := ih d (by omega)
      split <;> omega
def sedge (p w s z : Int) : Int := (if sX p - w = 0 ∨ sX p - w = z - 1 then 1 else 0) + (if sY p - s = 0 ∨ sY p - s = z - 1 then 1 else 0)
def slx (r : Nat → Int) : Int := slo 9 (fun e => sX (r e)) 8
def shx (r : Nat → Int) : Int := shi (fun e => sX (r e)) 8
def sly (r : Nat → Int) : Int := slo 9 (fun e => sY (r e)) 8
def shy (r : Nat → Int) : Int := shi (fun e => sY (r e)) 8
def sside (a lo hi : Int) : Bool := decide (a = lo ∨ a = hi)
def shol (r : Nat → Int) (d : Nat) : Bool := if shx r - slx r + 1 = 4 then sside (sX (r d)) (slx r) (shx r) != sside (sY (r d)) (sly r) (shy r) else sside (sX (r d)) (slx r) (shx r) || sside (sY (r d)) (sly r) (shy r)
def shf (r : Nat → Int) : Int := if sall (shol r) 8 = true then 1 else 0
def sshape (r : Nat → Int) : Int := if (shx r - slx r + 1) * (shy r - sly r + 1) = 8 then (if shx r - slx r + 1 = 1 ∨ shy r - sly r + 1 = 1 then 1 else 2) else if shx r - slx r + 1 ≠ shy r - sly r + 1 ∨ shf r = 0 ∨ shx r - slx r + 1 < 3 ∨ 4 < shx r - slx r + 1 then 0 else if shx r - slx r + 1 = 4 then 3 else 4
def sshC (r : Nat → Int) (a b : Int) : Int := if a = 1 ∧ b = 8 then 1 else if a = 2 ∧ b = 4 then 2 else if a = 4 ∧ b = 4 ∧ scnt (fun d => sedge (r d) (slx r) (sly r) 4 == 1) 8 = 8 then 3 else if a = 3 ∧ b = 3 ∧ scnt (fun d => sedge (r d) (slx r) (sly r) 3 == 0) 8 = 0 then 4 else 0
theorem scnt_full (P : Nat → Bool) : ∀ k, scnt P k = (k : Nat) ↔ sall P k = true := by
  intro k
  induction k with
  | zero => simp [scnt, sall]
  | succ k ih =>
    have hr := scnt_rg P k
    simp only [scnt, sall, Bool.and_eq_true]
    cases hp : P k with
    | true =>
      rw [if_pos rfl, ← ih]
      constructor
      · intro h; exact ⟨by omega, rfl⟩
      · intro h; omega
    | false =>
      rw [if_neg (by decide)]
      constructor
      · intro h; omega
      · intro h; exact absurd h.2 (by decide)
theorem scnt_none (P : Nat → Bool) : ∀ k, scnt P k = 0 ↔ sall (fun d => !P d) k = true := by
  intro k
  induction k with
  | zero => simp [scnt, sall]
  | succ k ih =>
    have hr := scnt_rg P k
    simp only [scnt, sall, Bool.and_eq_true]
    cases hp : P k with
    | true =>
      rw [if_pos rfl]
      constructor
      · intro h; omega
      · intro h; exact absurd h.2 (by decide)
    | false =>
      rw [if_neg (by decide), ← ih]
      constructor
      · intro h; exact ⟨by omega, rfl⟩
      · intro h; omega
theorem sall_congr {P P' : Nat → Bool} : ∀ k, (∀ d, d < k → P d = P' d) → sall P k = sall P' k := by
  intro k
  induction k with
  | zero => intro _; rfl
  | succ k ih => intro h; simp only [sall]; rw [ih (fun d hd => h d (by omega)), h k (by omega)]
theorem sedge_4 {r : Nat → Int} (hx : shx r = slx r + 3) (hy : shy r = sly r + 3) (d : Nat) : (sedge (r d) (slx r) (sly r) 4 == 1) = shol r d := by
  have e : shol r d = (decide (sX (r d) = slx r ∨ sX (r d) = shx r) != decide (sY (r d) = sly r ∨ sY (r d) = shy r)) := by
    unfold shol
    rw [if_pos (show shx r - slx r + 1 = 4 by omega)]
    rfl
  rw [e]
  unfold sedge
  by_cases h1 : sX (r d) - slx r = 0 ∨ sX (r d) - slx r = 4 - 1 <;> by_cases h2 : sY (r d) - sly r = 0 ∨ sY (r d) - sly r = 4 - 1
  · rw [if_pos h1, if_pos h2, decide_eq_true (show sX (r d) = slx r ∨ sX (r d) = shx r by omega), decide_eq_true (show sY (r d) = sly r ∨ sY (r d) = shy r by omega)]; rfl
  · rw [if_pos h1, if_neg h2, decide_eq_true (show sX (r d) = slx r ∨ sX (r d) = shx r by omega), decide_eq_false (show ¬ (sY (r d) = sly r ∨ sY (r d) = shy r) by omega)]; rfl
  · rw [if_neg h1, if_pos h2, decide_eq_false (show ¬ (sX (r d) = slx r ∨ sX (r d) = shx r) by omega), decide_eq_true (show sY (r d) = sly r ∨ sY (r d) = shy r by omega)]; rfl
  · rw [if_neg h1, if_neg h2, decide_eq_false (show ¬ (sX (r d) = slx r ∨ sX (r d) = shx r) by omega), decide_eq_false (show ¬ (sY (r d) = sly r ∨ sY (r d) = shy r) by omega)]; rfl
theorem sedge_3 {r : Nat → Int} (hx : shx r = slx r + 2) (hy : shy r = sly r + 2) (d : Nat) : (!(sedge (r d) (slx r) (sly r) 3 == 0)) = shol r d := by
  have e : shol r d = (decide (sX (r d) = slx r ∨ sX (r d) = shx r) || decide (sY (r d) = sly r ∨ sY (r d) = shy r)) := by
    unfold shol
    rw [if_neg (show ¬ shx r - slx r + 1 = 4 by omega)]
    rfl
  rw [e]
  unfold sedge
  by_cases h1 : sX (r d) - slx r = 0 ∨ sX (r d) - slx r = 3 - 1 <;> by_cases h2 : sY (r d) - sly r = 0 ∨ sY (r d) - sly r = 3 - 1
  · rw [if_pos h1, if_pos h2, decide_eq_true (show sX (r d) = slx r ∨ sX (r d) = shx r by omega), decide_eq_true (show sY (r d) = sly r ∨ sY (r d) = shy r by omega)]; rfl
  · rw [if_pos h1, if_neg h2, decide_eq_true (show sX (r d) = slx r ∨ sX (r d) = shx r by omega), decide_eq_false (show ¬ (sY (r d) = sly r ∨ sY (r d) = shy r) by omega)]; rfl
  · rw [if_neg h1, if_pos h2, decide_eq_false (show ¬ (sX (r d) = slx r ∨ sX (r d) = shx r) by omega), decide_eq_true (show sY (r d) = sly r ∨ sY (r d) = shy r by omega)]; rfl
  · rw [if_neg h1, if_neg h2, decide_eq_false (show ¬ (sX (r d) = slx r ∨ sX (r d) = shx r) by omega), decide_eq_false (show ¬ (sY (r d) = sly r ∨ sY (r d) = shy r) by omega)]; rfl
theorem sshape_rg {r : Nat → Int} (h : ∀ e, e < 8 → sok (r e)) : (0 ≤ slx r ∧ slx r ≤ shx r ∧ shx r ≤ 9) ∧ 0 ≤ sly r ∧ sly r ≤ shy r ∧ shy r ≤ 9 := by
  have hX : ∀ e, e < 8 → 0 ≤ sX (r e) ∧ sX (r e) ≤ 9 := fun e he => sX_rg (h e he)
  have hY : ∀ e, e < 8 → 0 ≤ sY (r e) ∧ sY (r e) ≤ 9 := fun e he => sY_rg (h e he)
  have a1 := slo_rg (i := 9) (by decide) hX 8 (Nat.le_refl _)
  have a2 := shi_rg hX 8 (Nat.le_refl _)
  have a3 := slo_rg (i := 9) (by decide) hY 8 (Nat.le_refl _)
  have a4 := shi_rg hY 8 (Nat.le_refl _)
  have b1 := slo_le (i := 9) (g := fun e => sX (r e)) 8 0 (by decide)
  have b2 := shi_ge (g := fun e => sX (r e)) 8 0 (by decide)
  have b3 := slo_le (i := 9) (g := fun e => sY (r e)) 8 0 (by decide)
  have b4 := shi_ge (g := fun e => sY (r e)) 8 0 (by decide)
  unfold slx shx sly shy
  exact ⟨⟨a1.1, Int.le_trans b1 b2, a2.2⟩, a3.1, Int.le_trans b3 b4, a4.2⟩
theorem shf_rg (r : Nat → Int) : 0 ≤ shf r ∧ shf r ≤ 1 := by
  unfold shf
  split <;> omega
theorem sshape_s {r : Nat → Int} {k : Int} (hk : k = 3 ∨ k = 2) (h1 : shx r - slx r = k) (h2 : shy r - sly r = k) : sshape r = if shf r = 0 then 0 else if k = 3 then 3 else 4 := by
  have hf := shf_rg r
  unfold sshape
  rw [h1, h2]
  rcases hk with rfl | rfl
  · rw [if_neg (by decide)]
    by_cases h : shf r = 0
    · rw [if_pos (Or.inr (Or.inl h)), if_pos h]
    · rw [if_neg (by omega), if_neg h, if_pos (by decide), if_pos rfl]
  · rw [if_neg (by decide)]
    by_cases h : shf r = 0
    · rw [if_pos (Or.inr (Or.inl h)), if_pos h]
    · rw [if_neg (by omega), if_neg h, if_neg (by decide), if_neg (by decide)]
theorem sshC_eq {r : Nat → Int} {a b : Int} (h : ∀ e, e < 8 → sok (r e)) (ha : a = (if shy r - sly r < shx r - slx r then shy r - sly r else shx r - slx r) + 1) (hb : b = (if shx r - slx r < shy r - sly r then shy r - sly r else shx r - slx r) + 1) : sshC r a b = sshape r := by
  obtain ⟨⟨x1, x2, x3⟩, y1, y2, y3⟩ := sshape_rg h
  have ha2 : (shy r - sly r < shx r - slx r ∧ a = shy r - sly r + 1) ∨ (¬ shy r - sly r < shx r - slx r ∧ a = shx r - slx r + 1) := by rw [ha]; split <;> omega
  have hb2 : (shx r - slx r < shy r - sly r ∧ b = shy r - sly r + 1) ∨ (¬ shx r - slx r < shy r - sly r ∧ b = shx r - slx r + 1) := by rw [hb]; split <;> omega
  clear ha hb
  by_cases c4 : shx r - slx r = 3 ∧ shy r - sly r = 3
  · have ea : a = 4 := by omega
    have eb : b = 4 := by omega
    subst ea
    subst eb
    have e := sall_congr 8 fun d _ => sedge_4 (r := r) (by omega) (by omega) d
    have ef := scnt_full (fun d => sedge (r d) (slx r) (sly r) 4 == 1) 8
    rw [e] at ef
    rw [sshape_s (Or.inl rfl) c4.1 c4.2]
    unfold sshC shf
    rw [if_neg (by decide), if_neg (by decide)]
    by_cases hh : sall (shol r) 8 = true
    · rw [if_pos ⟨rfl, rfl, ef.mpr hh⟩, if_pos hh]
      rfl
    · rw [if_neg (fun hc => hh (ef.mp hc.2.2)), if_neg (fun hc => absurd hc.1 (by decide)), if_neg hh]
      rfl
  · by_cases c3 : shx r - slx r = 2 ∧ shy r - sly r = 2
    · have ea : a = 3 := by omega
      have eb : b = 3 := by omega
      subst ea
      subst eb
      have e := sall_congr 8 fun d _ => sedge_3 (r := r) (by omega) (by omega) d
      have ef := scnt_none (fun d => sedge (r d) (slx r) (sly r) 3 == 0) 8
      rw [e] at ef
      rw [sshape_s (Or.inr rfl) c3.1 c3.2]
      unfold sshC shf
      rw [if_neg (by decide), if_neg (by decide), if_neg (fun hc => absurd hc.1 (by decide))]
      by_cases hh : sall (shol r) 8 = true
      · rw [if_pos ⟨rfl, rfl, ef.mpr hh⟩, if_pos hh]
        rfl
      · rw [if_neg (fun hc => hh (ef.mp hc.2.2)), if_neg hh]
        rfl
    · have e0 : (if shx r - slx r + 1 ≠ shy r - sly r + 1 ∨ shf r = 0 ∨ shx r - slx r + 1 < 3 ∨ 4 < shx r - slx r + 1 then (0 : Int) else if shx r - slx r + 1 = 4 then 3 else 4) = 0 := by
        by_cases ew : shx r - slx r + 1 ≠ shy r - sly r + 1
        · rw [if_pos (Or.inl ew)]
        · rw [if_pos (Or.inr (Or.inr (by omega)))]
      have e3 : ¬ (a = 4 ∧ b = 4 ∧ scnt (fun d => sedge (r d) (slx r) (sly r) 4 == 1) 8 = 8) := fun hc => by omega
      have e4 : ¬ (a = 3 ∧ b = 3 ∧ scnt (fun d => sedge (r d) (slx r) (sly r) 3 == 0) 8 = 0) := fun hc => by omega
      unfold sshape
      rw [e0]
      unfold sshC
      simp only [if_neg e3, if_neg e4]
      clear e0 e3 e4
      have hA9 : 0 ≤ shx r - slx r ∧ shx r - slx r ≤ 9 := by omega
      have hB9 : 0 ≤ shy r - sly r ∧ shy r - sly r ≤ 9 := by omega
      generalize shx r - slx r = A at *
      generalize shy r - sly r = B at *
      rcases (show A = 0 ∨ A = 1 ∨ A = 2 ∨ A = 3 ∨ A = 4 ∨ A = 5 ∨ A = 6 ∨ A = 7 ∨ A = 8 ∨ A = 9 by omega) with e | e | e | e | e | e | e | e | e | e <;> subst e <;> (repeat' split) <;> omega
theorem shol_s {r : Nat → Int} {d : Nat} {a b s : Int} (ha : (a = 1 ∧ (sX (r d) = slx r ∨ sX (r d) = shx r)) ∨ (a = 0 ∧ ¬ (sX (r d) = slx r ∨ sX (r d) = shx r))) (hb : (b = 1 ∧ (sY (r d) = sly r ∨ sY (r d) = shy r)) ∨ (b = 0 ∧ ¬ (sY (r d) = sly r ∨ sY (r d) = shy r))) (hs : s = if sall (shol r) d = true then 1 else 0) : (if s = 1 ∧ ((shx r - slx r + 1 = 4 ∧ a ≠ b) ∨ (shx r - slx r + 1 ≠ 4 ∧ (a = 1 ∨ b = 1))) then (1 : Int) else 0) = if sall (shol r) (d + 1) = true then 1 else 0 := by
  have e1 : sall (shol r) (d + 1) = (sall (shol r) d && shol r d) := rfl
  have e2 : shol r d = if shx r - slx r + 1 = 4 then (decide (sX (r d) = slx r ∨ sX (r d) = shx r) != decide (sY (r d) = sly r ∨ sY (r d) = shy r)) else (decide (sX (r d) = slx r ∨ sX (r d) = shx r) || decide (sY (r d) = sly r ∨ sY (r d) = shy r)) := rfl
  rw [e1, e2, hs]
  generalize sall (shol r) d = bb
  generalize shx r - slx r + 1 = W
  have hd : ∀ {p : Prop} [Decidable p], p → decide p = true := fun h => decide_eq_true h
  have hn : ∀ {p : Prop} [Decidable p], ¬ p → decide p = false := fun h => decide_eq_false h
  rcases ha with ⟨rfl, hA⟩ | ⟨rfl, hA⟩ <;> rcases hb with ⟨rfl, hB⟩ | ⟨rfl, hB⟩
  · rw [hd hA, hd hB]
    by_cases h4 : W = 4 <;> cases bb <;> simp [h4]
  · rw [hd hA, hn hB]
    by_cases h4 : W = 4 <;> cases bb <;> simp [h4]
  · rw [hn hA, hd hB]
    by_cases h4 : W = 4 <;> cases bb <;> simp [h4]
  · rw [hn hA, hn hB]
    by_cases h4 : W = 4 <;> cases bb <;> simp [h4]
