/-! Dancing, told once for both sides. A place is 4 * (10 * y + x) + facing. -/
def sX (p : Int) : Int := p / 4 % 10
def sY (p : Int) : Int := p / 40
def sF (p : Int) : Int := p % 4
def sdx (w : Int) : Int := if w = 1 then 1 else if w = 3 then -1 else 0
def sdy (w : Int) : Int := if w = 0 then 1 else if w = 2 then -1 else 0
def sok (p : Int) : Prop := 0 ≤ p ∧ p < 400
theorem sX_rg {p : Int} (h : sok p) : 0 ≤ sX p ∧ sX p ≤ 9 := by unfold sX; unfold sok at h; omega
theorem sY_rg {p : Int} (h : sok p) : 0 ≤ sY p ∧ sY p ≤ 9 := by unfold sY; unfold sok at h; omega
theorem sF_rg (p : Int) : 0 ≤ sF p ∧ sF p ≤ 3 := by unfold sF; omega
theorem s_eq (p : Int) : p = 4 * (10 * sY p + sX p) + sF p := by unfold sX sY sF; omega
theorem sX_mk {x y f : Int} (hx : 0 ≤ x ∧ x ≤ 9) (hf : 0 ≤ f ∧ f ≤ 3) : sX (4 * (10 * y + x) + f) = x := by unfold sX; omega
theorem sY_mk {x y f : Int} (hx : 0 ≤ x ∧ x ≤ 9) (hf : 0 ≤ f ∧ f ≤ 3) : sY (4 * (10 * y + x) + f) = y := by unfold sY; omega
theorem sF_mk {x y f : Int} (hf : 0 ≤ f ∧ f ≤ 3) : sF (4 * (10 * y + x) + f) = f := by unfold sF; omega
theorem s_spot (p : Int) : p / 4 = 10 * sY p + sX p := by unfold sX sY; omega
theorem sdx_rg (w : Int) : -1 ≤ sdx w ∧ sdx w ≤ 1 := by unfold sdx; split; omega; split <;> omega
theorem sdy_rg (w : Int) : -1 ≤ sdy w ∧ sdy w ≤ 1 := by unfold sdy; split; omega; split <;> omega
/-- one step in a direction, or -1 off the floor -/
def sgo (p w : Int) : Int := if 0 ≤ sX p + sdx w ∧ sX p + sdx w ≤ 9 ∧ 0 ≤ sY p + sdy w ∧ sY p + sdy w ≤ 9 then p + 4 * (10 * sdy w + sdx w) else -1
/-- which way an atom goes from a facing -/
def sway (f a : Int) : Int := (if a = 1 then f else if a = 2 then f + 2 else if a = 3 then f + 3 else f + 1) % 4
def smv (p a : Int) : Int := if 1 ≤ a ∧ a ≤ 4 then sgo p (sway (sF p) a) else if a = 5 then 4 * (p / 4) + (p + 3) % 4 else if a = 6 then 4 * (p / 4) + (p + 1) % 4 else p
theorem sgo_ok {p w : Int} (h : sok p) : sgo p w = -1 ∨ (sok (sgo p w) ∧ sX (sgo p w) = sX p + sdx w ∧ sY (sgo p w) = sY p + sdy w ∧ sF (sgo p w) = sF p) := by
  unfold sgo
  split
  · rename_i h1
    right
    have e := s_eq p
    have hf := sF_rg p
    have h2 : p + 4 * (10 * sdy w + sdx w) = 4 * (10 * (sY p + sdy w) + (sX p + sdx w)) + sF p := by omega
    rw [h2]
    refine ⟨?_, sX_mk (by omega) hf, sY_mk (by omega) hf, sF_mk hf⟩
    unfold sok
    omega
  · left; rfl
theorem smv_ok {p a : Int} (h : sok p) : smv p a = -1 ∨ sok (smv p a) := by
  unfold smv
  split
  · rcases sgo_ok (w := sway (sF p) a) h with h1 | h1
    · exact Or.inl h1
    · exact Or.inr h1.1
  · right
    unfold sok at h ⊢
    split
    · omega
    · split
      · omega
      · omega
/-- the class's way to tell that a step leaves the floor -/
theorem sgo_cls {p w : Int} (h : sok p) (hw : 0 ≤ w ∧ w ≤ 3) : sgo p w = if (if w = 0 then p / 4 / 10 = 9 else if w = 1 then p / 4 % 10 = 9 else if w = 2 then p / 4 / 10 = 0 else p / 4 % 10 = 0) then -1 else p + 4 * (if w = 0 then 10 else if w = 1 then 1 else if w = 2 then -10 else -1) := by
  unfold sok at h
  have e : p / 4 / 10 = p / 40 := by omega
  unfold sgo sX sY sdx sdy
  rw [e]
  rcases (show w = 0 ∨ w = 1 ∨ w = 2 ∨ w = 3 by omega) with rfl | rfl | rfl | rfl
  · simp only [if_true, if_false, Int.reduceEq, ite_true, ite_false]
    split <;> split <;> first | omega | rfl
  · simp only [if_true, if_false, Int.reduceEq]
    split <;> split <;> first | omega | rfl
  · simp only [if_true, if_false, Int.reduceEq]
    split <;> split <;> first | omega | rfl
  · simp only [if_true, if_false, Int.reduceEq]
    split <;> split <;> first | omega | rfl
/-! Sums, counts, masks. -/
def ssum (g : Nat → Int) : Nat → Int
  | 0 => 0
  | k + 1 => ssum g k + g k
def scnt (P : Nat → Bool) : Nat → Int
  | 0 => 0
  | k + 1 => scnt P k + if P k = true then 1 else 0
def smk (P : Nat → Bool) : Nat → Int
  | 0 => 0
  | k + 1 => smk P k + if P k = true then ((2 ^ k : Nat) : Int) else 0
theorem scnt_rg (P : Nat → Bool) (k : Nat) : 0 ≤ scnt P k ∧ scnt P k ≤ k := by
  induction k with
  | zero => simp [scnt]
  | succ k ih => simp only [scnt]; split <;> omega
theorem ssum_rg {g : Nat → Int} {lo hi : Int} (h : ∀ e, lo ≤ g e ∧ g e ≤ hi) (k : Nat) : (k : Int) * lo ≤ ssum g k ∧ ssum g k ≤ (k : Int) * hi := by
  induction k with
  | zero => simp [ssum]
  | succ k ih =>
    simp only [ssum]
    have := h k
    have e1 : ((k + 1 : Nat) : Int) * lo = k * lo + lo := by rw [Int.natCast_succ, Int.add_mul, Int.one_mul]
    have e2 : ((k + 1 : Nat) : Int) * hi = k * hi + hi := by rw [Int.natCast_succ, Int.add_mul, Int.one_mul]
    rw [e1, e2]
    omega
theorem smk_rg (P : Nat → Bool) (k : Nat) : 0 ≤ smk P k ∧ smk P k < ((2 ^ k : Nat) : Int) := by
  induction k with
  | zero => simp [smk]
  | succ k ih =>
    simp only [smk, Nat.pow_succ]
    split <;> omega
theorem smk_congr {P P' : Nat → Bool} : ∀ k, (∀ d, d < k → P d = P' d) → smk P k = smk P' k := by
  intro k
  induction k with
  | zero => intro _; rfl
  | succ k ih => intro h; simp only [smk]; rw [ih (fun d hd => h d (by omega)), h k (by omega)]
/-- a mask's bit -/
def sbit (m : Int) (d : Nat) : Bool := m / ((2 ^ d : Nat) : Int) % 2 == 1
theorem sbit_mk (P : Nat → Bool) : ∀ k d, d < k → sbit (smk P k) d = P d := by
  intro k
  induction k with
  | zero => intro d h; omega
  | succ k ih =>
    intro d h
    have hr := smk_rg P k
    have hp : (0 : Int) < ((2 ^ d : Nat) : Int) := by have := Nat.two_pow_pos d; omega
    have e0 : smk P (k + 1) = smk P k + if P k = true then ((2 ^ k : Nat) : Int) else 0 := rfl
    by_cases hd : d = k
    · subst hd
      unfold sbit
      rw [e0]
      by_cases hP : P d = true
      · have : (smk P d + ((2 ^ d : Nat) : Int)) / ((2 ^ d : Nat) : Int) = 1 := by
          rw [Int.add_ediv_of_dvd_right (Int.dvd_refl _), Int.ediv_eq_zero_of_lt hr.1 hr.2, Int.ediv_self (by omega)]; rfl
        rw [if_pos hP, hP, this]; rfl
      · rw [if_neg hP, Int.add_zero, Int.ediv_eq_zero_of_lt hr.1 hr.2]
        cases hq : P d with
        | true => exact absurd hq hP
        | false => rfl
    · rw [← ih d (by omega), e0]
      unfold sbit
      by_cases hP : P k = true
      · obtain ⟨j, hj⟩ : ∃ j, k = d + 1 + j := ⟨k - d - 1, by omega⟩
        have e : ((2 ^ k : Nat) : Int) = ((2 ^ d : Nat) : Int) * (2 * ((2 ^ j : Nat) : Int)) := by
          rw [hj, Nat.pow_add, Nat.pow_succ]; simp only [Int.natCast_mul]; rw [Int.mul_assoc]; rfl
        rw [if_pos hP, e, Int.add_mul_ediv_left _ _ (by omega)]
        congr 1
        omega
      · rw [if_neg hP, Int.add_zero]
def sall (P : Nat → Bool) : Nat → Bool
  | 0 => true
  | k + 1 => sall P k && P k
def sany (P : Nat → Bool) : Nat → Bool
  | 0 => false
  | k + 1 => sany P k || P k
theorem sall_iff (P : Nat → Bool) (k : Nat) : sall P k = true ↔ ∀ j, j < k → P j = true := by
  induction k with
  | zero => simp [sall]
  | succ k ih =>
    simp only [sall, Bool.and_eq_true, ih]
    refine ⟨fun h j hj => ?_, fun h => ⟨fun j hj => h j (by omega), h k (by omega)⟩⟩
    by_cases e : j = k
    · subst e; exact h.2
    · exact h.1 j (by omega)
theorem sany_iff (P : Nat → Bool) (k : Nat) : sany P k = true ↔ ∃ j, j < k ∧ P j = true := by
  induction k with
  | zero => simp [sany]
  | succ k ih =>
    simp only [sany, Bool.or_eq_true, ih]
    constructor
    · rintro (⟨j, hj, h⟩ | h)
      · exact ⟨j, by omega, h⟩
      · exact ⟨k, by omega, h⟩
    · rintro ⟨j, hj, h⟩
      by_cases e : j = k
      · subst e; exact Or.inr h
      · exact Or.inl ⟨j, by omega, h⟩
/-! Whom a selector has. -/
def sfar (r : Nat → Int) (d : Nat) : Int := 100 * ((8 * sX (r d) - ssum (fun e => sX (r e)) 8) * (8 * sX (r d) - ssum (fun e => sX (r e)) 8) + (8 * sY (r d) - ssum (fun e => sY (r e)) 8) * (8 * sY (r d) - ssum (fun e => sY (r e)) 8)) + (10 * sY (r d) + sX (r d))
def scen (r : Nat → Int) (d : Nat) : Bool := decide (scnt (fun e => decide (sfar r e < sfar r d)) 8 < 4)
def slies (p q w : Int) : Bool := decide ((sX q - sX p) * sdy w = (sY q - sY p) * sdx w) && decide (0 < (sX q - sX p) * sdx w + (sY q - sY p) * sdy w)
def salone (r : Nat → Int) (t : Int) (d : Nat) : Bool := sall (fun e => !slies (r d) (r e) ((sF (r d) + t) % 4)) 8
def shas (s : Int) (r : Nat → Int) (d : Nat) : Bool := if s = 0 then true else if s = 1 then d % 2 == 0 else if s = 2 then d % 2 == 1 else if s = 3 then decide (d % 4 < 2) else if s = 4 then decide (2 ≤ d % 4) else if s = 9 then scen r d else if s = 10 then !scen r d else if s = 11 then salone r 0 d else if s = 12 then salone r 2 d else sF (r d) == s - 5
/-- what a dancer is told: the first part that has him -/
def sat (r : Nat → Int) : List (Int × Int) → Nat → Int
  | [], _ => 0
  | q :: l, d => if shas q.1 r d = true then q.2 else sat r l d
/-- nobody has told him yet -/
def sfree (r : Nat → Int) : List (Int × Int) → Nat → Bool
  | [], _ => true
  | q :: l, d => !shas q.1 r d && sfree r l d
theorem sat_app (r : Nat → Int) (l : List (Int × Int)) (q : Int × Int) (d : Nat) : sat r (l ++ [q]) d = if sfree r l d = true ∧ shas q.1 r d = true then q.2 else sat r l d := by
  induction l with
  | nil => simp [sat, sfree]
  | cons a l ih =>
    simp only [List.cons_append, sat, sfree, ih]
    by_cases h : shas a.1 r d = true
    · simp [h]
    · have h2 : shas a.1 r d = false := by cases hh : shas a.1 r d with
        | true => exact absurd hh h
        | false => rfl
      simp [h2]
theorem sfree_app (r : Nat → Int) (l : List (Int × Int)) (q : Int × Int) (d : Nat) : sfree r (l ++ [q]) d = (sfree r l d && !shas q.1 r d) := by
  induction l with
  | nil => simp [sfree]
  | cons a l ih =>
    simp only [List.cons_append, sfree, ih, Bool.and_assoc]
def sexch (a : Int) : Int := if a = 0 then 0 else if a % 2 = 1 then a + 1 else a - 1
/-! A beat: what goes wrong. -/
def slook (p q t : Int) : Bool := (sX p + sdx ((sF p + t) % 4) == sX q) && (sY p + sdy ((sF p + t) % 4) == sY q)
def scr (p q p' q' : Int) : Bool := (p' / 4 == q / 4) && (q' / 4 == p / 4) && !(slook p q 0 && slook q p 0 || slook p q 2 && slook q p 2)
def sleave (r' : Nat → Int) : Bool := sany (fun d => r' d == -1) 8
def smeet (r' : Nat → Int) : Bool := sany (fun a => sany (fun b => decide (a < b) && (r' a / 4 == r' b / 4)) 8) 8
def scross (r r' : Nat → Int) : Bool := sany (fun a => sany (fun b => decide (a < b) && scr (r a) (r b) (r' a) (r' b)) 8) 8
def sclash (r r' : Nat → Int) : Int := if sleave r' = true then 1 else if smeet r' = true then 2 else if scross r r' = true then 3 else 0
/-! A call. -/
abbrev sB := Int × List (Int × Int)
def snext (bt : List sB) (back : Bool) (R : List (Nat → Int)) (i : Nat) (d : Nat) : Int := smv (R.getD i (fun _ => 0) d) (if back = true then sexch (sat (R.getD 0 (fun _ => 0)) (bt.getD (bt.length - 1 - i) (0, [])).2 d) else sat (R.getD (bt.getD i (0, [])).1.toNat (fun _ => 0)) (bt.getD i (0, [])).2 d)
def srows (bt : List sB) (back : Bool) (r0 : Nat → Int) : Nat → List (Nat → Int)
  | 0 => [r0]
  | i + 1 => srows bt back r0 i ++ [snext bt back (srows bt back r0 i) i]
def srow (bt : List sB) (back : Bool) (r0 : Nat → Int) (i : Nat) : Nat → Int := (srows bt back r0 i).getD i (fun _ => 0)
def sres (bt : List sB) (back : Bool) (r0 : Nat → Int) : Nat → Int
  | 0 => 0
  | i + 1 => if sres bt back r0 i ≠ 0 then sres bt back r0 i else if sclash (srow bt back r0 i) (srow bt back r0 (i + 1)) ≠ 0 then 10 * (i + 1) + sclash (srow bt back r0 i) (srow bt back r0 (i + 1)) else 0
theorem srows_len (bt : List sB) (back : Bool) (r0 : Nat → Int) (i : Nat) : (srows bt back r0 i).length = i + 1 := by
  induction i with
  | zero => rfl
  | succ i ih => simp only [srows, List.length_append, ih, List.length_singleton]
theorem srows_at (bt : List sB) (back : Bool) (r0 : Nat → Int) : ∀ i j, j ≤ i → (srows bt back r0 i).getD j (fun _ => 0) = srow bt back r0 j := by
  intro i
  induction i with
  | zero => intro j hj; have : j = 0 := by omega
            subst this; rfl
  | succ i ih =>
    intro j hj
    by_cases e : j = i + 1
    · subst e; rfl
    · rw [← ih j (by omega)]
      simp only [srows]
      rw [List.getD_eq_getElem?_getD, List.getElem?_append_left (by rw [srows_len]; omega), ← List.getD_eq_getElem?_getD]
theorem srow_s (bt : List sB) (back : Bool) (r0 : Nat → Int) (i : Nat) : srow bt back r0 (i + 1) = snext bt back (srows bt back r0 i) i := by
  unfold srow
  simp only [srows]
  rw [List.getD_eq_getElem?_getD, List.getElem?_append_right (by rw [srows_len]; omega), srows_len]
  simp
