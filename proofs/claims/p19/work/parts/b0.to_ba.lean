section
/-! Dancing, told once for both sides. A place is 4 * (10 * y + x) + facing. -/
def sX (p : Int) : Int := p / 4 % 10
def sY (p : Int) : Int := p / 40
def sF (p : Int) : Int := p % 4
def sdx (w : Int) : Int := if w = 1 then 1 else if w = 3 then -1 else 0
def sdy (w : Int) : Int := if w = 0 then 1 else if w = 2 then -1 else 0
def sok (p : Int) : Prop := 0 ≤ p ∧ p < 400
theorem sX_rg {p : Int} (h : sok p) : 0 ≤ sX p ∧ sX p ≤ 9 := by unfold sX; unfold sok at h; omega
theorem sY_rg {p : Int} (h : sok p) : 0 ≤ sY p ∧ sY p ≤ 9 := by unfold sY; unfold sok at h; omega
theorem sF_rg (p : Int) : 0 ≤ sF p ∧ sF p ≤ 3 := by unfold sF; omega
theorem s_eq (p : Int) : p = 4 * (10 * sY p + sX p) + sF p := by unfold sX sY sF; omega
theorem sX_mk {x y f : Int} (hx : 0 ≤ x ∧ x ≤ 9) (hf : 0 ≤ f ∧ f ≤ 3) : sX (4 * (10 * y + x) + f) = x := by unfold sX; omega
theorem sY_mk {x y f : Int} (hx : 0 ≤ x ∧ x ≤ 9) (hf : 0 ≤ f ∧ f ≤ 3) : sY (4 * (10 * y + x) + f) = y := by unfold sY; omega
theorem sF_mk {x y f : Int} (hf : 0 ≤ f ∧ f ≤ 3) : sF (4 * (10 * y + x) + f) = f := by unfold sF; omega
theorem s_spot (p : Int) : p / 4 = 10 * sY p + sX p := by unfold sX sY; omega
theorem sdx_rg (w : Int) : -1 ≤ sdx w ∧ sdx w ≤ 1 := by unfold sdx; split; omega; split <;> omega
theorem sdy_rg (w : Int) : -1 ≤ sdy w ∧ sdy w ≤ 1 := by unfold sdy; split; omega; split <;> omega
/-- one step in a direction, or -1 off the floor -/
def sgo (p w : Int) : Int := if 0 ≤ sX p + sdx w ∧ sX p + sdx w ≤ 9 ∧ 0 ≤ sY p + sdy w ∧ sY p + sdy w ≤ 9 then p + 4 * (10 * sdy w + sdx w) else -1
/-- which way an atom goes from a facing -/
def sway (f a : Int) : Int := (if a = 1 then f else if a = 2 then f + 2 else if a = 3 then f + 3 else f + 1) % 4
def smv (p a : Int) : Int := if 1 ≤ a ∧ a ≤ 4 then sgo p (sway (sF p) a) else if a = 5 then 4 * (p / 4) + (p + 3) % 4 else if a = 6 then 4 * (p / 4) + (p + 1) % 4 else p
theorem sgo_ok {p w : Int} (h : sok p) : sgo p w = -1 ∨ (sok (sgo p w) ∧ sX (sgo p w) = sX p + sdx w ∧ sY (sgo p w) = sY p + sdy w ∧ sF (sgo p w) = sF p) := by
  unfold sgo
  split
  · rename_i h1
    right
    have e := s_eq p
    have hf := sF_rg p
    have h2 : p + 4 * (10 * sdy w + sdx w) = 4 * (10 * (sY p + sdy w) + (sX p + sdx w)) + sF p := by omega
    rw [h2]
    refine ⟨?_, sX_mk (by omega) hf, sY_mk (by omega) hf, sF_mk hf⟩
    unfold sok
    omega
  · left; rfl
theorem smv_ok {p a : Int} (h : sok p) : smv p a = -1 ∨ sok (smv p a) := by
  unfold smv
  split
  · rcases sgo_ok (w := sway (sF p) a) h with h1 | h1
    · exact Or.inl h1
    · exact Or.inr h1.1
  · right
    unfold sok at h ⊢
    split
    · omega
    · split
      · omega
      · omega
/-- the class's way to tell that a step leaves the floor -/
theorem sgo_cls {p w : Int} (h : sok p) (hw : 0 ≤ w ∧ w ≤ 3) : sgo p w = if (if w = 0 then p / 4 / 10 = 9 else if w = 1 then p / 4 % 10 = 9 else if w = 2 then p / 4 / 10 = 0 else p / 4 % 10 = 0) then -1 else p + 4 * (if w = 0 then 10 else if w = 1 then 1 else if w = 2 then -10 else -1) := by
  unfold sok at h
  have e : p / 4 / 10 = p / 40 := by omega
  unfold sgo sX sY sdx sdy
  rw [e]
  rcases (show w = 0 ∨ w = 1 ∨ w = 2 ∨ w = 3 by omega) with rfl | rfl | rfl | rfl
  · simp only [if_true, if_false, Int.reduceEq, ite_true, ite_false]
    split <;> split <;> first | omega | rfl
  · simp only [if_true, if_false, Int.reduceEq]
    split <;> split <;> first | omega | rfl
  · simp only [if_true, if_false, Int.reduceEq]
    split <;> split <;> first | omega | rfl
  · simp only [if_true, if_false, Int.reduceEq]
    split <;> split <;> first | omega | rfl
/-! Sums, counts, masks. -/
def ssum (g : Nat → Int) : Nat → Int
  | 0 => 0
  | k + 1 => ssum g k + g k
def scnt (P : Nat → Bool) : Nat → Int
  | 0 => 0
  | k + 1 => scnt P k + if P k = true then 1 else 0
def smk (P : Nat → Bool) : Nat → Int
  | 0 => 0
  | k + 1 => smk P k + if P k = true then ((2 ^ k : Nat) : Int) else 0
theorem scnt_rg (P : Nat → Bool) (k : Nat) : 0 ≤ scnt P k ∧ scnt P k ≤ k := by
  induction k with
  | zero => simp [scnt]
  | succ k ih => simp only [scnt]; split <;> omega
theorem ssum_rg {g : Nat → Int} {lo hi : Int} (h : ∀ e, lo ≤ g e ∧ g e ≤ hi) (k : Nat) : (k : Int) * lo ≤ ssum g k ∧ ssum g k ≤ (k : Int) * hi := by
  induction k with
  | zero => simp [ssum]
  | succ k ih =>
    simp only [ssum]
    have := h k
    have e1 : ((k + 1 : Nat) : Int) * lo = k * lo + lo := by rw [Int.natCast_succ, Int.add_mul, Int.one_mul]
    have e2 : ((k + 1 : Nat) : Int) * hi = k * hi + hi := by rw [Int.natCast_succ, Int.add_mul, Int.one_mul]
    rw [e1, e2]
    omega
theorem smk_rg (P : Nat → Bool) (k : Nat) : 0 ≤ smk P k ∧ smk P k < ((2 ^ k : Nat) : Int) := by
  induction k with
  | zero => simp [smk]
  | succ k ih =>
    simp only [smk, Nat.pow_succ]
    split <;> omega
theorem smk_congr {P P' : Nat → Bool} : ∀ k, (∀ d, d < k → P d = P' d) → smk P k = smk P' k := by
  intro k
  induction k with
  | zero => intro _; rfl
  | succ k ih => intro h; simp only [smk]; rw [ih (fun d hd => h d (by omega)), h k (by omega)]
/-- a mask's bit -/
def sbit (m : Int) (d : Nat) : Bool := m / ((2 ^ d : Nat) : Int) % 2 == 1
theorem sbit_mk (P : Nat → Bool) : ∀ k d, d < k → sbit (smk P k) d = P d := by
  intro k
  induction k with
  | zero => intro d h; omega
  | succ k ih =>
    intro d h
    have hr := smk_rg P k
    have hp : (0 : Int) < ((2 ^ d : Nat) : Int) := by have := Nat.two_pow_pos d; omega
    have e0 : smk P (k + 1) = smk P k + if P k = true then ((2 ^ k : Nat) : Int) else 0 := rfl
    by_cases hd : d = k
    · subst hd
      unfold sbit
      rw [e0]
      by_cases hP : P d = true
      · have : (smk P d + ((2 ^ d : Nat) : Int)) / ((2 ^ d : Nat) : Int) = 1 := by
          rw [Int.add_ediv_of_dvd_right (Int.dvd_refl _), Int.ediv_eq_zero_of_lt hr.1 hr.2, Int.ediv_self (by omega)]; rfl
        rw [if_pos hP, hP, this]; rfl
      · rw [if_neg hP, Int.add_zero, Int.ediv_eq_zero_of_lt hr.1 hr.2]
        cases hq : P d with
        | true => exact absurd hq hP
        | false => rfl
    · rw [← ih d (by omega), e0]
      unfold sbit
      by_cases hP : P k = true
      · obtain ⟨j, hj⟩ : ∃ j, k = d + 1 + j := ⟨k - d - 1, by omega⟩
        have e : ((2 ^ k : Nat) : Int) = ((2 ^ d : Nat) : Int) * (2 * ((2 ^ j : Nat) : Int)) := by
          rw [hj, Nat.pow_add, Nat.pow_succ]; simp only [Int.natCast_mul]; rw [Int.mul_assoc]; rfl
        rw [if_pos hP, e, Int.add_mul_ediv_left _ _ (by omega)]
        congr 1
        omega
      · rw [if_neg hP, Int.add_zero]
def sall (P : Nat → Bool) : Nat → Bool
  | 0 => true
  | k + 1 => sall P k && P k
def sany (P : Nat → Bool) : Nat → Bool
  | 0 => false
  | k + 1 => sany P k || P k
theorem sall_iff (P : Nat → Bool) (k : Nat) : sall P k = true ↔ ∀ j, j < k → P j = true := by
  induction k with
  | zero => simp [sall]
  | succ k ih =>
    simp only [sall, Bool.and_eq_true, ih]
    refine ⟨fun h j hj => ?_, fun h => ⟨fun j hj => h j (by omega), h k (by omega)⟩⟩
    by_cases e : j = k
    · subst e; exact h.2
    · exact h.1 j (by omega)
theorem sany_iff (P : Nat → Bool) (k : Nat) : sany P k = true ↔ ∃ j, j < k ∧ P j = true := by
  induction k with
  | zero => simp [sany]
  | succ k ih =>
    simp only [sany, Bool.or_eq_true, ih]
    constructor
    · rintro (⟨j, hj, h⟩ | h)
      · exact ⟨j, by omega, h⟩
      · exact ⟨k, by omega, h⟩
    · rintro ⟨j, hj, h⟩
      by_cases e : j = k
      · subst e; exact Or.inr h
      · exact Or.inl ⟨j, by omega, h⟩
/-! Whom a selector has. -/
def sfar (r : Nat → Int) (d : Nat) : Int := 100 * ((8 * sX (r d) - ssum (fun e => sX (r e)) 8) * (8 * sX (r d) - ssum (fun e => sX (r e)) 8) + (8 * sY (r d) - ssum (fun e => sY (r e)) 8) * (8 * sY (r d) - ssum (fun e => sY (r e)) 8)) + (10 * sY (r d) + sX (r d))
def scen (r : Nat → Int) (d : Nat) : Bool := decide (scnt (fun e => decide (sfar r e < sfar r d)) 8 < 4)
def slies (p q w : Int) : Bool := decide ((sX q - sX p) * sdy w = (sY q - sY p) * sdx w) && decide (0 < (sX q - sX p) * sdx w + (sY q - sY p) * sdy w)
def salone (r : Nat → Int) (t : Int) (d : Nat) : Bool := sall (fun e => !slies (r d) (r e) ((sF (r d) + t) % 4)) 8
def shas (s : Int) (r : Nat → Int) (d : Nat) : Bool := if s = 0 then true else if s = 1 then d % 2 == 0 else if s = 2 then d % 2 == 1 else if s = 3 then decide (d % 4 < 2) else if s = 4 then decide (2 ≤ d % 4) else if s = 9 then scen r d else if s = 10 then !scen r d else if s = 11 then salone r 0 d else if s = 12 then salone r 2 d else sF (r d) == s - 5
/-- what a dancer is told: the first part that has him -/
def sat (r : Nat → Int) : List (Int × Int) → Nat → Int
  | [], _ => 0
  | q :: l, d => if shas q.1 r d = true then q.2 else sat r l d
/-- nobody has told him yet -/
def sfree (r : Nat → Int) : List (Int × Int) → Nat → Bool
  | [], _ => true
  | q :: l, d => !shas q.1 r d && sfree r l d
theorem sat_app (r : Nat → Int) (l : List (Int × Int)) (q : Int × Int) (d : Nat) : sat r (l ++ [q]) d = if sfree r l d = true ∧ shas q.1 r d = true then q.2 else sat r l d := by
  induction l with
  | nil => simp [sat, sfree]
  | cons a l ih =>
    simp only [List.cons_append, sat, sfree, ih]
    by_cases h : shas a.1 r d = true
    · simp [h]
    · have h2 : shas a.1 r d = false := by cases hh : shas a.1 r d with
        | true => exact absurd hh h
        | false => rfl
      simp [h2]
theorem sfree_app (r : Nat → Int) (l : List (Int × Int)) (q : Int × Int) (d : Nat) : sfree r (l ++ [q]) d = (sfree r l d && !shas q.1 r d) := by
  induction l with
  | nil => simp [sfree]
  | cons a l ih =>
    simp only [List.cons_append, sfree, ih, Bool.and_assoc]
def sexch (a : Int) : Int := if a = 0 then 0 else if a % 2 = 1 then a + 1 else a - 1
/-! A beat: what goes wrong. -/
def slook (p q t : Int) : Bool := (sX p + sdx ((sF p + t) % 4) == sX q) && (sY p + sdy ((sF p + t) % 4) == sY q)
def scr (p q p' q' : Int) : Bool := (p' / 4 == q / 4) && (q' / 4 == p / 4) && !(slook p q 0 && slook q p 0 || slook p q 2 && slook q p 2)
def sleave (r' : Nat → Int) : Bool := sany (fun d => r' d == -1) 8
def smeet (r' : Nat → Int) : Bool := sany (fun a => sany (fun b => decide (a < b) && (r' a / 4 == r' b / 4)) 8) 8
def scross (r r' : Nat → Int) : Bool := sany (fun a => sany (fun b => decide (a < b) && scr (r a) (r b) (r' a) (r' b)) 8) 8
def sclash (r r' : Nat → Int) : Int := if sleave r' = true then 1 else if smeet r' = true then 2 else if scross r r' = true then 3 else 0
/-! A call. -/
abbrev sB := Int × List (Int × Int)
def snext (bt : List sB) (back : Bool) (R : List (Nat → Int)) (i : Nat) (d : Nat) : Int := smv (R.getD i (fun _ => 0) d) (if back = true then sexch (sat (R.getD 0 (fun _ => 0)) (bt.getD (bt.length - 1 - i) (0, [])).2 d) else sat (R.getD (bt.getD i (0, [])).1.toNat (fun _ => 0)) (bt.getD i (0, [])).2 d)
def srows (bt : List sB) (back : Bool) (r0 : Nat → Int) : Nat → List (Nat → Int)
  | 0 => [r0]
  | i + 1 => srows bt back r0 i ++ [snext bt back (srows bt back r0 i) i]
def srow (bt : List sB) (back : Bool) (r0 : Nat → Int) (i : Nat) : Nat → Int := (srows bt back r0 i).getD i (fun _ => 0)
def sres (bt : List sB) (back : Bool) (r0 : Nat → Int) : Nat → Int
  | 0 => 0
  | i + 1 => if sres bt back r0 i ≠ 0 then sres bt back r0 i else if sclash (srow bt back r0 i) (srow bt back r0 (i + 1)) ≠ 0 then 10 * (i + 1) + sclash (srow bt back r0 i) (srow bt back r0 (i + 1)) else 0
theorem srows_len (bt : List sB) (back : Bool) (r0 : Nat → Int) (i : Nat) : (srows bt back r0 i).length = i + 1 := by
  induction i with
  | zero => rfl
  | succ i ih => simp only [srows, List.length_append, ih, List.length_singleton]
theorem srows_at (bt : List sB) (back : Bool) (r0 : Nat → Int) : ∀ i j, j ≤ i → (srows bt back r0 i).getD j (fun _ => 0) = srow bt back r0 j := by
  intro i
  induction i with
  | zero => intro j hj; have : j = 0 := by omega
            subst this; rfl
  | succ i ih =>
    intro j hj
    by_cases e : j = i + 1
    · subst e; rfl
    · rw [← ih j (by omega)]
      simp only [srows]
      rw [List.getD_eq_getElem?_getD, List.getElem?_append_left (by rw [srows_len]; omega), ← List.getD_eq_getElem?_getD]
theorem srow_s (bt : List sB) (back : Bool) (r0 : Nat → Int) (i : Nat) : srow bt back r0 (i + 1) = snext bt back (srows bt back r0 i) i := by
  unfold srow
  simp only [srows]
  rw [List.getD_eq_getElem?_getD, List.getElem?_append_right (by rw [srows_len]; omega), srows_len]
  simp
end
section
/-! Both sides' own ways to tell it. -/
theorem smv_near {p a : Int} (h : sok p) (hm : smv p a ≠ -1) : sok (smv p a) ∧ ((sX (smv p a) - sX p = 0 ∧ -1 ≤ sY (smv p a) - sY p ∧ sY (smv p a) - sY p ≤ 1) ∨ (sY (smv p a) - sY p = 0 ∧ -1 ≤ sX (smv p a) - sX p ∧ sX (smv p a) - sX p ≤ 1)) := by
  have h1 : sok (smv p a) := by
    rcases smv_ok (a := a) h with h1 | h1
    · exact absurd h1 hm
    · exact h1
  refine ⟨h1, ?_⟩
  unfold smv at hm ⊢
  split at hm
  · rename_i hc
    rw [if_pos hc]
    rcases sgo_ok (w := sway (sF p) a) h with h2 | ⟨-, h2, h3, -⟩
    · exact absurd h2 hm
    · rw [h2, h3]
      unfold sdx sdy
      repeat' split
      all_goals omega
  · rename_i hc
    rw [if_neg hc]
    have hf := sF_rg p
    unfold sX sY
    split
    · omega
    · split
      · omega
      · omega
theorem stride_iff {xa ya xb yb dx dy : Int} (hn : (xb - xa = 0 ∧ -1 ≤ yb - ya ∧ yb - ya ≤ 1) ∨ (yb - ya = 0 ∧ -1 ≤ xb - xa ∧ xb - xa ≤ 1)) (h1 : -1 ≤ dx ∧ dx ≤ 1) (h2 : -1 ≤ dy ∧ dy ≤ 1) : (10 * ya + xa + (10 * dy + dx) = 10 * yb + xb ↔ xa + dx = xb ∧ ya + dy = yb) := by
  constructor
  · intro h; omega
  · intro h; omega
def sstr (w : Int) : Int := 10 * sdy w + sdx w
theorem sdx_op (f : Int) (hf : 0 ≤ f ∧ f ≤ 3) : sdx ((f + 2) % 4) = - sdx f ∧ sdy ((f + 2) % 4) = - sdy f := by
  rcases (show f = 0 ∨ f = 1 ∨ f = 2 ∨ f = 3 by omega) with rfl | rfl | rfl | rfl <;> decide
theorem slook_f {p q : Int} (hn : (sX q - sX p = 0 ∧ -1 ≤ sY q - sY p ∧ sY q - sY p ≤ 1) ∨ (sY q - sY p = 0 ∧ -1 ≤ sX q - sX p ∧ sX q - sX p ≤ 1)) : (slook p q 0 = true ↔ p / 4 + sstr (sF p) = q / 4) ∧ (slook p q 2 = true ↔ p / 4 - sstr (sF p) = q / 4) := by
  have hf := sF_rg p
  have e0 : (sF p + 0) % 4 = sF p := by omega
  have h1 := sdx_rg (sF p)
  have h2 := sdy_rg (sF p)
  rw [s_spot p, s_spot q]
  unfold slook sstr
  rw [e0, (sdx_op (sF p) hf).1, (sdx_op (sF p) hf).2]
  simp only [Bool.and_eq_true, beq_iff_eq]
  constructor
  · exact (stride_iff hn h1 h2).symm
  · have := stride_iff (dx := -sdx (sF p)) (dy := -sdy (sF p)) hn (by omega) (by omega)
    rw [← this]
    constructor <;> intro h <;> omega
theorem spot_inj {p q : Int} (hp : sok p) (hq : sok q) : p / 4 = q / 4 ↔ sX p = sX q ∧ sY p = sY q := by
  rw [s_spot p, s_spot q]
  have := sX_rg hp
  have := sX_rg hq
  omega
/-- the class's crossing -/
theorem scr_cls {p q a b : Int} (hp : sok p) (hq : sok q) (ha : smv p a ≠ -1) (hb : smv q b ≠ -1) : scr p q (smv p a) (smv q b) = (decide (smv p a / 4 = q / 4 ∧ smv q b / 4 = p / 4) && !(decide (p / 4 + sstr (sF p) = q / 4 ∧ q / 4 + sstr (sF q) = p / 4) || decide (p / 4 - sstr (sF p) = q / 4 ∧ q / 4 - sstr (sF q) = p / 4))) := by
  obtain ⟨h1, h2⟩ := smv_near hp ha
  obtain ⟨h3, h4⟩ := smv_near hq hb
  unfold scr
  by_cases hs : smv p a / 4 = q / 4 ∧ smv q b / 4 = p / 4
  · obtain ⟨e1, e2⟩ := (spot_inj h1 hq).mp hs.1
    obtain ⟨e3, e4⟩ := (spot_inj h3 hp).mp hs.2
    rw [e1, e2] at h2
    rw [e3, e4] at h4
    obtain ⟨f1, f2⟩ := slook_f h2
    obtain ⟨f3, f4⟩ := slook_f h4
    rw [decide_eq_true hs, hs.1, hs.2, beq_self_eq_true, beq_self_eq_true]
    congr 1
    congr 1
    rw [Bool.eq_iff_iff]
    simp only [Bool.or_eq_true, Bool.and_eq_true, decide_eq_true_eq, f1, f2, f3, f4]
  · rw [decide_eq_false hs, Bool.false_and]
    cases h5 : (smv p a / 4 == q / 4) with
    | false => rfl
    | true =>
      cases h6 : (smv q b / 4 == p / 4) with
      | false => rfl
      | true => exact absurd ⟨beq_iff_eq.mp h5, beq_iff_eq.mp h6⟩ hs
/-- the class's 'lies towards' -/
theorem slies_cls {p q w : Int} (hw : 0 ≤ w ∧ w ≤ 3) : slies p q w = if w = 0 then decide (sX q - sX p = 0) && decide (0 < sY q - sY p) else if w = 1 then decide (sY q - sY p = 0) && decide (0 < sX q - sX p) else if w = 2 then decide (sX q - sX p = 0) && decide (sY q - sY p < 0) else decide (sY q - sY p = 0) && decide (sX q - sX p < 0) := by
  unfold slies sdx sdy
  rcases (show w = 0 ∨ w = 1 ∨ w = 2 ∨ w = 3 by omega) with rfl | rfl | rfl | rfl <;> simp only [Int.reduceEq, if_true, if_false] <;> rw [Bool.eq_iff_iff] <;> simp only [Bool.and_eq_true, decide_eq_true_eq] <;> omega
theorem slies_self (p w : Int) : slies p p w = false := by
  unfold slies
  simp
/-- the class's measure -/
theorem sfar_cls (r : Nat → Int) (d : Nat) : sfar r d = ((8 * sX (r d) - ssum (fun e => sX (r e)) 8) * (8 * sX (r d) - ssum (fun e => sX (r e)) 8) + (8 * sY (r d) - ssum (fun e => sY (r e)) 8) * (8 * sY (r d) - ssum (fun e => sY (r e)) 8)) * 10 * 10 + r d / 4 := by
  unfold sfar
  rw [s_spot]
  omega
theorem sfar_rg {r : Nat → Int} (h : ∀ e, e < 8 → sok (r e)) (d : Nat) (hd : d < 8) : 0 ≤ sfar r d ∧ sfar r d < 2000000 := by
  have hx := sX_rg (h d hd)
  have hy := sY_rg (h d hd)
  have sm : ∀ (g : Nat → Int), (∀ e, e < 8 → 0 ≤ g e ∧ g e ≤ 9) → 0 ≤ ssum g 8 ∧ ssum g 8 ≤ 72 := by
    intro g hg
    simp only [ssum]
    have := hg 0 (by omega); have := hg 1 (by omega); have := hg 2 (by omega); have := hg 3 (by omega)
    have := hg 4 (by omega); have := hg 5 (by omega); have := hg 6 (by omega); have := hg 7 (by omega)
    omega
  have h1 := sm (fun e => sX (r e)) (fun e he => sX_rg (h e he))
  have h2 := sm (fun e => sY (r e)) (fun e he => sY_rg (h e he))
  unfold sfar
  generalize ssum (fun e => sX (r e)) 8 = a at h1 ⊢
  generalize ssum (fun e => sY (r e)) 8 = b at h2 ⊢
  have sq : ∀ z : Int, -72 ≤ z → z ≤ 72 → 0 ≤ z * z ∧ z * z ≤ 5184 := by
    intro z h1 h2
    have h5 : ∀ n : Nat, n ≤ 72 → n * n ≤ 5184 := by
      intro n hn
      exact Nat.mul_le_mul hn hn
    have e : z * z = ((z.natAbs * z.natAbs : Nat) : Int) := (Int.natAbs_mul_self).symm
    have := h5 z.natAbs (by omega)
    rw [e]
    omega
  have q1 := sq (8 * sX (r d) - a) (by omega) (by omega)
  have q2 := sq (8 * sY (r d) - b) (by omega) (by omega)
  omega
end
section
/-! Masks of eight bits, as the machine has them. -/
theorem smk_all : ∀ m, m < 256 → smk (fun d => sbit ((m : Nat) : Int) d) 8 = ((m : Nat) : Int) := by decide +kernel
theorem smk_ext {m : Int} {P : Nat → Bool} (h : 0 ≤ m ∧ m < 256) (hb : ∀ d, d < 8 → sbit m d = P d) : m = smk P 8 := by
  obtain ⟨n, rfl⟩ := Int.eq_ofNat_of_zero_le h.1
  rw [← smk_all n (by omega)]
  exact smk_congr 8 hb
theorem sbit_nat (n d : Nat) : sbit (n : Nat) d = n.testBit d := by
  unfold sbit
  rw [Nat.testBit_eq_decide_div_mod_eq, Bool.eq_iff_iff]
  simp only [beq_iff_eq, decide_eq_true_eq]
  omega
theorem sm_and0 (a b : Nat) : (Int32.ofInt ((a : Nat) : Int) &&& Int32.ofInt ((b : Nat) : Int)) = Int32.ofInt ((a &&& b : Nat) : Int) := by
  apply Int32.toBitVec_inj.mp
  simp [Int32.toBitVec_and]
theorem sm_xor0 (a b : Nat) : (Int32.ofInt ((a : Nat) : Int) ^^^ Int32.ofInt ((b : Nat) : Int)) = Int32.ofInt ((a ^^^ b : Nat) : Int) := by
  apply Int32.toBitVec_inj.mp
  simp [Int32.toBitVec_xor]
theorem sm_or0 (a b : Nat) : (Int32.ofInt ((a : Nat) : Int) ||| Int32.ofInt ((b : Nat) : Int)) = Int32.ofInt ((a ||| b : Nat) : Int) := by
  apply Int32.toBitVec_inj.mp
  simp [Int32.toBitVec_or]
theorem sm_nat (P : Nat → Bool) : ∃ n : Nat, smk P 8 = (n : Int) ∧ n < 256 := by
  have := smk_rg P 8
  obtain ⟨n, hn⟩ := Int.eq_ofNat_of_zero_le this.1
  refine ⟨n, hn, ?_⟩
  rw [hn] at this
  have h2 : ((2 ^ 8 : Nat) : Int) = 256 := rfl
  omega
theorem sm_toInt {n : Nat} (h : n < 256) : (Int32.ofInt ((n : Nat) : Int)).toInt = ((n : Nat) : Int) := Int32.toInt_ofInt_of_le (by omega) (by omega)
theorem sm_and (P Q : Nat → Bool) : (Int32.ofInt (smk P 8) &&& Int32.ofInt (smk Q 8)) = Int32.ofInt (smk (fun d => P d && Q d) 8) := by
  obtain ⟨a, ha, ha2⟩ := sm_nat P
  obtain ⟨b, hb, hb2⟩ := sm_nat Q
  rw [ha, hb, sm_and0]
  congr 1
  refine smk_ext ⟨by omega, ?_⟩ (fun d hd => ?_)
  · have : a &&& b ≤ a := Nat.and_le_left
    omega
  · rw [sbit_nat, Nat.testBit_and, ← sbit_nat, ← sbit_nat, ← ha, ← hb, sbit_mk P 8 d hd, sbit_mk Q 8 d hd]
theorem sm_xor (P Q : Nat → Bool) : (Int32.ofInt (smk P 8) ^^^ Int32.ofInt (smk Q 8)) = Int32.ofInt (smk (fun d => P d != Q d) 8) := by
  obtain ⟨a, ha, ha2⟩ := sm_nat P
  obtain ⟨b, hb, hb2⟩ := sm_nat Q
  rw [ha, hb, sm_xor0]
  congr 1
  refine smk_ext ⟨by omega, ?_⟩ (fun d hd => ?_)
  · have : a ^^^ b < 2 ^ 8 := Nat.xor_lt_two_pow ha2 hb2
    have h2 : (2 ^ 8 : Nat) = 256 := rfl
    omega
  · rw [sbit_nat, Nat.testBit_xor, ← sbit_nat, ← sbit_nat, ← ha, ← hb, sbit_mk P 8 d hd, sbit_mk Q 8 d hd]
theorem sm_orbit0 : ∀ k, k < 8 → ∀ a, a < 2 ^ k → (Int32.ofInt ((a : Nat) : Int) ||| (Int32.ofInt 1 <<< (Int32.ofInt ((k : Nat) : Int) &&& 31))) = Int32.ofInt ((a + 2 ^ k : Nat) : Int) := by decide +kernel
/-- one bit more -/
theorem sm_orbit (P : Nat → Bool) {k : Nat} (hk : k < 8) : (Int32.ofInt (smk P k) ||| (Int32.ofInt 1 <<< (Int32.ofInt ((k : Nat) : Int) &&& 31))) = Int32.ofInt (smk P k + ((2 ^ k : Nat) : Int)) := by
  have hr := smk_rg P k
  obtain ⟨a, ha⟩ := Int.eq_ofNat_of_zero_le hr.1
  rw [ha] at hr ⊢
  rw [sm_orbit0 k hk a (by omega)]
  rfl
theorem sm_bit0 : ∀ m, m < 256 → ∀ d, d < 8 → ((Int32.ofInt ((m : Nat) : Int) >>> (Int32.ofInt ((d : Nat) : Int) &&& 31)) &&& Int32.ofInt 1) = Int32.ofInt (if sbit ((m : Nat) : Int) d = true then 1 else 0) := by decide +kernel
theorem sm_bit (P : Nat → Bool) {d : Nat} (hd : d < 8) : ((Int32.ofInt (smk P 8) >>> (Int32.ofInt ((d : Nat) : Int) &&& 31)) &&& Int32.ofInt 1) = Int32.ofInt (if P d = true then 1 else 0) := by
  obtain ⟨a, ha, ha2⟩ := sm_nat P
  have h := sm_bit0 a ha2 d hd
  rw [← ha, sbit_mk P 8 d hd] at h
  exact h
theorem sm_not0 : ∀ a, a < 256 → ∀ b, b < 256 → ((Int32.ofInt ((a : Nat) : Int)) &&& (Int32.ofInt ((b : Nat) : Int) ^^^ Int32.ofInt (-1))) = Int32.ofInt ((a ^^^ (a &&& b) : Nat) : Int) := by
  intro a ha b hb
  apply Int32.toBitVec_inj.mp
  apply BitVec.eq_of_getLsbD_eq
  intro i hi
  have e : (Int32.ofInt (-1)).toBitVec = BitVec.allOnes 32 := by decide
  rw [Int32.toBitVec_and, Int32.toBitVec_xor, e]
  simp only [BitVec.getLsbD_and, BitVec.getLsbD_xor, Int32.toBitVec_ofInt, BitVec.ofInt_natCast, BitVec.getLsbD_ofNat, BitVec.getLsbD_allOnes, Nat.testBit_xor, Nat.testBit_and, hi, decide_true, Bool.true_and]
  cases a.testBit i <;> cases b.testBit i <;> rfl
/-- the model's way to strike out -/
theorem sm_not (P Q : Nat → Bool) : (Int32.ofInt (smk P 8) &&& (Int32.ofInt (smk Q 8) ^^^ Int32.ofInt (-1))) = Int32.ofInt (smk (fun d => P d && !Q d) 8) := by
  obtain ⟨a, ha, ha2⟩ := sm_nat P
  obtain ⟨b, hb, hb2⟩ := sm_nat Q
  rw [ha, hb, sm_not0 a ha2 b hb2]
  congr 1
  refine smk_ext ⟨by omega, ?_⟩ (fun d hd => ?_)
  · have : a ^^^ (a &&& b) < 2 ^ 8 := Nat.xor_lt_two_pow ha2 (Nat.lt_of_le_of_lt Nat.and_le_left ha2)
    have h2 : (2 ^ 8 : Nat) = 256 := rfl
    omega
  · rw [sbit_nat, Nat.testBit_xor, Nat.testBit_and, ← sbit_nat, ← sbit_nat, ← ha, ← hb, sbit_mk P 8 d hd, sbit_mk Q 8 d hd]
    cases P d <;> cases Q d <;> rfl
/-- the model's alone: one dancer struck out of the mask -/
theorem sm_strike0 : ∀ a, a < 256 → ∀ k, k < 8 → (Int32.ofInt ((a : Nat) : Int) &&& ((Int32.ofInt 1 <<< (Int32.ofInt ((k : Nat) : Int) &&& 31)) ^^^ Int32.ofInt (-1))) = Int32.ofInt (smk (fun d => sbit ((a : Nat) : Int) d && !(d == k)) 8) := by decide +kernel
theorem sm_strike (P : Nat → Bool) {k : Nat} (hk : k < 8) : (Int32.ofInt (smk P 8) &&& ((Int32.ofInt 1 <<< (Int32.ofInt ((k : Nat) : Int) &&& 31)) ^^^ Int32.ofInt (-1))) = Int32.ofInt (smk (fun d => P d && !(d == k)) 8) := by
  obtain ⟨a, ha, ha2⟩ := sm_nat P
  have h := sm_strike0 a ha2 k hk
  rw [← ha] at h
  rw [h]
  congr 1
  exact smk_congr 8 fun d hd => by rw [sbit_mk P 8 d hd]
theorem sm_255 : smk (fun _ => true) 8 = 255 := rfl
theorem sm_consts : smk (fun d => d % 2 == 0) 8 = 85 ∧ smk (fun d => d % 2 == 1) 8 = 170 ∧ smk (fun d => decide (d % 4 < 2)) 8 = 51 ∧ smk (fun d => decide (2 ≤ d % 4)) 8 = 204 := by decide
end
section
/-! More instructions, one lemma each. -/
theorem xi_idiv {x y : Int} (hx : 0 ≤ x ∧ x ≤ 2147483647) (hy : 0 < y ∧ y ≤ 2147483647) : Int32.ofInt x / Int32.ofInt y = Int32.ofInt (x / y) := by
  have e1 := xi_toInt (z := x) (by omega) hx.2
  have e2 := xi_toInt (z := y) (by omega) hy.2
  have h0 : 0 ≤ x / y := Int.ediv_nonneg hx.1 (by omega)
  have h1 : x / y ≤ x := Int.ediv_le_self y hx.1
  apply y_eq.mpr
  rw [y_div (by omega) (by omega), e1, e2, xi_toInt (by omega) (by omega)]
theorem xi_irem {x y : Int} (hx : 0 ≤ x ∧ x ≤ 2147483647) (hy : 0 < y ∧ y ≤ 2147483647) : Int32.ofInt x - Int32.ofInt x / Int32.ofInt y * Int32.ofInt y = Int32.ofInt (x % y) := by
  have e1 := xi_toInt (z := x) (by omega) hx.2
  have e2 := xi_toInt (z := y) (by omega) hy.2
  have h0 : 0 ≤ x % y := Int.emod_nonneg _ (by omega)
  have h1 : x % y < y := Int.emod_lt_of_pos _ hy.1
  apply y_eq.mpr
  rw [rem_toInt, e1, e2, Int.tmod_eq_emod_of_nonneg hx.1, xi_toInt (by omega) (by omega)]
theorem xi_ne0 {y : Int} (hy : 0 < y ∧ y ≤ 2147483647) : ¬ Int32.ofInt y = 0 := by
  intro h
  have e := congrArg Int32.toInt h
  rw [xi_toInt (by omega) hy.2] at e
  have : (0 : Int32).toInt = 0 := rfl
  omega
section
variable {v0 : Value} {xs : List Int32} {u : Nat × Nat} {Q : zO → zX → Prop} {mi pc a b c : Nat} {v : Value} {lv : zL} {f : Nat → zE} {r : List Value} {x y : Int}
theorem x_idiv (hc : zcd (zt v0) mi pc = some (.idiv, a, b, c, v)) (hx : 0 ≤ x ∧ x ≤ 2147483647) (hy : 0 < y ∧ y ≤ 2147483647) (k : xz v0 xs u Q mi (pc + 1) lv (xi (x / y) :: r) f) : xz v0 xs u Q mi pc lv (xi y :: xi x :: r) f := x_f (q := ((pc + 1), lv, (xi (x / y) :: r))) hc (by simp only [za, zo2, if_neg (xi_ne0 hy), xi_idiv hx hy]) k
theorem x_irem (hc : zcd (zt v0) mi pc = some (.irem, a, b, c, v)) (hx : 0 ≤ x ∧ x ≤ 2147483647) (hy : 0 < y ∧ y ≤ 2147483647) (k : xz v0 xs u Q mi (pc + 1) lv (xi (x % y) :: r) f) : xz v0 xs u Q mi pc lv (xi y :: xi x :: r) f := x_f (q := ((pc + 1), lv, (xi (x % y) :: r))) hc (by simp only [za, zo2, if_neg (xi_ne0 hy), xi_irem hx hy]) k
theorem x_ishl (hc : zcd (zt v0) mi pc = some (.ishl, a, b, c, v)) (k : xz v0 xs u Q mi (pc + 1) lv (.int (Int32.ofInt x <<< (Int32.ofInt y &&& 31)) :: r) f) : xz v0 xs u Q mi pc lv (xi y :: xi x :: r) f := x_f (q := ((pc + 1), lv, (.int (Int32.ofInt x <<< (Int32.ofInt y &&& 31)) :: r))) hc rfl k
theorem x_ishr (hc : zcd (zt v0) mi pc = some (.ishr, a, b, c, v)) (k : xz v0 xs u Q mi (pc + 1) lv (.int (Int32.ofInt x >>> (Int32.ofInt y &&& 31)) :: r) f) : xz v0 xs u Q mi pc lv (xi y :: xi x :: r) f := x_f (q := ((pc + 1), lv, (.int (Int32.ofInt x >>> (Int32.ofInt y &&& 31)) :: r))) hc rfl k
/-- two ints of any form -/
theorem x_iorg {g h z : Int32} (hc : zcd (zt v0) mi pc = some (.ior, a, b, c, v)) (e : g ||| h = z) (k : xz v0 xs u Q mi (pc + 1) lv (.int z :: r) f) : xz v0 xs u Q mi pc lv (.int h :: .int g :: r) f := x_f (q := ((pc + 1), lv, (.int z :: r))) hc (by simp only [za, zo2, e]) k
theorem x_iandg2 {g h z : Int32} (hc : zcd (zt v0) mi pc = some (.iand, a, b, c, v)) (e : g &&& h = z) (k : xz v0 xs u Q mi (pc + 1) lv (.int z :: r) f) : xz v0 xs u Q mi pc lv (.int h :: .int g :: r) f := x_f (q := ((pc + 1), lv, (.int z :: r))) hc (by simp only [za, zo2, e]) k
theorem x_ixorg {g h z : Int32} (hc : zcd (zt v0) mi pc = some (.ixor, a, b, c, v)) (e : g ^^^ h = z) (k : xz v0 xs u Q mi (pc + 1) lv (.int z :: r) f) : xz v0 xs u Q mi pc lv (.int h :: .int g :: r) f := x_f (q := ((pc + 1), lv, (.int z :: r))) hc (by simp only [za, zo2, e]) k
end
end
section
/-! Whom a selector has, the class's way. A row of eight places in an array. -/
def sRW (f : Nat → zE) (p : Nat) (fr : Int) (r : Nat → Int) : Prop := (50 ≤ p ∧ p < 204) ∧ ∃ l : List Int, f p = xr 0 l ∧ l.length ≤ 5000 ∧ 0 ≤ fr ∧ fr + 8 ≤ (l.length : Nat) ∧ ∀ d, d < 8 → l.getD (fr + (d : Nat)).toNat 0 = r d ∧ sok (r d)
theorem xs_96l {v0 : Value} {xs : List Int32} {u : Nat × Nat} {f : Nat → zE} {p : Nat} {fr w : Int} {r : Nat → Int} (hw : -100 ≤ w ∧ w ≤ 100) (hr : sRW f p fr r) : ∀ (k d : Nat) (lv : zL), k + d = 8 → zlv lv 0 = some (.ref p) → zlv lv 1 = some (xi fr) → zlv lv 2 = some (xi w) → zlv lv 3 = some (xi (smk (fun d => sF (r d) == w) d)) → zlv lv 4 = some (xi (d : Nat)) → xz v0 xs u (fun o X => ∃ r' f', o = .inl r' ∧ X = (xh f', u) ∧ r' = some (xi (smk (fun d => sF (r d) == w) 8)) ∧ f' = f) 96 5 lv [] f := by
  obtain ⟨hp, l, hf, hl, h0, h8, hrd⟩ := hr
  intro k
  induction k with
  | zero =>
    intro d lv hk l0 l1 l2 l3 l4
    have e : d = 8 := by omega
    subst e
    refine x_iload rfl l4 ?_
    refine x_bipush rfl (by decide) ?_
    refine x_cge (t := 37) rfl rfl (by decide) (by decide) (fun _ => ?_) (fun h => absurd h (by decide))
    refine x_iload_n rfl l3 ?_
    exact x_ireturn rfl (Or.inl rfl) ⟨_, _, rfl, rfl, rfl, rfl⟩
  | succ k ih =>
    intro d lv hk l0 l1 l2 l3 l4
    have hd : d < 8 := by omega
    obtain ⟨e1, e2⟩ := hrd d hd
    have e3 := e2
    unfold sok at e3
    refine x_iload rfl l4 ?_
    refine x_bipush rfl (by decide) ?_
    refine x_cge (t := 37) rfl rfl ⟨by omega, by omega⟩ (by decide) (fun h => by omega) (fun _ => ?_)
    refine x_aload_n rfl l0 ?_
    refine x_iload_n rfl l1 ?_
    refine x_iload rfl l4 ?_
    refine x_iadd rfl ?_
    refine x_iaload rfl hp hf ⟨by omega, by omega⟩ hl ?_
    rw [e1]
    refine x_iconst rfl ?_
    refine x_irem rfl ⟨by omega, by omega⟩ (by decide) ?_
    refine x_iload_n rfl l2 ?_
    refine x_cne (t := 31) rfl rfl ⟨by omega, by omega⟩ ⟨by omega, by omega⟩ (fun hne => ?_) (fun heq => ?_)
    · refine x_iinc rfl l4 (show (4 : Nat) < 5 from by decide) ?_
      refine x_goto (t := 5) rfl rfl ?_
      refine ih (d + 1) _ (by omega) (xst_ne (by decide) l0 (Or.inl rfl)) (xst_ne (by decide) l1 (Or.inl rfl)) (xst_ne (by decide) l2 (Or.inl rfl)) ?_ xst_eq
      have e4 : smk (fun d => sF (r d) == w) (d + 1) = smk (fun d => sF (r d) == w) d := by
        simp only [smk]
        rw [if_neg (by rw [beq_iff_eq]; exact hne), Int.add_zero]
      rw [e4]
      exact xst_ne (by decide) l3 (Or.inl rfl)
    · refine x_iload_n rfl l3 ?_
      refine x_iconst rfl ?_
      refine x_iload rfl l4 ?_
      refine x_ishl rfl ?_
      refine x_iorg rfl (sm_orbit _ hd) ?_
      refine x_istore_n rfl (show (3 : Nat) < 5 from by decide) ?_
      refine x_iinc rfl (xst_ne (by decide) l4 (Or.inl rfl)) (show (4 : Nat) < 5 from by decide) ?_
      refine x_goto (t := 5) rfl rfl ?_
      refine ih (d + 1) _ (by omega) (xst_ne (by decide) (xst_ne (by decide) l0 (Or.inl rfl)) (Or.inl rfl)) (xst_ne (by decide) (xst_ne (by decide) l1 (Or.inl rfl)) (Or.inl rfl)) (xst_ne (by decide) (xst_ne (by decide) l2 (Or.inl rfl)) (Or.inl rfl)) ?_ xst_eq
      have e4 : smk (fun d => sF (r d) == w) (d + 1) = smk (fun d => sF (r d) == w) d + ((2 ^ d : Nat) : Int) := by
        simp only [smk]
        rw [if_pos (by rw [beq_iff_eq]; exact heq)]
      rw [e4]
      exact xst_ne (by decide) xst_eq (Or.inl rfl)
theorem xs_96 {v0 : Value} {xs : List Int32} {u : Nat × Nat} {f : Nat → zE} {p : Nat} {fr w : Int} {r : Nat → Int} (hw : -100 ≤ w ∧ w ≤ 100) (hr : sRW f p fr r) : xq v0 xs u 96 [(0, .ref p), (1, xi fr), (2, xi w)] f (fun r' f' => r' = some (xi (smk (fun d => sF (r d) == w) 8)) ∧ f' = f) := by
  unfold xq
  refine x_iconst rfl ?_
  refine x_istore_n rfl (show (3 : Nat) < 5 from by decide) ?_
  refine x_iconst rfl ?_
  refine x_istore rfl (show (4 : Nat) < 5 from by decide) ?_
  exact xs_96l hw hr 8 0 _ rfl (xst_ne (by decide) (xst_ne (by decide) rfl (Or.inl rfl)) (Or.inl rfl)) (xst_ne (by decide) (xst_ne (by decide) rfl (Or.inl rfl)) (Or.inl rfl)) (xst_ne (by decide) (xst_ne (by decide) rfl (Or.inl rfl)) (Or.inl rfl)) (xst_ne (by decide) xst_eq (Or.inl rfl)) xst_eq
/-! The class's measure: 92. -/
theorem xs_92a {v0 : Value} {xs : List Int32} {u : Nat × Nat} {Q : zO → zX → Prop} {f : Nat → zE} {p : Nat} {fr : Int} {r : Nat → Int} (hr : sRW f p fr r) (hk : ∀ lv : zL, zlv lv 0 = some (.ref 114) → zlv lv 1 = some (.ref p) → zlv lv 2 = some (xi fr) → zlv lv 3 = some (xi (ssum (fun e => sX (r e)) 8)) → zlv lv 4 = some (xi (ssum (fun e => sY (r e)) 8)) → xz v0 xs u Q 92 49 lv [] f) : ∀ (k d : Nat) (lv : zL), k + d = 8 → zlv lv 0 = some (.ref 114) → zlv lv 1 = some (.ref p) → zlv lv 2 = some (xi fr) → zlv lv 3 = some (xi (ssum (fun e => sX (r e)) d)) → zlv lv 4 = some (xi (ssum (fun e => sY (r e)) d)) → zlv lv 5 = some (xi (d : Nat)) → xz v0 xs u Q 92 8 lv [] f := by
  obtain ⟨hp, l, hf, hl, h0, h8, hrd⟩ := hr
  intro k
  induction k with
  | zero =>
    intro d lv hk2 l0 l1 l2 l3 l4 l5
    have e : d = 8 := by omega
    subst e
    refine x_iload rfl l5 ?_
    refine x_bipush rfl (by decide) ?_
    refine x_cge (t := 49) rfl rfl (by decide) (by decide) (fun _ => ?_) (fun h => absurd h (by decide))
    exact hk lv l0 l1 l2 l3 l4
  | succ k ih =>
    intro d lv hk2 l0 l1 l2 l3 l4 l5
    have hd : d < 8 := by omega
    obtain ⟨e1, e2⟩ := hrd d hd
    have e3 := e2
    unfold sok at e3
    refine x_iload rfl l5 ?_
    refine x_bipush rfl (by decide) ?_
    refine x_cge (t := 49) rfl rfl ⟨by omega, by omega⟩ (by decide) (fun h => by omega) (fun _ => ?_)
    refine x_aload_n rfl l1 ?_
    refine x_iload_n rfl l2 ?_
    refine x_iload rfl l5 ?_
    refine x_iadd rfl ?_
    refine x_iaload rfl hp hf ⟨by omega, by omega⟩ hl ?_
    rw [e1]
    refine x_iconst rfl ?_
    refine x_idiv rfl ⟨by omega, by omega⟩ (by decide) ?_
    refine x_istore rfl (show (6 : Nat) < 9 from by decide) ?_
    refine x_iload_n rfl (xst_ne (by decide) l3 (Or.inl rfl)) ?_
    refine x_iload rfl xst_eq ?_
    refine x_bipush rfl (by decide) ?_
    refine x_irem rfl ⟨by omega, by omega⟩ (by decide) ?_
    refine x_iadd rfl ?_
    refine x_istore_n rfl (show (3 : Nat) < 9 from by decide) ?_
    refine x_iload rfl (xst_ne (by decide) (xst_ne (by decide) l4 (Or.inl rfl)) (Or.inl rfl)) ?_
    refine x_iload rfl (xst_ne (by decide) xst_eq (Or.inl rfl)) ?_
    refine x_bipush rfl (by decide) ?_
    refine x_idiv rfl ⟨by omega, by omega⟩ (by decide) ?_
    refine x_iadd rfl ?_
    refine x_istore rfl (show (4 : Nat) < 9 from by decide) ?_
    refine x_iinc rfl (xst_ne (by decide) (xst_ne (by decide) (xst_ne (by decide) l5 (Or.inl rfl)) (Or.inl rfl)) (Or.inl rfl)) (show (5 : Nat) < 9 from by decide) ?_
    refine x_goto (t := 8) rfl rfl ?_
    have e4 : r d / 4 / 10 = sY (r d) := by unfold sY; omega
    rw [e4]
    exact ih (d + 1) _ (by omega) (xst_ne (by decide) (xst_ne (by decide) (xst_ne (by decide) (xst_ne (by decide) l0 (Or.inl rfl)) (Or.inl rfl)) (Or.inl rfl)) (Or.inl rfl)) (xst_ne (by decide) (xst_ne (by decide) (xst_ne (by decide) (xst_ne (by decide) l1 (Or.inl rfl)) (Or.inl rfl)) (Or.inl rfl)) (Or.inl rfl)) (xst_ne (by decide) (xst_ne (by decide) (xst_ne (by decide) (xst_ne (by decide) l2 (Or.inl rfl)) (Or.inl rfl)) (Or.inl rfl)) (Or.inl rfl)) (xst_ne (by decide) (xst_ne (by decide) xst_eq (Or.inl rfl)) (Or.inl rfl)) (xst_ne (by decide) xst_eq (Or.inl rfl)) xst_eq
/-- the distances d of a row are in their array -/
def sDS (f : Nat → zE) (r : Nat → Int) (d : Nat) : Prop := ∃ dl : List Int, f 115 = xr 0 dl ∧ dl.length = 8 ∧ ∀ e, e < d → dl.getD e 0 = sfar r e
theorem xs_92b {v0 : Value} {xs : List Int32} {u : Nat × Nat} {f0 : Nat → zE} {p : Nat} {fr : Int} {r : Nat → Int} (hp5 : p ≠ 115) (h114 : f0 114 = .inl (7, [.ref 115])) (hr : sRW f0 p fr r) : ∀ (k d : Nat) (lv : zL) (f : Nat → zE), k + d = 8 → (∀ q, q ≠ 115 → f q = f0 q) → sDS f r d → zlv lv 0 = some (.ref 114) → zlv lv 1 = some (.ref p) → zlv lv 2 = some (xi fr) → zlv lv 3 = some (xi (ssum (fun e => sX (r e)) 8)) → zlv lv 4 = some (xi (ssum (fun e => sY (r e)) 8)) → zlv lv 5 = some (xi (d : Nat)) → xz v0 xs u (fun o X => ∃ r' f', o = .inl r' ∧ X = (xh f', u) ∧ r' = none ∧ sDS f' r 8 ∧ ∀ q, q ≠ 115 → f' q = f0 q) 92 52 lv [] f := by
  obtain ⟨hp, l, hf, hl, h0, h8, hrd⟩ := hr
  intro k
  induction k with
  | zero =>
    intro d lv f hk2 hfr hds l0 l1 l2 l3 l4 l5
    have e : d = 8 := by omega
    subst e
    refine x_iload rfl l5 ?_
    refine x_bipush rfl (by decide) ?_
    refine x_cge (t := 127) rfl rfl (by decide) (by decide) (fun _ => ?_) (fun h => absurd h (by decide))
    exact x_return rfl ⟨_, _, rfl, rfl, rfl, hds, hfr⟩
  | succ k ih =>
    intro d lv f hk2 hfr hds l0 l1 l2 l3 l4 l5
    have hd : d < 8 := by omega
    obtain ⟨e1, e2⟩ := hrd d hd
    have e3 := e2
    unfold sok at e3
    obtain ⟨dl, hdl, hdn, hdv⟩ := hds
    refine x_iload rfl l5 ?_
    refine x_bipush rfl (by decide) ?_
    refine x_cge (t := 127) rfl rfl ⟨by omega, by omega⟩ (by decide) (fun h => by omega) (fun _ => ?_)
    refine x_aload_n rfl l1 ?_
    refine x_iload_n rfl l2 ?_
    refine x_iload rfl l5 ?_
    refine x_iadd rfl ?_
    refine x_iaload rfl hp ((hfr p hp5).trans hf) ⟨by omega, by omega⟩ hl ?_
    rw [e1]
    refine x_iconst rfl ?_
    refine x_idiv rfl ⟨by omega, by omega⟩ (by decide) ?_
    refine x_istore rfl (show (6 : Nat) < 9 from by decide) ?_
    refine x_bipush rfl (by decide) ?_
    refine x_iload rfl xst_eq ?_
    refine x_bipush rfl (by decide) ?_
    refine x_irem rfl ⟨by omega, by omega⟩ (by decide) ?_
    refine x_imul rfl ?_
    refine x_iload_n rfl (xst_ne (by decide) l3 (Or.inl rfl)) ?_
    refine x_isub rfl ?_
    refine x_istore rfl (show (7 : Nat) < 9 from by decide) ?_
    refine x_bipush rfl (by decide) ?_
    refine x_iload rfl (xst_ne (by decide) xst_eq (Or.inl rfl)) ?_
    refine x_bipush rfl (by decide) ?_
    refine x_idiv rfl ⟨by omega, by omega⟩ (by decide) ?_
    refine x_imul rfl ?_
    refine x_iload rfl (xst_ne (by decide) (xst_ne (by decide) l4 (Or.inl rfl)) (Or.inl rfl)) ?_
    refine x_isub rfl ?_
    refine x_istore rfl (show (8 : Nat) < 9 from by decide) ?_
    refine x_aload_n rfl (xst_ne (by decide) (xst_ne (by decide) (xst_ne (by decide) l0 (Or.inl rfl)) (Or.inl rfl)) (Or.inl rfl)) ?_
    refine x_getfield rfl (by decide) ((hfr 114 (by decide)).trans h114) rfl ?_
    refine x_iload rfl (xst_ne (by decide) (xst_ne (by decide) (xst_ne (by decide) l5 (Or.inl rfl)) (Or.inl rfl)) (Or.inl rfl)) ?_
    refine x_iload rfl (xst_ne (by decide) xst_eq (Or.inl rfl)) ?_
    refine x_iload rfl (xst_ne (by decide) xst_eq (Or.inl rfl)) ?_
    refine x_imul rfl ?_
    refine x_iload rfl xst_eq ?_
    refine x_iload rfl xst_eq ?_
    refine x_imul rfl ?_
    refine x_iadd rfl ?_
    refine x_bipush rfl (by decide) ?_
    refine x_imul rfl ?_
    refine x_bipush rfl (by decide) ?_
    refine x_imul rfl ?_
    refine x_iload rfl (xst_ne (by decide) (xst_ne (by decide) xst_eq (Or.inl rfl)) (Or.inl rfl)) ?_
    refine x_iadd rfl ?_
    refine x_iastore rfl (by decide) hdl ⟨by omega, by omega⟩ (by omega) ?_
    refine x_iinc rfl (xst_ne (by decide) (xst_ne (by decide) (xst_ne (by decide) l5 (Or.inl rfl)) (Or.inl rfl)) (Or.inl rfl)) (show (5 : Nat) < 9 from by decide) ?_
    refine x_goto (t := 52) rfl rfl ?_
    have e4 : r d / 4 / 10 = sY (r d) := by unfold sY; omega
    have e5 : r d / 4 % 10 = sX (r d) := rfl
    rw [e4, e5, ← sfar_cls r d, Int.toNat_natCast]
    refine ih (d + 1) _ _ (by omega) (fun q hq => xu_ne hq (hfr q hq)) ⟨dl.set d (sfar r d), xu_eq, by rw [List.length_set]; exact hdn, fun e he => ?_⟩ (xst_ne (by decide) (xst_ne (by decide) (xst_ne (by decide) (xst_ne (by decide) l0 (Or.inl rfl)) (Or.inl rfl)) (Or.inl rfl)) (Or.inl rfl)) (xst_ne (by decide) (xst_ne (by decide) (xst_ne (by decide) (xst_ne (by decide) l1 (Or.inl rfl)) (Or.inl rfl)) (Or.inl rfl)) (Or.inl rfl)) (xst_ne (by decide) (xst_ne (by decide) (xst_ne (by decide) (xst_ne (by decide) l2 (Or.inl rfl)) (Or.inl rfl)) (Or.inl rfl)) (Or.inl rfl)) (xst_ne (by decide) (xst_ne (by decide) (xst_ne (by decide) (xst_ne (by decide) l3 (Or.inl rfl)) (Or.inl rfl)) (Or.inl rfl)) (Or.inl rfl)) (xst_ne (by decide) (xst_ne (by decide) (xst_ne (by decide) (xst_ne (by decide) l4 (Or.inl rfl)) (Or.inl rfl)) (Or.inl rfl)) (Or.inl rfl)) xst_eq
    rw [x_gset]
    by_cases h9 : d = e
    · rw [if_pos ⟨h9, by omega⟩, h9]
    · rw [if_neg (fun h => h9 h.1)]
      exact hdv e (by omega)
theorem xs_92 {v0 : Value} {xs : List Int32} {u : Nat × Nat} {f : Nat → zE} {p : Nat} {fr : Int} {r : Nat → Int} {dl : List Int} (hp5 : p ≠ 115) (h114 : f 114 = .inl (7, [.ref 115])) (h115 : f 115 = xr 0 dl) (hdl : dl.length = 8) (hr : sRW f p fr r) : xq v0 xs u 92 [(0, .ref 114), (1, .ref p), (2, xi fr)] f (fun r' f' => r' = none ∧ sDS f' r 8 ∧ ∀ q, q ≠ 115 → f' q = f q) := by
  unfold xq
  refine x_iconst rfl ?_
  refine x_istore_n rfl (show (3 : Nat) < 9 from by decide) ?_
  refine x_iconst rfl ?_
  refine x_istore rfl (show (4 : Nat) < 9 from by decide) ?_
  refine x_iconst rfl ?_
  refine x_istore rfl (show (5 : Nat) < 9 from by decide) ?_
  refine xs_92a hr (fun lv l0 l1 l2 l3 l4 => ?_) 8 0 _ rfl (xst_ne (by decide) (xst_ne (by decide) (xst_ne (by decide) rfl (Or.inl rfl)) (Or.inl rfl)) (Or.inl rfl)) (xst_ne (by decide) (xst_ne (by decide) (xst_ne (by decide) rfl (Or.inl rfl)) (Or.inl rfl)) (Or.inl rfl)) (xst_ne (by decide) (xst_ne (by decide) (xst_ne (by decide) rfl (Or.inl rfl)) (Or.inl rfl)) (Or.inl rfl)) (xst_ne (by decide) (xst_ne (by decide) xst_eq (Or.inl rfl)) (Or.inl rfl)) (xst_ne (by decide) xst_eq (Or.inl rfl)) xst_eq
  refine x_iconst rfl ?_
  refine x_istore rfl (show (5 : Nat) < 9 from by decide) ?_
  exact xs_92b hp5 h114 hr 8 0 _ f rfl (fun _ _ => rfl) ⟨dl, h115, hdl, fun e he => absurd he (Nat.not_lt_zero e)⟩ (xst_ne (by decide) l0 (Or.inl rfl)) (xst_ne (by decide) l1 (Or.inl rfl)) (xst_ne (by decide) l2 (Or.inl rfl)) (xst_ne (by decide) l3 (Or.inl rfl)) (xst_ne (by decide) l4 (Or.inl rfl)) xst_eq
/-! The class's centres: 93. -/
theorem xs_93i {v0 : Value} {xs : List Int32} {u : Nat × Nat} {Q : zO → zX → Prop} {f : Nat → zE} {r : Nat → Int} {d : Nat} {ch : Int} (h114 : f 114 = .inl (7, [.ref 115])) (hds : sDS f r 8) (hrg : ∀ e, e < 8 → 0 ≤ sfar r e ∧ sfar r e < 2000000) (hd : d < 8) (hk : ∀ lv : zL, zlv lv 0 = some (.ref 114) → zlv lv 3 = some (xi ch) → zlv lv 4 = some (xi (d : Nat)) → zlv lv 5 = some (xi (scnt (fun e => decide (sfar r e < sfar r d)) 8)) → xz v0 xs u Q 93 57 lv [] f) : ∀ (k e : Nat) (lv : zL), k + e = 8 → zlv lv 0 = some (.ref 114) → zlv lv 3 = some (xi ch) → zlv lv 4 = some (xi (d : Nat)) → zlv lv 5 = some (xi (scnt (fun e => decide (sfar r e < sfar r d)) e)) → zlv lv 6 = some (xi (e : Nat)) → xz v0 xs u Q 93 24 lv [] f := by
  obtain ⟨dl, hdl, hdn, hdv⟩ := hds
  intro k
  induction k with
  | zero =>
    intro e lv hk2 l0 l3 l4 l5 l6
    have e9 : e = 8 := by omega
    subst e9
    refine x_iload rfl l6 ?_
    refine x_bipush rfl (by decide) ?_
    refine x_cge (t := 57) rfl rfl (by decide) (by decide) (fun _ => ?_) (fun h => absurd h (by decide))
    exact hk lv l0 l3 l4 l5
  | succ k ih =>
    intro e lv hk2 l0 l3 l4 l5 l6
    have he : e < 8 := by omega
    have r1 := hrg e he
    have r2 := hrg d hd
    refine x_iload rfl l6 ?_
    refine x_bipush rfl (by decide) ?_
    refine x_cge (t := 57) rfl rfl ⟨by omega, by omega⟩ (by decide) (fun h => by omega) (fun _ => ?_)
    refine x_aload_n rfl l0 ?_
    refine x_getfield rfl (by decide) h114 rfl ?_
    refine x_iload rfl l6 ?_
    refine x_iaload rfl (by decide) hdl ⟨by omega, by omega⟩ (by omega) ?_
    rw [Int.toNat_natCast, hdv e he]
    refine x_aload_n rfl l0 ?_
    refine x_getfield rfl (by decide) h114 rfl ?_
    refine x_iload rfl l4 ?_
    refine x_iaload rfl (by decide) hdl ⟨by omega, by omega⟩ (by omega) ?_
    rw [Int.toNat_natCast, hdv d hd]
    refine x_cge (t := 51) rfl rfl ⟨by omega, by omega⟩ ⟨by omega, by omega⟩ (fun hge => ?_) (fun hlt => ?_)
    · refine x_iinc rfl l6 (show (6 : Nat) < 7 from by decide) ?_
      refine x_goto (t := 24) rfl rfl ?_
      refine ih (e + 1) _ (by omega) (xst_ne (by decide) l0 (Or.inl rfl)) (xst_ne (by decide) l3 (Or.inl rfl)) (xst_ne (by decide) l4 (Or.inl rfl)) ?_ xst_eq
      have e4 : scnt (fun e => decide (sfar r e < sfar r d)) (e + 1) = scnt (fun e => decide (sfar r e < sfar r d)) e := by
        simp only [scnt]
        rw [if_neg (by rw [decide_eq_true_eq]; omega), Int.add_zero]
      rw [e4]
      exact xst_ne (by decide) l5 (Or.inl rfl)
    · refine x_iinc rfl l5 (show (5 : Nat) < 7 from by decide) ?_
      refine x_iinc rfl (xst_ne (by decide) l6 (Or.inl rfl)) (show (6 : Nat) < 7 from by decide) ?_
      refine x_goto (t := 24) rfl rfl ?_
      refine ih (e + 1) _ (by omega) (xst_ne (by decide) (xst_ne (by decide) l0 (Or.inl rfl)) (Or.inl rfl)) (xst_ne (by decide) (xst_ne (by decide) l3 (Or.inl rfl)) (Or.inl rfl)) (xst_ne (by decide) (xst_ne (by decide) l4 (Or.inl rfl)) (Or.inl rfl)) ?_ xst_eq
      have e4 : scnt (fun e => decide (sfar r e < sfar r d)) (e + 1) = scnt (fun e => decide (sfar r e < sfar r d)) e + 1 := by
        simp only [scnt]
        rw [if_pos (by rw [decide_eq_true_eq]; omega)]
      rw [e4]
      exact xst_ne (by decide) xst_eq (Or.inl rfl)
theorem xs_93o {v0 : Value} {xs : List Int32} {u : Nat × Nat} {f : Nat → zE} {r : Nat → Int} (h114 : f 114 = .inl (7, [.ref 115])) (hds : sDS f r 8) (hrg : ∀ e, e < 8 → 0 ≤ sfar r e ∧ sfar r e < 2000000) : ∀ (k d : Nat) (lv : zL), k + d = 8 → zlv lv 0 = some (.ref 114) → zlv lv 3 = some (xi (smk (scen r) d)) → zlv lv 4 = some (xi (d : Nat)) → xz v0 xs u (fun o X => ∃ r' f', o = .inl r' ∧ X = (xh f', u) ∧ r' = some (xi (smk (scen r) 8)) ∧ f' = f) 93 11 lv [] f := by
  intro k
  induction k with
  | zero =>
    intro d lv hk2 l0 l3 l4
    have e9 : d = 8 := by omega
    subst e9
    refine x_iload rfl l4 ?_
    refine x_bipush rfl (by decide) ?_
    refine x_cge (t := 76) rfl rfl (by decide) (by decide) (fun _ => ?_) (fun h => absurd h (by decide))
    refine x_iload_n rfl l3 ?_
    exact x_ireturn rfl (Or.inl rfl) ⟨_, _, rfl, rfl, rfl, rfl⟩
  | succ k ih =>
    intro d lv hk2 l0 l3 l4
    have hd : d < 8 := by omega
    refine x_iload rfl l4 ?_
    refine x_bipush rfl (by decide) ?_
    refine x_cge (t := 76) rfl rfl ⟨by omega, by omega⟩ (by decide) (fun h => by omega) (fun _ => ?_)
    refine x_iconst rfl ?_
    refine x_istore rfl (show (5 : Nat) < 7 from by decide) ?_
    refine x_iconst rfl ?_
    refine x_istore rfl (show (6 : Nat) < 7 from by decide) ?_
    refine xs_93i h114 hds hrg hd (ch := smk (scen r) d) (fun lv2 m0 m3 m4 m5 => ?_) 8 0 _ rfl (xst_ne (by decide) (xst_ne (by decide) l0 (Or.inl rfl)) (Or.inl rfl)) (xst_ne (by decide) (xst_ne (by decide) l3 (Or.inl rfl)) (Or.inl rfl)) (xst_ne (by decide) (xst_ne (by decide) l4 (Or.inl rfl)) (Or.inl rfl)) (xst_ne (by decide) xst_eq (Or.inl rfl)) xst_eq
    have hcn := scnt_rg (fun e => decide (sfar r e < sfar r d)) 8
    refine x_iload rfl m5 ?_
    refine x_iconst rfl ?_
    refine x_cge (t := 70) rfl rfl ⟨by omega, by omega⟩ (by decide) (fun hge => ?_) (fun hlt => ?_)
    · refine x_iinc rfl m4 (show (4 : Nat) < 7 from by decide) ?_
      refine x_goto (t := 11) rfl rfl ?_
      refine ih (d + 1) _ (by omega) (xst_ne (by decide) m0 (Or.inl rfl)) ?_ xst_eq
      have e4 : smk (scen r) (d + 1) = smk (scen r) d := by
        simp only [smk]
        rw [if_neg (by unfold scen; rw [decide_eq_true_eq]; omega), Int.add_zero]
      rw [e4]
      exact xst_ne (by decide) m3 (Or.inl rfl)
    · refine x_iload_n rfl m3 ?_
      refine x_iconst rfl ?_
      refine x_iload rfl m4 ?_
      refine x_ishl rfl ?_
      refine x_iorg rfl (sm_orbit _ hd) ?_
      refine x_istore_n rfl (show (3 : Nat) < 7 from by decide) ?_
      refine x_iinc rfl (xst_ne (by decide) m4 (Or.inl rfl)) (show (4 : Nat) < 7 from by decide) ?_
      refine x_goto (t := 11) rfl rfl ?_
      refine ih (d + 1) _ (by omega) (xst_ne (by decide) (xst_ne (by decide) m0 (Or.inl rfl)) (Or.inl rfl)) ?_ xst_eq
      have e4 : smk (scen r) (d + 1) = smk (scen r) d + ((2 ^ d : Nat) : Int) := by
        simp only [smk]
        rw [if_pos (by unfold scen; rw [decide_eq_true_eq]; omega)]
      rw [e4]
      exact xst_ne (by decide) xst_eq (Or.inl rfl)
theorem sRW_sok {f : Nat → zE} {p : Nat} {fr : Int} {r : Nat → Int} (h : sRW f p fr r) : ∀ d, d < 8 → sok (r d) := by
  obtain ⟨-, l, -, -, -, -, h⟩ := h
  exact fun d hd => (h d hd).2
theorem sRW_mv {f f' : Nat → zE} {p : Nat} {fr : Int} {r : Nat → Int} (e : f' p = f p) (h : sRW f p fr r) : sRW f' p fr r := by
  obtain ⟨hp, l, h1, h2⟩ := h
  exact ⟨hp, l, e.trans h1, h2⟩
theorem xs_93 {v0 : Value} {xs : List Int32} {u : Nat × Nat} {f : Nat → zE} {p : Nat} {fr : Int} {r : Nat → Int} {dl : List Int} (hp5 : p ≠ 115) (h114 : f 114 = .inl (7, [.ref 115])) (h115 : f 115 = xr 0 dl) (hdl : dl.length = 8) (hr : sRW f p fr r) : xq v0 xs u 93 [(0, .ref 114), (1, .ref p), (2, xi fr)] f (fun r' f' => r' = some (xi (smk (scen r) 8)) ∧ sDS f' r 8 ∧ ∀ q, q ≠ 115 → f' q = f q) := by
  unfold xq
  refine x_aload_n rfl rfl ?_
  refine x_aload_n rfl rfl ?_
  refine x_iload_n rfl rfl ?_
  refine x_call [_, _, _] rfl rfl (show (0 : Nat) ≤ 8 from by decide) (show (3 : Nat) ≤ 9 from by decide) (x_rcv (by decide) h114) (xs_92 hp5 h114 h115 hdl hr) (fun r' f1 hP => ?_)
  obtain ⟨rfl, hds, hfr⟩ := hP
  refine x_iconst rfl ?_
  refine x_istore_n rfl (show (3 : Nat) < 7 from by decide) ?_
  refine x_iconst rfl ?_
  refine x_istore rfl (show (4 : Nat) < 7 from by decide) ?_
  refine zwp_mono (xs_93o ((hfr 114 (by decide)).trans h114) hds (sfar_rg (sRW_sok hr)) 8 0 _ rfl (xst_ne (by decide) (xst_ne (by decide) rfl (Or.inl rfl)) (Or.inl rfl)) (xst_ne (by decide) xst_eq (Or.inl rfl)) xst_eq) ?_
  intro o X' hq
  obtain ⟨r9, f9, e1, e2, e3, rfl⟩ := hq
  exact ⟨r9, f9, e1, e2, e3, hds, hfr⟩
end
section
/-! The class's 'lies towards': 94. -/
theorem xs_94 {v0 : Value} {xs : List Int32} {u : Nat × Nat} {f : Nat → zE} {p q w : Int} (hp : sok p) (hq : sok q) (hw : 0 ≤ w ∧ w ≤ 3) : xq v0 xs u 94 [(0, xi (p / 4)), (1, xi (q / 4)), (2, xi w)] f (fun r' f' => r' = some (xi (if slies p q w = true then 1 else 0)) ∧ f' = f) := by
  unfold xq
  have hp0 := hp
  have hq0 := hq
  unfold sok at hp0 hq0
  have x1 := sX_rg hp
  have x2 := sX_rg hq
  have y1 := sY_rg hp
  have y2 := sY_rg hq
  have e1 : p / 4 / 10 = sY p := by unfold sY; omega
  have e2 : q / 4 / 10 = sY q := by unfold sY; omega
  refine x_iload_n rfl rfl ?_
  refine x_bipush rfl (by decide) ?_
  refine x_irem rfl ⟨by omega, by omega⟩ (by decide) ?_
  refine x_iload_n rfl rfl ?_
  refine x_bipush rfl (by decide) ?_
  refine x_irem rfl ⟨by omega, by omega⟩ (by decide) ?_
  refine x_isub rfl ?_
  refine x_istore_n rfl (show (3 : Nat) < 5 from by decide) ?_
  refine x_iload_n rfl (xst_ne (by decide) rfl (Or.inl rfl)) ?_
  refine x_bipush rfl (by decide) ?_
  refine x_idiv rfl ⟨by omega, by omega⟩ (by decide) ?_
  refine x_iload_n rfl (xst_ne (by decide) rfl (Or.inl rfl)) ?_
  refine x_bipush rfl (by decide) ?_
  refine x_idiv rfl ⟨by omega, by omega⟩ (by decide) ?_
  refine x_isub rfl ?_
  refine x_istore rfl (show (4 : Nat) < 5 from by decide) ?_
  rw [e1, e2]
  change xz v0 xs u _ 94 21 (xst 4 (xi (sY q - sY p)) (xst 3 (xi (sX q - sX p)) _)) [] f
  rw [slies_cls hw]
  refine x_iload_n rfl (xst_ne (by decide) (xst_ne (by decide) rfl (Or.inl rfl)) (Or.inl rfl)) ?_
  rcases (show w = 0 ∨ w = 1 ∨ w = 2 ∨ w = 3 by omega) with rfl | rfl | rfl | rfl
  · refine x_sw (t := 48) (e := 26) rfl (by decide) (by decide) rfl ?_
    rw [if_pos (show (0 : Int) = 0 from rfl)]
    refine x_iload_n rfl (xst_ne (by decide) xst_eq (Or.inl rfl)) ?_
    refine x_ifne (t := 61) rfl rfl ⟨by omega, by omega⟩ (fun h1 => ?_) (fun h1 => ?_)
    · refine x_iconst rfl ?_
      exact x_ireturn rfl (Or.inr (Or.inl ⟨rfl, by decide⟩)) ⟨_, _, rfl, rfl, by rw [if_neg (by simp only [Bool.and_eq_true, decide_eq_true_eq]; omega)], rfl⟩
    · refine x_iload rfl xst_eq ?_
      refine x_ifle (t := 61) rfl rfl ⟨by omega, by omega⟩ (fun h2 => ?_) (fun h2 => ?_)
      · refine x_iconst rfl ?_
        exact x_ireturn rfl (Or.inr (Or.inl ⟨rfl, by decide⟩)) ⟨_, _, rfl, rfl, by rw [if_neg (by simp only [Bool.and_eq_true, decide_eq_true_eq]; omega)], rfl⟩
      · refine x_iconst rfl ?_
        refine x_goto (t := 62) rfl rfl ?_
        exact x_ireturn rfl (Or.inr (Or.inl ⟨rfl, by decide⟩)) ⟨_, _, rfl, rfl, by rw [if_pos (by simp only [Bool.and_eq_true, decide_eq_true_eq]; omega)], rfl⟩
  · refine x_sw (t := 63) (e := 41) rfl (by decide) (by decide) rfl ?_
    rw [if_neg (show ¬ (1 : Int) = 0 by decide), if_pos (show (1 : Int) = 1 from rfl)]
    refine x_iload rfl xst_eq ?_
    refine x_ifne (t := 76) rfl rfl ⟨by omega, by omega⟩ (fun h1 => ?_) (fun h1 => ?_)
    · refine x_iconst rfl ?_
      exact x_ireturn rfl (Or.inr (Or.inl ⟨rfl, by decide⟩)) ⟨_, _, rfl, rfl, by rw [if_neg (by simp only [Bool.and_eq_true, decide_eq_true_eq]; omega)], rfl⟩
    · refine x_iload_n rfl (xst_ne (by decide) xst_eq (Or.inl rfl)) ?_
      refine x_ifle (t := 76) rfl rfl ⟨by omega, by omega⟩ (fun h2 => ?_) (fun h2 => ?_)
      · refine x_iconst rfl ?_
        exact x_ireturn rfl (Or.inr (Or.inl ⟨rfl, by decide⟩)) ⟨_, _, rfl, rfl, by rw [if_neg (by simp only [Bool.and_eq_true, decide_eq_true_eq]; omega)], rfl⟩
      · refine x_iconst rfl ?_
        refine x_goto (t := 77) rfl rfl ?_
        exact x_ireturn rfl (Or.inr (Or.inl ⟨rfl, by decide⟩)) ⟨_, _, rfl, rfl, by rw [if_pos (by simp only [Bool.and_eq_true, decide_eq_true_eq]; omega)], rfl⟩
  · refine x_sw (t := 78) (e := 56) rfl (by decide) (by decide) rfl ?_
    rw [if_neg (show ¬ (2 : Int) = 0 by decide), if_neg (show ¬ (2 : Int) = 1 by decide), if_pos (show (2 : Int) = 2 from rfl)]
    refine x_iload_n rfl (xst_ne (by decide) xst_eq (Or.inl rfl)) ?_
    refine x_ifne (t := 91) rfl rfl ⟨by omega, by omega⟩ (fun h1 => ?_) (fun h1 => ?_)
    · refine x_iconst rfl ?_
      exact x_ireturn rfl (Or.inr (Or.inl ⟨rfl, by decide⟩)) ⟨_, _, rfl, rfl, by rw [if_neg (by simp only [Bool.and_eq_true, decide_eq_true_eq]; omega)], rfl⟩
    · refine x_iload rfl xst_eq ?_
      refine x_ifge (t := 91) rfl rfl ⟨by omega, by omega⟩ (fun h2 => ?_) (fun h2 => ?_)
      · refine x_iconst rfl ?_
        exact x_ireturn rfl (Or.inr (Or.inl ⟨rfl, by decide⟩)) ⟨_, _, rfl, rfl, by rw [if_neg (by simp only [Bool.and_eq_true, decide_eq_true_eq]; omega)], rfl⟩
      · refine x_iconst rfl ?_
        refine x_goto (t := 92) rfl rfl ?_
        exact x_ireturn rfl (Or.inr (Or.inl ⟨rfl, by decide⟩)) ⟨_, _, rfl, rfl, by rw [if_pos (by simp only [Bool.and_eq_true, decide_eq_true_eq]; omega)], rfl⟩
  · refine x_sw (t := 93) (e := 71) rfl (by decide) (by decide) rfl ?_
    rw [if_neg (show ¬ (3 : Int) = 0 by decide), if_neg (show ¬ (3 : Int) = 1 by decide), if_neg (show ¬ (3 : Int) = 2 by decide)]
    refine x_iload rfl xst_eq ?_
    refine x_ifne (t := 106) rfl rfl ⟨by omega, by omega⟩ (fun h1 => ?_) (fun h1 => ?_)
    · refine x_iconst rfl ?_
      exact x_ireturn rfl (Or.inr (Or.inl ⟨rfl, by decide⟩)) ⟨_, _, rfl, rfl, by rw [if_neg (by simp only [Bool.and_eq_true, decide_eq_true_eq]; omega)], rfl⟩
    · refine x_iload_n rfl (xst_ne (by decide) xst_eq (Or.inl rfl)) ?_
      refine x_ifge (t := 106) rfl rfl ⟨by omega, by omega⟩ (fun h2 => ?_) (fun h2 => ?_)
      · refine x_iconst rfl ?_
        exact x_ireturn rfl (Or.inr (Or.inl ⟨rfl, by decide⟩)) ⟨_, _, rfl, rfl, by rw [if_neg (by simp only [Bool.and_eq_true, decide_eq_true_eq]; omega)], rfl⟩
      · refine x_iconst rfl ?_
        refine x_goto (t := 107) rfl rfl ?_
        exact x_ireturn rfl (Or.inr (Or.inl ⟨rfl, by decide⟩)) ⟨_, _, rfl, rfl, by rw [if_pos (by simp only [Bool.and_eq_true, decide_eq_true_eq]; omega)], rfl⟩
/-! The class's free: 95. -/
theorem sall_f {P : Nat → Bool} {e k : Nat} (h : sall P e = false) (hk : e ≤ k) : sall P k = false := by
  induction k with
  | zero => have : e = 0 := by omega
            rw [this] at h; exact h
  | succ k ih =>
    by_cases e1 : e = k + 1
    · rw [← e1]; exact h
    · simp only [sall]; rw [ih (by omega)]; rfl
theorem xs_95i {v0 : Value} {xs : List Int32} {u : Nat × Nat} {Q : zO → zX → Prop} {f : Nat → zE} {p : Nat} {fr t : Int} {r : Nat → Int} {d : Nat} {ch w : Int} (hr : sRW f p fr r) (hd : d < 8) (hw : 0 ≤ w ∧ w ≤ 3) (hk : ∀ lv : zL, zlv lv 0 = some (.ref p) → zlv lv 1 = some (xi fr) → zlv lv 2 = some (xi t) → zlv lv 3 = some (xi ch) → zlv lv 4 = some (xi (d : Nat)) → zlv lv 6 = some (xi (if sall (fun e => !slies (r d) (r e) w) 8 = true then 1 else 0)) → xz v0 xs u Q 95 79 lv [] f) : ∀ (k e : Nat) (lv : zL), k + e = 8 → zlv lv 0 = some (.ref p) → zlv lv 1 = some (xi fr) → zlv lv 2 = some (xi t) → zlv lv 3 = some (xi ch) → zlv lv 4 = some (xi (d : Nat)) → zlv lv 5 = some (xi w) → zlv lv 6 = some (xi (if sall (fun e => !slies (r d) (r e) w) e = true then 1 else 0)) → zlv lv 7 = some (xi (e : Nat)) → xz v0 xs u Q 95 30 lv [] f := by
  have hr0 := hr
  obtain ⟨hp, l, hf, hl, h0, h8, hrd⟩ := hr
  obtain ⟨d1, d2⟩ := hrd d hd
  have d3 := d2
  unfold sok at d3
  intro k
  induction k with
  | zero =>
    intro e lv hk2 l0 l1 l2 l3 l4 l5 l6 l7
    have e9 : e = 8 := by omega
    subst e9
    refine x_iload rfl l7 ?_
    refine x_bipush rfl (by decide) ?_
    refine x_cge (t := 79) rfl rfl (by decide) (by decide) (fun _ => ?_) (fun h => absurd h (by decide))
    exact hk lv l0 l1 l2 l3 l4 l6
  | succ k ih =>
    intro e lv hk2 l0 l1 l2 l3 l4 l5 l6 l7
    have he : e < 8 := by omega
    obtain ⟨e1, e2⟩ := hrd e he
    have e3 := e2
    unfold sok at e3
    refine x_iload rfl l7 ?_
    refine x_bipush rfl (by decide) ?_
    refine x_cge (t := 79) rfl rfl ⟨by omega, by omega⟩ (by decide) (fun h => by omega) (fun _ => ?_)
    refine x_iload rfl l6 ?_
    by_cases hall : sall (fun e => !slies (r d) (r e) w) e = true
    · rw [if_pos hall]
      refine x_ifeq (t := 79) rfl rfl (by decide) (fun h => absurd h (by decide)) (fun _ => ?_)
      refine x_aload_n rfl l0 ?_
      refine x_iload_n rfl l1 ?_
      refine x_iload rfl l4 ?_
      refine x_iadd rfl ?_
      refine x_iaload rfl hp hf ⟨by omega, by omega⟩ hl ?_
      rw [d1]
      refine x_iconst rfl ?_
      refine x_idiv rfl ⟨by omega, by omega⟩ (by decide) ?_
      refine x_aload_n rfl l0 ?_
      refine x_iload_n rfl l1 ?_
      refine x_iload rfl l7 ?_
      refine x_iadd rfl ?_
      refine x_iaload rfl hp hf ⟨by omega, by omega⟩ hl ?_
      rw [e1]
      refine x_iconst rfl ?_
      refine x_idiv rfl ⟨by omega, by omega⟩ (by decide) ?_
      refine x_iload rfl l5 ?_
      refine x_call [_, _, _] rfl rfl (show (0 : Nat) ≤ 8 from by decide) (show (3 : Nat) ≤ 5 from by decide) rfl (xs_94 d2 e2 hw) (fun r' f1 hP => ?_)
      obtain ⟨rfl, rfl⟩ := hP
      by_cases hs : slies (r d) (r e) w = true
      · rw [if_pos hs]
        refine x_ifne (t := 70) rfl rfl (by decide) (fun _ => ?_) (fun h => absurd h (by decide))
        refine x_iconst rfl ?_
        refine x_istore rfl (show (6 : Nat) < 8 from by decide) ?_
        refine x_iinc rfl (xst_ne (by decide) l7 (Or.inl rfl)) (show (7 : Nat) < 8 from by decide) ?_
        refine x_goto (t := 30) rfl rfl ?_
        refine ih (e + 1) _ (by omega) (xst_ne (by decide) (xst_ne (by decide) l0 (Or.inl rfl)) (Or.inl rfl)) (xst_ne (by decide) (xst_ne (by decide) l1 (Or.inl rfl)) (Or.inl rfl)) (xst_ne (by decide) (xst_ne (by decide) l2 (Or.inl rfl)) (Or.inl rfl)) (xst_ne (by decide) (xst_ne (by decide) l3 (Or.inl rfl)) (Or.inl rfl)) (xst_ne (by decide) (xst_ne (by decide) l4 (Or.inl rfl)) (Or.inl rfl)) (xst_ne (by decide) (xst_ne (by decide) l5 (Or.inl rfl)) (Or.inl rfl)) ?_ xst_eq
        rw [if_neg (by simp only [sall]; rw [hs]; simp)]
        exact xst_ne (by decide) xst_eq (Or.inl rfl)
      · rw [if_neg hs]
        refine x_ifne (t := 70) rfl rfl (by decide) (fun h => absurd rfl h) (fun _ => ?_)
        refine x_iconst rfl ?_
        refine x_goto (t := 71) rfl rfl ?_
        refine x_istore rfl (show (6 : Nat) < 8 from by decide) ?_
        refine x_iinc rfl (xst_ne (by decide) l7 (Or.inl rfl)) (show (7 : Nat) < 8 from by decide) ?_
        refine x_goto (t := 30) rfl rfl ?_
        refine ih (e + 1) _ (by omega) (xst_ne (by decide) (xst_ne (by decide) l0 (Or.inl rfl)) (Or.inl rfl)) (xst_ne (by decide) (xst_ne (by decide) l1 (Or.inl rfl)) (Or.inl rfl)) (xst_ne (by decide) (xst_ne (by decide) l2 (Or.inl rfl)) (Or.inl rfl)) (xst_ne (by decide) (xst_ne (by decide) l3 (Or.inl rfl)) (Or.inl rfl)) (xst_ne (by decide) (xst_ne (by decide) l4 (Or.inl rfl)) (Or.inl rfl)) (xst_ne (by decide) (xst_ne (by decide) l5 (Or.inl rfl)) (Or.inl rfl)) ?_ xst_eq
        have hs2 : slies (r d) (r e) w = false := by cases h9 : slies (r d) (r e) w with
          | true => exact absurd h9 hs
          | false => rfl
        rw [if_pos (by simp only [sall]; rw [hall, hs2]; rfl)]
        exact xst_ne (by decide) xst_eq (Or.inl rfl)
    · rw [if_neg hall]
      refine x_ifeq (t := 79) rfl rfl (by decide) (fun _ => ?_) (fun h => absurd rfl h)
      refine hk lv l0 l1 l2 l3 l4 ?_
      have h9 : sall (fun e => !slies (r d) (r e) w) e = false := by cases h9 : sall (fun e => !slies (r d) (r e) w) e with
        | true => exact absurd h9 hall
        | false => rfl
      rw [if_neg (by rw [sall_f h9 (by omega)]; decide)]
      rw [if_neg hall] at l6
      exact l6
theorem xs_95o {v0 : Value} {xs : List Int32} {u : Nat × Nat} {f : Nat → zE} {p : Nat} {fr t : Int} {r : Nat → Int} (ht : 0 ≤ t ∧ t ≤ 3) (hr : sRW f p fr r) : ∀ (k d : Nat) (lv : zL), k + d = 8 → zlv lv 0 = some (.ref p) → zlv lv 1 = some (xi fr) → zlv lv 2 = some (xi t) → zlv lv 3 = some (xi (smk (salone r t) d)) → zlv lv 4 = some (xi (d : Nat)) → xz v0 xs u (fun o X => ∃ r' f', o = .inl r' ∧ X = (xh f', u) ∧ r' = some (xi (smk (salone r t) 8)) ∧ f' = f) 95 5 lv [] f := by
  have hr0 := hr
  obtain ⟨hp, l, hf, hl, h0, h8, hrd⟩ := hr
  intro k
  induction k with
  | zero =>
    intro d lv hk2 l0 l1 l2 l3 l4
    have e9 : d = 8 := by omega
    subst e9
    refine x_iload rfl l4 ?_
    refine x_bipush rfl (by decide) ?_
    refine x_cge (t := 97) rfl rfl (by decide) (by decide) (fun _ => ?_) (fun h => absurd h (by decide))
    refine x_iload_n rfl l3 ?_
    exact x_ireturn rfl (Or.inl rfl) ⟨_, _, rfl, rfl, rfl, rfl⟩
  | succ k ih =>
    intro d lv hk2 l0 l1 l2 l3 l4
    have hd : d < 8 := by omega
    obtain ⟨d1, d2⟩ := hrd d hd
    have d3 := d2
    unfold sok at d3
    refine x_iload rfl l4 ?_
    refine x_bipush rfl (by decide) ?_
    refine x_cge (t := 97) rfl rfl ⟨by omega, by omega⟩ (by decide) (fun h => by omega) (fun _ => ?_)
    refine x_aload_n rfl l0 ?_
    refine x_iload_n rfl l1 ?_
    refine x_iload rfl l4 ?_
    refine x_iadd rfl ?_
    refine x_iaload rfl hp hf ⟨by omega, by omega⟩ hl ?_
    rw [d1]
    refine x_iload_n rfl l2 ?_
    refine x_iadd rfl ?_
    refine x_iconst rfl ?_
    refine x_irem rfl ⟨by omega, by omega⟩ (by decide) ?_
    refine x_istore rfl (show (5 : Nat) < 8 from by decide) ?_
    refine x_iconst rfl ?_
    refine x_istore rfl (show (6 : Nat) < 8 from by decide) ?_
    refine x_iconst rfl ?_
    refine x_istore rfl (show (7 : Nat) < 8 from by decide) ?_
    have ew : (r d + t) % 4 = (sF (r d) + t) % 4 := by unfold sF; omega
    rw [ew]
    refine xs_95i hr0 hd (w := (sF (r d) + t) % 4) (ch := smk (salone r t) d) (by omega) (fun lv2 m0 m1 m2 m3 m4 m6 => ?_) 8 0 _ rfl (xst_ne (by decide) (xst_ne (by decide) (xst_ne (by decide) l0 (Or.inl rfl)) (Or.inl rfl)) (Or.inl rfl)) (xst_ne (by decide) (xst_ne (by decide) (xst_ne (by decide) l1 (Or.inl rfl)) (Or.inl rfl)) (Or.inl rfl)) (xst_ne (by decide) (xst_ne (by decide) (xst_ne (by decide) l2 (Or.inl rfl)) (Or.inl rfl)) (Or.inl rfl)) (xst_ne (by decide) (xst_ne (by decide) (xst_ne (by decide) l3 (Or.inl rfl)) (Or.inl rfl)) (Or.inl rfl)) (xst_ne (by decide) (xst_ne (by decide) (xst_ne (by decide) l4 (Or.inl rfl)) (Or.inl rfl)) (Or.inl rfl)) (xst_ne (by decide) (xst_ne (by decide) xst_eq (Or.inl rfl)) (Or.inl rfl)) (xst_ne (by decide) xst_eq (Or.inl rfl)) xst_eq
    refine x_iload rfl m6 ?_
    by_cases ha : salone r t d = true
    · rw [if_pos (show sall (fun e => !slies (r d) (r e) ((sF (r d) + t) % 4)) 8 = true from ha)]
      refine x_ifeq (t := 91) rfl rfl (by decide) (fun h => absurd h (by decide)) (fun _ => ?_)
      refine x_iload_n rfl m3 ?_
      refine x_iconst rfl ?_
      refine x_iload rfl m4 ?_
      refine x_ishl rfl ?_
      refine x_iorg rfl (sm_orbit _ hd) ?_
      refine x_istore_n rfl (show (3 : Nat) < 8 from by decide) ?_
      refine x_iinc rfl (xst_ne (by decide) m4 (Or.inl rfl)) (show (4 : Nat) < 8 from by decide) ?_
      refine x_goto (t := 5) rfl rfl ?_
      refine ih (d + 1) _ (by omega) (xst_ne (by decide) (xst_ne (by decide) m0 (Or.inl rfl)) (Or.inl rfl)) (xst_ne (by decide) (xst_ne (by decide) m1 (Or.inl rfl)) (Or.inl rfl)) (xst_ne (by decide) (xst_ne (by decide) m2 (Or.inl rfl)) (Or.inl rfl)) ?_ xst_eq
      have e4 : smk (salone r t) (d + 1) = smk (salone r t) d + ((2 ^ d : Nat) : Int) := by
        simp only [smk]
        rw [if_pos ha]
      rw [e4]
      exact xst_ne (by decide) xst_eq (Or.inl rfl)
    · rw [if_neg (show ¬ sall (fun e => !slies (r d) (r e) ((sF (r d) + t) % 4)) 8 = true from ha)]
      refine x_ifeq (t := 91) rfl rfl (by decide) (fun _ => ?_) (fun h => absurd rfl h)
      refine x_iinc rfl m4 (show (4 : Nat) < 8 from by decide) ?_
      refine x_goto (t := 5) rfl rfl ?_
      refine ih (d + 1) _ (by omega) (xst_ne (by decide) m0 (Or.inl rfl)) (xst_ne (by decide) m1 (Or.inl rfl)) (xst_ne (by decide) m2 (Or.inl rfl)) ?_ xst_eq
      have e4 : smk (salone r t) (d + 1) = smk (salone r t) d := by
        simp only [smk]
        rw [if_neg ha, Int.add_zero]
      rw [e4]
      exact xst_ne (by decide) m3 (Or.inl rfl)
theorem xs_95 {v0 : Value} {xs : List Int32} {u : Nat × Nat} {f : Nat → zE} {p : Nat} {fr t : Int} {r : Nat → Int} (ht : 0 ≤ t ∧ t ≤ 3) (hr : sRW f p fr r) : xq v0 xs u 95 [(0, .ref p), (1, xi fr), (2, xi t)] f (fun r' f' => r' = some (xi (smk (salone r t) 8)) ∧ f' = f) := by
  unfold xq
  refine x_iconst rfl ?_
  refine x_istore_n rfl (show (3 : Nat) < 8 from by decide) ?_
  refine x_iconst rfl ?_
  refine x_istore rfl (show (4 : Nat) < 8 from by decide) ?_
  exact xs_95o ht hr 8 0 _ rfl (xst_ne (by decide) (xst_ne (by decide) rfl (Or.inl rfl)) (Or.inl rfl)) (xst_ne (by decide) (xst_ne (by decide) rfl (Or.inl rfl)) (Or.inl rfl)) (xst_ne (by decide) (xst_ne (by decide) rfl (Or.inl rfl)) (Or.inl rfl)) (xst_ne (by decide) xst_eq (Or.inl rfl)) xst_eq
/-! The class's chosen: 97. -/
theorem xs_97 {v0 : Value} {xs : List Int32} {u : Nat × Nat} {f : Nat → zE} {p : Nat} {fr s : Int} {r : Nat → Int} {dl : List Int} (hp5 : p ≠ 115) (h114 : f 114 = .inl (7, [.ref 115])) (h115 : f 115 = xr 0 dl) (hdl : dl.length = 8) (hs : 0 ≤ s ∧ s ≤ 12) (hr : sRW f p fr r) : xq v0 xs u 97 [(0, .ref 114), (1, xi s), (2, .ref p), (3, xi fr)] f (fun r' f' => r' = some (xi (smk (shas s r) 8)) ∧ (∃ dl : List Int, f' 115 = xr 0 dl ∧ dl.length = 8) ∧ ∀ q, q ≠ 115 → f' q = f q) := by
  unfold xq
  have D : ∃ dl : List Int, f 115 = xr 0 dl ∧ dl.length = 8 := ⟨dl, h115, hdl⟩
  have hsh : ∀ P : Nat → Bool, (∀ d, d < 8 → P d = shas s r d) → smk P 8 = smk (shas s r) 8 := fun P h => smk_congr 8 h
  refine x_iload_n rfl rfl ?_
  rcases (show s = 0 ∨ s = 1 ∨ s = 2 ∨ s = 3 ∨ s = 4 ∨ s = 5 ∨ s = 6 ∨ s = 7 ∨ s = 8 ∨ s = 9 ∨ s = 10 ∨ s = 11 ∨ s = 12 by omega) with rfl | rfl | rfl | rfl | rfl | rfl | rfl | rfl | rfl | rfl | rfl | rfl | rfl
  · refine x_sw (t := 68) (e := 67) rfl (by decide) (by decide) rfl ?_
    refine x_sipush rfl (by decide) ?_
    exact x_ireturn rfl (Or.inl rfl) ⟨_, _, rfl, rfl, by rw [← hsh (fun _ => true) (fun d hd => rfl), sm_255], D, fun _ _ => rfl⟩
  · refine x_sw (t := 72) (e := 71) rfl (by decide) (by decide) rfl ?_
    refine x_bipush rfl (by decide) ?_
    exact x_ireturn rfl (Or.inl rfl) ⟨_, _, rfl, rfl, by rw [← hsh (fun d => d % 2 == 0) (fun d hd => rfl), sm_consts.1], D, fun _ _ => rfl⟩
  · refine x_sw (t := 75) (e := 74) rfl (by decide) (by decide) rfl ?_
    refine x_sipush rfl (by decide) ?_
    exact x_ireturn rfl (Or.inl rfl) ⟨_, _, rfl, rfl, by rw [← hsh (fun d => d % 2 == 1) (fun d hd => rfl), sm_consts.2.1], D, fun _ _ => rfl⟩
  · refine x_sw (t := 79) (e := 78) rfl (by decide) (by decide) rfl ?_
    refine x_bipush rfl (by decide) ?_
    exact x_ireturn rfl (Or.inl rfl) ⟨_, _, rfl, rfl, by rw [← hsh (fun d => decide (d % 4 < 2)) (fun d hd => rfl), sm_consts.2.2.1], D, fun _ _ => rfl⟩
  · refine x_sw (t := 82) (e := 81) rfl (by decide) (by decide) rfl ?_
    refine x_sipush rfl (by decide) ?_
    exact x_ireturn rfl (Or.inl rfl) ⟨_, _, rfl, rfl, by rw [← hsh (fun d => decide (2 ≤ d % 4)) (fun d hd => rfl), sm_consts.2.2.2], D, fun _ _ => rfl⟩
  · refine x_sw (t := 118) (e := 117) rfl (by decide) (by decide) rfl ?_
    refine x_aload_n rfl rfl ?_
    refine x_iload_n rfl rfl ?_
    refine x_iload_n rfl rfl ?_
    refine x_iconst rfl ?_
    refine x_isub rfl ?_
    refine x_call [_, _, _] rfl rfl (show (0 : Nat) ≤ 8 from by decide) (show (3 : Nat) ≤ 5 from by decide) rfl (xs_96 (by decide) hr) (fun r' f1 hP => ?_)
    obtain ⟨rfl, rfl⟩ := hP
    exact x_ireturn rfl (Or.inl rfl) ⟨_, _, rfl, rfl, by rw [← hsh (fun d => sF (r d) == (5 : Int) - 5) (fun d hd => rfl)], D, fun _ _ => rfl⟩
  · refine x_sw (t := 118) (e := 117) rfl (by decide) (by decide) rfl ?_
    refine x_aload_n rfl rfl ?_
    refine x_iload_n rfl rfl ?_
    refine x_iload_n rfl rfl ?_
    refine x_iconst rfl ?_
    refine x_isub rfl ?_
    refine x_call [_, _, _] rfl rfl (show (0 : Nat) ≤ 8 from by decide) (show (3 : Nat) ≤ 5 from by decide) rfl (xs_96 (by decide) hr) (fun r' f1 hP => ?_)
    obtain ⟨rfl, rfl⟩ := hP
    exact x_ireturn rfl (Or.inl rfl) ⟨_, _, rfl, rfl, by rw [← hsh (fun d => sF (r d) == (6 : Int) - 5) (fun d hd => rfl)], D, fun _ _ => rfl⟩
  · refine x_sw (t := 118) (e := 117) rfl (by decide) (by decide) rfl ?_
    refine x_aload_n rfl rfl ?_
    refine x_iload_n rfl rfl ?_
    refine x_iload_n rfl rfl ?_
    refine x_iconst rfl ?_
    refine x_isub rfl ?_
    refine x_call [_, _, _] rfl rfl (show (0 : Nat) ≤ 8 from by decide) (show (3 : Nat) ≤ 5 from by decide) rfl (xs_96 (by decide) hr) (fun r' f1 hP => ?_)
    obtain ⟨rfl, rfl⟩ := hP
    exact x_ireturn rfl (Or.inl rfl) ⟨_, _, rfl, rfl, by rw [← hsh (fun d => sF (r d) == (7 : Int) - 5) (fun d hd => rfl)], D, fun _ _ => rfl⟩
  · refine x_sw (t := 118) (e := 117) rfl (by decide) (by decide) rfl ?_
    refine x_aload_n rfl rfl ?_
    refine x_iload_n rfl rfl ?_
    refine x_iload_n rfl rfl ?_
    refine x_iconst rfl ?_
    refine x_isub rfl ?_
    refine x_call [_, _, _] rfl rfl (show (0 : Nat) ≤ 8 from by decide) (show (3 : Nat) ≤ 5 from by decide) rfl (xs_96 (by decide) hr) (fun r' f1 hP => ?_)
    obtain ⟨rfl, rfl⟩ := hP
    exact x_ireturn rfl (Or.inl rfl) ⟨_, _, rfl, rfl, by rw [← hsh (fun d => sF (r d) == (8 : Int) - 5) (fun d hd => rfl)], D, fun _ _ => rfl⟩
  · refine x_sw (t := 86) (e := 85) rfl (by decide) (by decide) rfl ?_
    refine x_aload_n rfl rfl ?_
    refine x_aload_n rfl rfl ?_
    refine x_iload_n rfl rfl ?_
    refine x_call [_, _, _] rfl rfl (show (0 : Nat) ≤ 8 from by decide) (show (3 : Nat) ≤ 7 from by decide) (x_rcv (by decide) h114) (xs_93 hp5 h114 h115 hdl hr) (fun r' f1 hP => ?_)
    obtain ⟨rfl, ⟨dl2, g1, g2, -⟩, hfr⟩ := hP
    exact x_ireturn rfl (Or.inl rfl) ⟨_, _, rfl, rfl, by rw [← hsh (scen r) (fun d hd => rfl)], ⟨dl2, g1, g2⟩, hfr⟩
  · refine x_sw (t := 93) (e := 92) rfl (by decide) (by decide) rfl ?_
    refine x_sipush rfl (by decide) ?_
    refine x_aload_n rfl rfl ?_
    refine x_aload_n rfl rfl ?_
    refine x_iload_n rfl rfl ?_
    refine x_call [_, _, _] rfl rfl (show (1 : Nat) ≤ 8 from by decide) (show (3 : Nat) ≤ 7 from by decide) (x_rcv (by decide) h114) (xs_93 hp5 h114 h115 hdl hr) (fun r' f1 hP => ?_)
    obtain ⟨rfl, ⟨dl2, g1, g2, -⟩, hfr⟩ := hP
    refine x_ixorg rfl (show Int32.ofInt 255 ^^^ Int32.ofInt (smk (scen r) 8) = Int32.ofInt (smk (shas 10 r) 8) from ?_) ?_
    · rw [← sm_255, sm_xor]
      congr 1
      refine hsh _ (fun d hd => ?_)
      show (true != scen r d) = !scen r d
      cases scen r d <;> rfl
    · exact x_ireturn rfl (Or.inl rfl) ⟨_, _, rfl, rfl, rfl, ⟨dl2, g1, g2⟩, hfr⟩
  · refine x_sw (t := 104) (e := 103) rfl (by decide) (by decide) rfl ?_
    refine x_aload_n rfl rfl ?_
    refine x_iload_n rfl rfl ?_
    refine x_iconst rfl ?_
    refine x_call [_, _, _] rfl rfl (show (0 : Nat) ≤ 8 from by decide) (show (3 : Nat) ≤ 8 from by decide) rfl (xs_95 (by decide) hr) (fun r' f1 hP => ?_)
    obtain ⟨rfl, rfl⟩ := hP
    exact x_ireturn rfl (Or.inl rfl) ⟨_, _, rfl, rfl, by rw [← hsh (salone r 0) (fun d hd => rfl)], D, fun _ _ => rfl⟩
  · refine x_sw (t := 111) (e := 110) rfl (by decide) (by decide) rfl ?_
    refine x_aload_n rfl rfl ?_
    refine x_iload_n rfl rfl ?_
    refine x_iconst rfl ?_
    refine x_call [_, _, _] rfl rfl (show (0 : Nat) ≤ 8 from by decide) (show (3 : Nat) ≤ 8 from by decide) rfl (xs_95 (by decide) hr) (fun r' f1 hP => ?_)
    obtain ⟨rfl, rfl⟩ := hP
    exact x_ireturn rfl (Or.inl rfl) ⟨_, _, rfl, rfl, by rw [← hsh (salone r 2) (fun d hd => rfl)], D, fun _ _ => rfl⟩
end
section
/-! Arrays that are given. -/
theorem x_gets {v0 : Value} {xs : List Int32} {u : Nat × Nat} {Q : zO → zX → Prop} {mi pc a b c n p : Nat} {lv : zL} {f : Nat → zE} {st : List Value} (hc : zcd (zt v0) mi pc = some (.getstatic n, a, b, c, .ref p)) (k : xz v0 xs u Q mi (pc + 3) lv (.ref p :: st) f) : xz v0 xs u Q mi pc lv st f := x_f (q := ((pc + 3), lv, (.ref p :: st))) hc rfl k
theorem x_gar {v0 : Value} {xs : List Int32} {u : Nat × Nat} {Q : zO → zX → Prop} {mi pc a b c g : Nat} {v : Value} {lv : zL} {r : List Value} {f : Nat → zE} {z : Int} {ys : List Int32} (hc : zcd (zt v0) mi pc = some (.iaload, a, b, c, v)) (hg : zrd (zG xs) (xh f, u) g = some (.inr (.inl (0, ys)))) (hz : 0 ≤ z ∧ z < ys.length) (hl : ys.length ≤ 5000) (k : xz v0 xs u Q mi (pc + 1) lv (.int (ys.getD z.toNat 0) :: r) f) : xz v0 xs u Q mi pc lv (xi z :: .ref g :: r) f := by
  refine x_b (q := (1, .int (ys.getD z.toNat 0) :: r)) hc ?_ k
  simp only [zb, hg]
  rw [if_pos (xin hz.1 hz.2 (by omega)), (xi_clamp hz.1 (by omega)).2]
theorem zg4_at : ∀ w : Nat, w < 4 → zg4.getD w 0 = Int32.ofInt (sstr (w : Nat)) := by decide
theorem zg4_len : zg4.length = 4 := rfl
theorem zg3_at : ∀ w : Nat, w < 7 → zg3.getD w 0 = Int32.ofInt (sexch (w : Nat)) := by decide
theorem zg3_len : zg3.length = 7 := rfl
/-! The class's gone: 100. -/
theorem xs_100t {v0 : Value} {xs : List Int32} {u : Nat × Nat} {f : Nat → zE} {p w g : Int} {b : Bool} {lv : zL} (hw : 0 ≤ w ∧ w ≤ 3) (l0 : zlv lv 0 = some (xi p)) (l3 : zlv lv 3 = some (xi w)) (l4 : zlv lv 4 = some (xi (if b = true then 1 else 0))) (hb : g = if b = true then -1 else p + 4 * sstr w) : xz v0 xs u (fun o X => ∃ r' f', o = .inl r' ∧ X = (xh f', u) ∧ r' = some (xi g) ∧ f' = f) 100 105 lv [] f := by
  refine x_iload rfl l4 ?_
  cases b with
  | true =>
    refine x_ifeq (t := 114) rfl rfl (by decide) (fun h => absurd h (by decide)) (fun _ => ?_)
    refine x_iconst rfl ?_
    refine x_goto (t := 123) rfl rfl ?_
    exact x_ireturn rfl (Or.inl rfl) ⟨_, _, rfl, rfl, by rw [hb]; rfl, rfl⟩
  | false =>
    refine x_ifeq (t := 114) rfl rfl (by decide) (fun _ => ?_) (fun h => absurd rfl h)
    refine x_iload_n rfl l0 ?_
    refine x_iconst rfl ?_
    refine x_gets rfl ?_
    refine x_iload_n rfl l3 ?_
    refine x_gar (ys := zg4) rfl rfl ⟨by omega, by rw [zg4_len]; omega⟩ (by decide) ?_
    rw [zg4_at w.toNat (by omega), show ((w.toNat : Nat) : Int) = w by omega]
    refine x_imul rfl ?_
    refine x_iadd rfl ?_
    exact x_ireturn rfl (Or.inl rfl) ⟨_, _, rfl, rfl, by rw [hb]; rfl, rfl⟩
theorem xs_100 {v0 : Value} {xs : List Int32} {u : Nat × Nat} {f : Nat → zE} {p q : Int} (hp : sok p) (hq : 0 ≤ q ∧ q ≤ 3) : xq v0 xs u 100 [(0, xi p), (1, xi q)] f (fun r' f' => r' = some (xi (sgo p ((p + q) % 4))) ∧ f' = f) := by
  unfold xq
  have hp0 := hp
  unfold sok at hp0
  refine x_iload_n rfl rfl ?_
  refine x_iconst rfl ?_
  refine x_idiv rfl ⟨by omega, by omega⟩ (by decide) ?_
  refine x_istore_n rfl (show (2 : Nat) < 5 from by decide) ?_
  refine x_iload_n rfl (xst_ne (by decide) rfl (Or.inl rfl)) ?_
  refine x_iload_n rfl (xst_ne (by decide) rfl (Or.inl rfl)) ?_
  refine x_iadd rfl ?_
  refine x_iconst rfl ?_
  refine x_irem rfl ⟨by omega, by omega⟩ (by decide) ?_
  refine x_istore_n rfl (show (3 : Nat) < 5 from by decide) ?_
  have hw : 0 ≤ (p + q) % 4 ∧ (p + q) % 4 ≤ 3 := by omega
  have hc := sgo_cls hp hw
  generalize (p + q) % 4 = w at hw hc ⊢
  have fin : ∀ (b : Bool) (lv : zL), (sgo p w = if b = true then -1 else p + 4 * sstr w) → zlv lv 0 = some (xi p) → zlv lv 3 = some (xi w) → zlv lv 4 = some (xi (if b = true then 1 else 0)) → xz v0 xs u (fun o X => ∃ r' f', o = .inl r' ∧ X = (xh f', u) ∧ r' = some (xi (sgo p w)) ∧ f' = f) 100 105 lv [] f := fun b lv h1 h2 h3 h4 => xs_100t hw h2 h3 h4 h1
  refine x_iload_n rfl xst_eq ?_
  rcases (show w = 0 ∨ w = 1 ∨ w = 2 ∨ w = 3 by omega) with rfl | rfl | rfl | rfl
  · refine x_sw (t := 36) (e := 25) rfl (by decide) (by decide) rfl ?_
    refine x_iload_n rfl (xst_ne (by decide) xst_eq (Or.inl rfl)) ?_
    refine x_bipush rfl (by decide) ?_
    refine x_idiv rfl ⟨by omega, by omega⟩ (by decide) ?_
    refine x_bipush rfl (by decide) ?_
    refine x_cne (t := 49) rfl rfl ⟨by omega, by omega⟩ (by decide) (fun h => ?_) (fun h => ?_)
    · refine x_iconst rfl ?_
      refine x_istore rfl (show (4 : Nat) < 5 from by decide) ?_
      refine x_goto (t := 105) rfl rfl ?_
      simp only [Int.reduceEq, if_true, if_false] at hc
      refine fin false _ ?_ (xst_ne (by decide) (xst_ne (by decide) (xst_ne (by decide) rfl (Or.inl rfl)) (Or.inl rfl)) (Or.inl rfl)) (xst_ne (by decide) xst_eq (Or.inl rfl)) xst_eq
      rw [if_neg (by omega)] at hc
      rw [hc]; rfl
    · refine x_iconst rfl ?_
      refine x_goto (t := 50) rfl rfl ?_
      refine x_istore rfl (show (4 : Nat) < 5 from by decide) ?_
      refine x_goto (t := 105) rfl rfl ?_
      simp only [Int.reduceEq, if_true, if_false] at hc
      refine fin true _ ?_ (xst_ne (by decide) (xst_ne (by decide) (xst_ne (by decide) rfl (Or.inl rfl)) (Or.inl rfl)) (Or.inl rfl)) (xst_ne (by decide) xst_eq (Or.inl rfl)) xst_eq
      rw [if_pos (by omega)] at hc
      rw [hc]; rfl
  · refine x_sw (t := 55) (e := 44) rfl (by decide) (by decide) rfl ?_
    refine x_iload_n rfl (xst_ne (by decide) xst_eq (Or.inl rfl)) ?_
    refine x_bipush rfl (by decide) ?_
    refine x_irem rfl ⟨by omega, by omega⟩ (by decide) ?_
    refine x_bipush rfl (by decide) ?_
    refine x_cne (t := 68) rfl rfl ⟨by omega, by omega⟩ (by decide) (fun h => ?_) (fun h => ?_)
    · refine x_iconst rfl ?_
      refine x_istore rfl (show (4 : Nat) < 5 from by decide) ?_
      refine x_goto (t := 105) rfl rfl ?_
      simp only [Int.reduceEq, if_true, if_false] at hc
      refine fin false _ ?_ (xst_ne (by decide) (xst_ne (by decide) (xst_ne (by decide) rfl (Or.inl rfl)) (Or.inl rfl)) (Or.inl rfl)) (xst_ne (by decide) xst_eq (Or.inl rfl)) xst_eq
      rw [if_neg (by omega)] at hc
      rw [hc]; rfl
    · refine x_iconst rfl ?_
      refine x_goto (t := 69) rfl rfl ?_
      refine x_istore rfl (show (4 : Nat) < 5 from by decide) ?_
      refine x_goto (t := 105) rfl rfl ?_
      simp only [Int.reduceEq, if_true, if_false] at hc
      refine fin true _ ?_ (xst_ne (by decide) (xst_ne (by decide) (xst_ne (by decide) rfl (Or.inl rfl)) (Or.inl rfl)) (Or.inl rfl)) (xst_ne (by decide) xst_eq (Or.inl rfl)) xst_eq
      rw [if_pos (by omega)] at hc
      rw [hc]; rfl
  · refine x_sw (t := 74) (e := 63) rfl (by decide) (by decide) rfl ?_
    refine x_iload_n rfl (xst_ne (by decide) xst_eq (Or.inl rfl)) ?_
    refine x_bipush rfl (by decide) ?_
    refine x_idiv rfl ⟨by omega, by omega⟩ (by decide) ?_
    refine x_ifne (t := 85) rfl rfl ⟨by omega, by omega⟩ (fun h => ?_) (fun h => ?_)
    · refine x_iconst rfl ?_
      refine x_istore rfl (show (4 : Nat) < 5 from by decide) ?_
      refine x_goto (t := 105) rfl rfl ?_
      simp only [Int.reduceEq, if_true, if_false] at hc
      refine fin false _ ?_ (xst_ne (by decide) (xst_ne (by decide) (xst_ne (by decide) rfl (Or.inl rfl)) (Or.inl rfl)) (Or.inl rfl)) (xst_ne (by decide) xst_eq (Or.inl rfl)) xst_eq
      rw [if_neg (by omega)] at hc
      rw [hc]; rfl
    · refine x_iconst rfl ?_
      refine x_goto (t := 86) rfl rfl ?_
      refine x_istore rfl (show (4 : Nat) < 5 from by decide) ?_
      refine x_goto (t := 105) rfl rfl ?_
      simp only [Int.reduceEq, if_true, if_false] at hc
      refine fin true _ ?_ (xst_ne (by decide) (xst_ne (by decide) (xst_ne (by decide) rfl (Or.inl rfl)) (Or.inl rfl)) (Or.inl rfl)) (xst_ne (by decide) xst_eq (Or.inl rfl)) xst_eq
      rw [if_pos (by omega)] at hc
      rw [hc]; rfl
  · refine x_sw (t := 91) (e := 80) rfl (by decide) (by decide) rfl ?_
    refine x_iload_n rfl (xst_ne (by decide) xst_eq (Or.inl rfl)) ?_
    refine x_bipush rfl (by decide) ?_
    refine x_irem rfl ⟨by omega, by omega⟩ (by decide) ?_
    refine x_ifne (t := 102) rfl rfl ⟨by omega, by omega⟩ (fun h => ?_) (fun h => ?_)
    · refine x_iconst rfl ?_
      refine x_istore rfl (show (4 : Nat) < 5 from by decide) ?_
      simp only [Int.reduceEq, if_true, if_false] at hc
      refine fin false _ ?_ (xst_ne (by decide) (xst_ne (by decide) (xst_ne (by decide) rfl (Or.inl rfl)) (Or.inl rfl)) (Or.inl rfl)) (xst_ne (by decide) xst_eq (Or.inl rfl)) xst_eq
      rw [if_neg (by omega)] at hc
      rw [hc]; rfl
    · refine x_iconst rfl ?_
      refine x_goto (t := 103) rfl rfl ?_
      refine x_istore rfl (show (4 : Nat) < 5 from by decide) ?_
      simp only [Int.reduceEq, if_true, if_false] at hc
      refine fin true _ ?_ (xst_ne (by decide) (xst_ne (by decide) (xst_ne (by decide) rfl (Or.inl rfl)) (Or.inl rfl)) (Or.inl rfl)) (xst_ne (by decide) xst_eq (Or.inl rfl)) xst_eq
      rw [if_pos (by omega)] at hc
      rw [hc]; rfl
/-! The class's turned and moved: 101, 102. -/
theorem xs_101 {v0 : Value} {xs : List Int32} {u : Nat × Nat} {f : Nat → zE} {p q : Int} (hp : sok p) (hq : 0 ≤ q ∧ q ≤ 3) : xq v0 xs u 101 [(0, xi p), (1, xi q)] f (fun r' f' => r' = some (xi (4 * (p / 4) + (p + q) % 4)) ∧ f' = f) := by
  unfold xq
  unfold sok at hp
  refine x_iload_n rfl rfl ?_
  refine x_iconst rfl ?_
  refine x_idiv rfl ⟨by omega, by omega⟩ (by decide) ?_
  refine x_iconst rfl ?_
  refine x_imul rfl ?_
  refine x_iload_n rfl rfl ?_
  refine x_iload_n rfl rfl ?_
  refine x_iadd rfl ?_
  refine x_iconst rfl ?_
  refine x_irem rfl ⟨by omega, by omega⟩ (by decide) ?_
  refine x_iadd rfl ?_
  exact x_ireturn rfl (Or.inl rfl) ⟨_, _, rfl, rfl, by rw [Int.mul_comm], rfl⟩
theorem xs_102 {v0 : Value} {xs : List Int32} {u : Nat × Nat} {f : Nat → zE} {p a : Int} (hp : sok p) (ha : 0 ≤ a ∧ a ≤ 6) : xq v0 xs u 102 [(0, xi p), (1, xi a)] f (fun r' f' => r' = some (xi (smv p a)) ∧ f' = f) := by
  unfold xq
  have hp0 := hp
  unfold sok at hp0
  refine x_iload_n rfl rfl ?_
  rcases (show a = 0 ∨ a = 1 ∨ a = 2 ∨ a = 3 ∨ a = 4 ∨ a = 5 ∨ a = 6 by omega) with rfl | rfl | rfl | rfl | rfl | rfl | rfl
  · refine x_sw (t := 76) (e := 75) rfl (by decide) (by decide) rfl ?_
    refine x_iload_n rfl rfl ?_
    exact x_ireturn rfl (Or.inl rfl) ⟨_, _, rfl, rfl, rfl, rfl⟩
  · refine x_sw (t := 40) (e := 39) rfl (by decide) (by decide) rfl ?_
    refine x_iload_n rfl rfl ?_
    refine x_iconst rfl ?_
    refine x_call [_, _] rfl rfl (show (0 : Nat) ≤ 8 from by decide) (show (2 : Nat) ≤ 5 from by decide) rfl (xs_100 hp (by decide)) (fun r' f1 hP => ?_)
    obtain ⟨rfl, rfl⟩ := hP
    refine x_ireturn rfl (Or.inl rfl) ⟨_, _, rfl, rfl, ?_, rfl⟩
    have e : (p + 0) % 4 = sway (sF p) 1 := by
      unfold sway sF
      simp only [Int.reduceEq, if_true, if_false]
      omega
    rw [e]; rfl
  · refine x_sw (t := 52) (e := 51) rfl (by decide) (by decide) rfl ?_
    refine x_iload_n rfl rfl ?_
    refine x_iconst rfl ?_
    refine x_call [_, _] rfl rfl (show (0 : Nat) ≤ 8 from by decide) (show (2 : Nat) ≤ 5 from by decide) rfl (xs_100 hp (by decide)) (fun r' f1 hP => ?_)
    obtain ⟨rfl, rfl⟩ := hP
    refine x_ireturn rfl (Or.inl rfl) ⟨_, _, rfl, rfl, ?_, rfl⟩
    have e : (p + 2) % 4 = sway (sF p) 2 := by
      unfold sway sF
      simp only [Int.reduceEq, if_true, if_false]
      omega
    rw [e]; rfl
  · refine x_sw (t := 58) (e := 57) rfl (by decide) (by decide) rfl ?_
    refine x_iload_n rfl rfl ?_
    refine x_iconst rfl ?_
    refine x_call [_, _] rfl rfl (show (0 : Nat) ≤ 8 from by decide) (show (2 : Nat) ≤ 5 from by decide) rfl (xs_100 hp (by decide)) (fun r' f1 hP => ?_)
    obtain ⟨rfl, rfl⟩ := hP
    refine x_ireturn rfl (Or.inl rfl) ⟨_, _, rfl, rfl, ?_, rfl⟩
    have e : (p + 3) % 4 = sway (sF p) 3 := by
      unfold sway sF
      simp only [Int.reduceEq, if_true, if_false]
      omega
    rw [e]; rfl
  · refine x_sw (t := 46) (e := 45) rfl (by decide) (by decide) rfl ?_
    refine x_iload_n rfl rfl ?_
    refine x_iconst rfl ?_
    refine x_call [_, _] rfl rfl (show (0 : Nat) ≤ 8 from by decide) (show (2 : Nat) ≤ 5 from by decide) rfl (xs_100 hp (by decide)) (fun r' f1 hP => ?_)
    obtain ⟨rfl, rfl⟩ := hP
    refine x_ireturn rfl (Or.inl rfl) ⟨_, _, rfl, rfl, ?_, rfl⟩
    have e : (p + 1) % 4 = sway (sF p) 4 := by
      unfold sway sF
      simp only [Int.reduceEq, if_true, if_false]
      omega
    rw [e]; rfl
  · refine x_sw (t := 70) (e := 69) rfl (by decide) (by decide) rfl ?_
    refine x_iload_n rfl rfl ?_
    refine x_iconst rfl ?_
    refine x_call [_, _] rfl rfl (show (0 : Nat) ≤ 8 from by decide) (show (2 : Nat) ≤ 2 from by decide) rfl (xs_101 hp (by decide)) (fun r' f1 hP => ?_)
    obtain ⟨rfl, rfl⟩ := hP
    exact x_ireturn rfl (Or.inl rfl) ⟨_, _, rfl, rfl, rfl, rfl⟩
  · refine x_sw (t := 64) (e := 63) rfl (by decide) (by decide) rfl ?_
    refine x_iload_n rfl rfl ?_
    refine x_iconst rfl ?_
    refine x_call [_, _] rfl rfl (show (0 : Nat) ≤ 8 from by decide) (show (2 : Nat) ≤ 2 from by decide) rfl (xs_101 hp (by decide)) (fun r' f1 hP => ?_)
    obtain ⟨rfl, rfl⟩ := hP
    exact x_ireturn rfl (Or.inl rfl) ⟨_, _, rfl, rfl, rfl, rfl⟩
end
section
/-! The class's crossing: 103. -/
/-- a row of eight places in a list -/
def sRL (l : List Int) (fr : Int) (r : Nat → Int) : Prop := 0 ≤ fr ∧ fr + 8 ≤ (l.length : Nat) ∧ ∀ d, d < 8 → l.getD (fr + (d : Nat)).toNat 0 = r d ∧ sok (r d)
theorem sRL_RW {f : Nat → zE} {p : Nat} {fr : Int} {r : Nat → Int} {l : List Int} (hp : 50 ≤ p ∧ p < 204) (hf : f p = xr 0 l) (hl : l.length ≤ 5000) (h : sRL l fr r) : sRW f p fr r := ⟨hp, l, hf, hl, h.1, h.2.1, h.2.2⟩
theorem xs_103 {v0 : Value} {xs : List Int32} {u : Nat × Nat} {f : Nat → zE} {p : Nat} {fr : Int} {r r2 : Nat → Int} {a b : Nat} {ma mb : Int} {l : List Int} (ha : a < 8) (hb : b < 8) (hp : 50 ≤ p ∧ p < 204) (hf : f p = xr 0 l) (hl : l.length ≤ 5000) (hr : sRL l fr r) (hr2 : sRL l (fr + 8) r2) (h1 : r2 a = smv (r a) ma) (h2 : r2 b = smv (r b) mb) : xq v0 xs u 103 [(0, .ref p), (1, xi fr), (2, xi (a : Nat)), (3, xi (b : Nat))] f (fun r' f' => r' = some (xi (if scr (r a) (r b) (r2 a) (r2 b) = true then 1 else 0)) ∧ f' = f) := by
  unfold xq
  obtain ⟨g0, g8, hrd⟩ := hr
  obtain ⟨g0', g8', hrd'⟩ := hr2
  obtain ⟨va, ra⟩ := hrd a ha
  obtain ⟨vb, rb⟩ := hrd b hb
  obtain ⟨wa, qa⟩ := hrd' a ha
  obtain ⟨wb, qb⟩ := hrd' b hb
  have hsc : scr (r a) (r b) (r2 a) (r2 b) = (decide (r2 a / 4 = r b / 4 ∧ r2 b / 4 = r a / 4) && !(decide (r a / 4 + sstr (sF (r a)) = r b / 4 ∧ r b / 4 + sstr (sF (r b)) = r a / 4) || decide (r a / 4 - sstr (sF (r a)) = r b / 4 ∧ r b / 4 - sstr (sF (r b)) = r a / 4))) := by
    have n1 : smv (r a) ma ≠ -1 := by rw [← h1]; unfold sok at qa; omega
    have n2 : smv (r b) mb ≠ -1 := by rw [← h2]; unfold sok at qb; omega
    rw [h1, h2]
    exact scr_cls ra rb n1 n2
  rw [hsc]
  have fa := sF_rg (r a)
  have fb := sF_rg (r b)
  have da : -10 ≤ sstr (sF (r a)) ∧ sstr (sF (r a)) ≤ 10 := by
    rcases (show sF (r a) = 0 ∨ sF (r a) = 1 ∨ sF (r a) = 2 ∨ sF (r a) = 3 by omega) with e | e | e | e <;> rw [e] <;> decide
  have db : -10 ≤ sstr (sF (r b)) ∧ sstr (sF (r b)) ≤ 10 := by
    rcases (show sF (r b) = 0 ∨ sF (r b) = 1 ∨ sF (r b) = 2 ∨ sF (r b) = 3 by omega) with e | e | e | e <;> rw [e] <;> decide
  unfold sok at ra rb qa qb
  generalize hA : sstr (sF (r a)) = A at da ⊢
  generalize hB : sstr (sF (r b)) = B at db ⊢
  refine x_aload_n rfl rfl ?_
  refine x_iload_n rfl rfl ?_
  refine x_iload_n rfl rfl ?_
  refine x_iadd rfl ?_
  refine x_iaload rfl hp hf ⟨by omega, by omega⟩ hl ?_
  rw [va]
  refine x_iconst rfl ?_
  refine x_idiv rfl ⟨by omega, by omega⟩ (by decide) ?_
  refine x_istore rfl (show (4 : Nat) < 10 from by decide) ?_
  refine x_aload_n rfl (xst_ne (by decide) rfl (Or.inl rfl)) ?_
  refine x_iload_n rfl (xst_ne (by decide) rfl (Or.inl rfl)) ?_
  refine x_iload_n rfl (xst_ne (by decide) rfl (Or.inl rfl)) ?_
  refine x_iadd rfl ?_
  refine x_iaload rfl hp hf ⟨by omega, by omega⟩ hl ?_
  rw [vb]
  refine x_iconst rfl ?_
  refine x_idiv rfl ⟨by omega, by omega⟩ (by decide) ?_
  refine x_istore rfl (show (5 : Nat) < 10 from by decide) ?_
  refine x_aload_n rfl (xst_ne (by decide) (xst_ne (by decide) rfl (Or.inl rfl)) (Or.inl rfl)) ?_
  refine x_iload_n rfl (xst_ne (by decide) (xst_ne (by decide) rfl (Or.inl rfl)) (Or.inl rfl)) ?_
  refine x_bipush rfl (by decide) ?_
  refine x_iadd rfl ?_
  refine x_iload_n rfl (xst_ne (by decide) (xst_ne (by decide) rfl (Or.inl rfl)) (Or.inl rfl)) ?_
  refine x_iadd rfl ?_
  refine x_iaload rfl hp hf ⟨by omega, by omega⟩ hl ?_
  rw [wa]
  refine x_iconst rfl ?_
  refine x_idiv rfl ⟨by omega, by omega⟩ (by decide) ?_
  refine x_iload rfl xst_eq ?_
  refine x_cne (t := 48) rfl rfl ⟨by omega, by omega⟩ ⟨by omega, by omega⟩ (fun hx => ?_) (fun hx => ?_)
  · refine x_iconst rfl ?_
    exact x_ireturn rfl (Or.inr (Or.inl ⟨rfl, by decide⟩)) ⟨_, _, rfl, rfl, by rw [decide_eq_false (fun h => hx h.1)]; rfl, rfl⟩
  refine x_aload_n rfl (xst_ne (by decide) (xst_ne (by decide) rfl (Or.inl rfl)) (Or.inl rfl)) ?_
  refine x_iload_n rfl (xst_ne (by decide) (xst_ne (by decide) rfl (Or.inl rfl)) (Or.inl rfl)) ?_
  refine x_bipush rfl (by decide) ?_
  refine x_iadd rfl ?_
  refine x_iload_n rfl (xst_ne (by decide) (xst_ne (by decide) rfl (Or.inl rfl)) (Or.inl rfl)) ?_
  refine x_iadd rfl ?_
  refine x_iaload rfl hp hf ⟨by omega, by omega⟩ hl ?_
  rw [wb]
  refine x_iconst rfl ?_
  refine x_idiv rfl ⟨by omega, by omega⟩ (by decide) ?_
  refine x_iload rfl (xst_ne (by decide) xst_eq (Or.inl rfl)) ?_
  refine x_ceq (t := 50) rfl rfl ⟨by omega, by omega⟩ ⟨by omega, by omega⟩ (fun hy => ?_) (fun hy => ?_)
  rotate_left
  · refine x_iconst rfl ?_
    exact x_ireturn rfl (Or.inr (Or.inl ⟨rfl, by decide⟩)) ⟨_, _, rfl, rfl, by rw [decide_eq_false (fun h => hy h.2)]; rfl, rfl⟩
  rw [decide_eq_true (show r2 a / 4 = r b / 4 ∧ r2 b / 4 = r a / 4 from ⟨hx, hy⟩), Bool.true_and]
  refine x_gets rfl ?_
  refine x_aload_n rfl (xst_ne (by decide) (xst_ne (by decide) rfl (Or.inl rfl)) (Or.inl rfl)) ?_
  refine x_iload_n rfl (xst_ne (by decide) (xst_ne (by decide) rfl (Or.inl rfl)) (Or.inl rfl)) ?_
  refine x_iload_n rfl (xst_ne (by decide) (xst_ne (by decide) rfl (Or.inl rfl)) (Or.inl rfl)) ?_
  refine x_iadd rfl ?_
  refine x_iaload rfl hp hf ⟨by omega, by omega⟩ hl ?_
  rw [va]
  refine x_iconst rfl ?_
  refine x_irem rfl ⟨by omega, by omega⟩ (by decide) ?_
  refine x_gar (ys := zg4) rfl rfl ⟨by omega, by rw [zg4_len]; omega⟩ (by decide) ?_
  rw [zg4_at (r a % 4).toNat (by omega), show (((r a % 4).toNat : Nat) : Int) = sF (r a) by unfold sF; omega, hA]
  refine x_istore rfl (show (6 : Nat) < 10 from by decide) ?_
  refine x_gets rfl ?_
  refine x_aload_n rfl (xst_ne (by decide) (xst_ne (by decide) (xst_ne (by decide) rfl (Or.inl rfl)) (Or.inl rfl)) (Or.inl rfl)) ?_
  refine x_iload_n rfl (xst_ne (by decide) (xst_ne (by decide) (xst_ne (by decide) rfl (Or.inl rfl)) (Or.inl rfl)) (Or.inl rfl)) ?_
  refine x_iload_n rfl (xst_ne (by decide) (xst_ne (by decide) (xst_ne (by decide) rfl (Or.inl rfl)) (Or.inl rfl)) (Or.inl rfl)) ?_
  refine x_iadd rfl ?_
  refine x_iaload rfl hp hf ⟨by omega, by omega⟩ hl ?_
  rw [vb]
  refine x_iconst rfl ?_
  refine x_irem rfl ⟨by omega, by omega⟩ (by decide) ?_
  refine x_gar (ys := zg4) rfl rfl ⟨by omega, by rw [zg4_len]; omega⟩ (by decide) ?_
  rw [zg4_at (r b % 4).toNat (by omega), show (((r b % 4).toNat : Nat) : Int) = sF (r b) by unfold sF; omega, hB]
  refine x_istore rfl (show (7 : Nat) < 10 from by decide) ?_
  have m4 : zlv (xst 7 (xi B) (xst 6 (xi A) (xst 5 (xi (r b / 4)) (xst 4 (xi (r a / 4)) [(0, .ref p), (1, xi fr), (2, xi (a : Nat)), (3, xi (b : Nat))])))) 4 = some (xi (r a / 4)) := (xst_ne (by decide) (xst_ne (by decide) (xst_ne (by decide) xst_eq (Or.inl rfl)) (Or.inl rfl)) (Or.inl rfl))
  have m5 : zlv (xst 7 (xi B) (xst 6 (xi A) (xst 5 (xi (r b / 4)) (xst 4 (xi (r a / 4)) [(0, .ref p), (1, xi fr), (2, xi (a : Nat)), (3, xi (b : Nat))])))) 5 = some (xi (r b / 4)) := (xst_ne (by decide) (xst_ne (by decide) xst_eq (Or.inl rfl)) (Or.inl rfl))
  have m6 : zlv (xst 7 (xi B) (xst 6 (xi A) (xst 5 (xi (r b / 4)) (xst 4 (xi (r a / 4)) [(0, .ref p), (1, xi fr), (2, xi (a : Nat)), (3, xi (b : Nat))])))) 6 = some (xi A) := (xst_ne (by decide) xst_eq (Or.inl rfl))
  have m7 : zlv (xst 7 (xi B) (xst 6 (xi A) (xst 5 (xi (r b / 4)) (xst 4 (xi (r a / 4)) [(0, .ref p), (1, xi fr), (2, xi (a : Nat)), (3, xi (b : Nat))])))) 7 = some (xi B) := xst_eq
  generalize hF : decide (r a / 4 + A = r b / 4 ∧ r b / 4 + B = r a / 4) = F
  generalize hK : decide (r a / 4 - A = r b / 4 ∧ r b / 4 - B = r a / 4) = K
  have s3 : ∀ lv : zL, zlv lv 8 = some (xi (if F = true then 1 else 0)) → zlv lv 9 = some (xi (if K = true then 1 else 0)) → xz v0 xs u (fun o X => ∃ r' f', o = .inl r' ∧ X = (xh f', u) ∧ (fun r' f' => r' = some (xi (if (!(F || K)) = true then 1 else 0)) ∧ f' = f) r' f') 103 130 lv [] f := by
    intro lv n8 n9
    refine x_iload rfl n8 ?_
    cases F with
    | true =>
      refine x_ifne (t := 144) rfl rfl (by decide) (fun _ => ?_) (fun h => absurd h (by decide))
      refine x_iconst rfl ?_
      exact x_ireturn rfl (Or.inr (Or.inl ⟨rfl, by decide⟩)) ⟨_, _, rfl, rfl, rfl, rfl⟩
    | false =>
      refine x_ifne (t := 144) rfl rfl (by decide) (fun h => absurd rfl h) (fun _ => ?_)
      refine x_iload rfl n9 ?_
      cases K with
      | true =>
        refine x_ifne (t := 144) rfl rfl (by decide) (fun _ => ?_) (fun h => absurd h (by decide))
        refine x_iconst rfl ?_
        exact x_ireturn rfl (Or.inr (Or.inl ⟨rfl, by decide⟩)) ⟨_, _, rfl, rfl, rfl, rfl⟩
      | false =>
        refine x_ifne (t := 144) rfl rfl (by decide) (fun h => absurd rfl h) (fun _ => ?_)
        refine x_iconst rfl ?_
        refine x_goto (t := 145) rfl rfl ?_
        exact x_ireturn rfl (Or.inr (Or.inl ⟨rfl, by decide⟩)) ⟨_, _, rfl, rfl, rfl, rfl⟩
  have s2 : ∀ lv : zL, zlv lv 4 = some (xi (r a / 4)) → zlv lv 5 = some (xi (r b / 4)) → zlv lv 6 = some (xi A) → zlv lv 7 = some (xi B) → zlv lv 8 = some (xi (if F = true then 1 else 0)) → xz v0 xs u (fun o X => ∃ r' f', o = .inl r' ∧ X = (xh f', u) ∧ (fun r' f' => r' = some (xi (if (!(F || K)) = true then 1 else 0)) ∧ f' = f) r' f') 103 103 lv [] f := by
    intro lv n4 n5 n6 n7 n8
    refine x_iload rfl n4 ?_
    refine x_iload rfl n6 ?_
    refine x_isub rfl ?_
    refine x_iload rfl n5 ?_
    refine x_cne (t := 127) rfl rfl ⟨by omega, by omega⟩ ⟨by omega, by omega⟩ (fun h => ?_) (fun h => ?_)
    · refine x_iconst rfl ?_
      refine x_istore rfl (show (9 : Nat) < 10 from by decide) ?_
      refine s3 _ (xst_ne (by decide) n8 (Or.inl rfl)) ?_
      rw [← hK, decide_eq_false (fun hh => h hh.1)]
      exact xst_eq
    · refine x_iload rfl n5 ?_
      refine x_iload rfl n7 ?_
      refine x_isub rfl ?_
      refine x_iload rfl n4 ?_
      refine x_cne (t := 127) rfl rfl ⟨by omega, by omega⟩ ⟨by omega, by omega⟩ (fun h3 => ?_) (fun h3 => ?_)
      · refine x_iconst rfl ?_
        refine x_istore rfl (show (9 : Nat) < 10 from by decide) ?_
        refine s3 _ (xst_ne (by decide) n8 (Or.inl rfl)) ?_
        rw [← hK, decide_eq_false (fun hh => h3 hh.2)]
        exact xst_eq
      · refine x_iconst rfl ?_
        refine x_goto (t := 128) rfl rfl ?_
        refine x_istore rfl (show (9 : Nat) < 10 from by decide) ?_
        refine s3 _ (xst_ne (by decide) n8 (Or.inl rfl)) ?_
        rw [← hK, decide_eq_true (show r a / 4 - A = r b / 4 ∧ r b / 4 - B = r a / 4 from ⟨h, h3⟩)]
        exact xst_eq
  refine x_iload rfl m4 ?_
  refine x_iload rfl m6 ?_
  refine x_iadd rfl ?_
  refine x_iload rfl m5 ?_
  refine x_cne (t := 100) rfl rfl ⟨by omega, by omega⟩ ⟨by omega, by omega⟩ (fun h => ?_) (fun h => ?_)
  · refine x_iconst rfl ?_
    refine x_istore rfl (show (8 : Nat) < 10 from by decide) ?_
    refine s2 _ (xst_ne (by decide) m4 (Or.inl rfl)) (xst_ne (by decide) m5 (Or.inl rfl)) (xst_ne (by decide) m6 (Or.inl rfl)) (xst_ne (by decide) m7 (Or.inl rfl)) ?_
    rw [← hF, decide_eq_false (fun hh => h hh.1)]
    exact xst_eq
  · refine x_iload rfl m5 ?_
    refine x_iload rfl m7 ?_
    refine x_iadd rfl ?_
    refine x_iload rfl m4 ?_
    refine x_cne (t := 100) rfl rfl ⟨by omega, by omega⟩ ⟨by omega, by omega⟩ (fun h3 => ?_) (fun h3 => ?_)
    · refine x_iconst rfl ?_
      refine x_istore rfl (show (8 : Nat) < 10 from by decide) ?_
      refine s2 _ (xst_ne (by decide) m4 (Or.inl rfl)) (xst_ne (by decide) m5 (Or.inl rfl)) (xst_ne (by decide) m6 (Or.inl rfl)) (xst_ne (by decide) m7 (Or.inl rfl)) ?_
      rw [← hF, decide_eq_false (fun hh => h3 hh.2)]
      exact xst_eq
    · refine x_iconst rfl ?_
      refine x_goto (t := 101) rfl rfl ?_
      refine x_istore rfl (show (8 : Nat) < 10 from by decide) ?_
      refine s2 _ (xst_ne (by decide) m4 (Or.inl rfl)) (xst_ne (by decide) m5 (Or.inl rfl)) (xst_ne (by decide) m6 (Or.inl rfl)) (xst_ne (by decide) m7 (Or.inl rfl)) ?_
      rw [← hF, decide_eq_true (show r a / 4 + A = r b / 4 ∧ r b / 4 + B = r a / 4 from ⟨h, h3⟩)]
      exact xst_eq
end
section
/-! The class's step: 104. -/
theorem sany_f {P : Nat → Bool} {k : Nat} (h : ∀ j, j < k → P j = false) : sany P k = false := by
  cases h2 : sany P k with
  | false => rfl
  | true =>
    obtain ⟨j, hj, h3⟩ := (sany_iff P k).mp h2
    rw [h j hj] at h3
    cases h3
theorem sany_t {P : Nat → Bool} {j k : Nat} (hj : j < k) (h : P j = true) : sany P k = true := (sany_iff P k).mpr ⟨j, hj, h⟩
theorem bool_f {b : Bool} (h : ¬ b = true) : b = false := by cases b with
  | true => exact absurd rfl h
  | false => rfl
/-- no two of the pairs before (a, b) meet -/
def snm (r2 : Nat → Int) (a b : Nat) : Prop := ∀ a' b' : Nat, a' < b' → b' < 8 → (a' < a ∨ (a' = a ∧ b' < b)) → ¬ r2 a' / 4 = r2 b' / 4
/-- whether one of the pairs before (a, b) crosses -/
def scx (r r2 : Nat → Int) (a b : Nat) : Bool := sany (fun a' => sany (fun b' => decide (a' < b') && scr (r a') (r b') (r2 a') (r2 b')) 8) a || sany (fun b' => decide (a < b') && scr (r a) (r b') (r2 a) (r2 b')) b
theorem smeet_f {r2 : Nat → Int} (h : snm r2 8 0) : smeet r2 = false := by
  unfold smeet
  refine sany_f fun a ha => sany_f fun b hb => ?_
  by_cases e : a < b
  · have := h a b e hb (Or.inl ha)
    simp [this]
  · simp [e]
theorem smeet_t {r2 : Nat → Int} {a b : Nat} (h1 : a < b) (h2 : b < 8) (h : r2 a / 4 = r2 b / 4) : smeet r2 = true := by
  unfold smeet
  exact sany_t (j := a) (by omega) (sany_t (j := b) h2 (by simp [h1, h]))
theorem scx_8 (r r2 : Nat → Int) : scx r r2 8 0 = scross r r2 := by
  unfold scx scross
  simp only [sany, Bool.or_false]
theorem scx_n (r r2 : Nat → Int) (a : Nat) : scx r r2 (a + 1) 0 = scx r r2 a 8 := by
  unfold scx
  simp only [sany, Bool.or_false]
theorem scx_0 (r r2 : Nat → Int) (a : Nat) : scx r r2 a (a + 1) = scx r r2 a 0 := by
  unfold scx
  rw [sany_f (k := a + 1) (fun j hj => by simp; omega)]
  simp only [sany]
theorem scx_s (r r2 : Nat → Int) (a b : Nat) (h : a < b) : scx r r2 a (b + 1) = (scx r r2 a b || scr (r a) (r b) (r2 a) (r2 b)) := by
  unfold scx
  simp only [sany, h, decide_true, Bool.true_and, Bool.or_assoc]
theorem xs_104i {v0 : Value} {xs : List Int32} {u : Nat × Nat} {f : Nat → zE} {p : Nat} {fr : Int} {r r2 : Nat → Int} {l : List Int} {am : Nat → Int} {a : Nat} (hp : 50 ≤ p ∧ p < 204) (hf : f p = xr 0 l) (hl : l.length ≤ 5000) (hr : sRL l fr r) (hr2 : sRL l (fr + 8) r2) (hmv : ∀ d, d < 8 → r2 d = smv (r d) (am d)) (hlv : sleave r2 = false) (ha : a < 8) (hk : ∀ lv : zL, zlv lv 1 = some (.ref p) → zlv lv 2 = some (xi fr) → zlv lv 3 = some (xi (fr + 8)) → zlv lv 4 = some (xi (if scx r r2 a 8 = true then 1 else 0)) → zlv lv 5 = some (xi (a : Nat)) → snm r2 (a + 1) 0 → xz v0 xs u (fun o X => ∃ r' f', o = .inl r' ∧ X = (xh f', u) ∧ (fun r' f' => r' = some (xi (sclash r r2)) ∧ f' = f) r' f') 104 132 lv [] f) : ∀ (k b : Nat) (lv : zL), k + b = 8 → a < b → zlv lv 1 = some (.ref p) → zlv lv 2 = some (xi fr) → zlv lv 3 = some (xi (fr + 8)) → zlv lv 4 = some (xi (if scx r r2 a b = true then 1 else 0)) → zlv lv 5 = some (xi (a : Nat)) → zlv lv 6 = some (xi (b : Nat)) → snm r2 a b → xz v0 xs u (fun o X => ∃ r' f', o = .inl r' ∧ X = (xh f', u) ∧ (fun r' f' => r' = some (xi (sclash r r2)) ∧ f' = f) r' f') 104 74 lv [] f := by
  obtain ⟨wa, qa⟩ := hr2.2.2 a ha
  have g1 := hr2.1
  have g2 := hr2.2.1
  have qa0 := qa
  unfold sok at qa0
  intro k
  induction k with
  | zero =>
    intro b lv hk2 hab l1 l2 l3 l4 l5 l6 hnm
    have e : b = 8 := by omega
    subst e
    refine x_iload rfl l6 ?_
    refine x_bipush rfl (by decide) ?_
    refine x_cge (t := 132) rfl rfl (by decide) (by decide) (fun _ => ?_) (fun h => absurd h (by decide))
    refine hk lv l1 l2 l3 l4 l5 (fun a' b' h1 h2 h3 => hnm a' b' h1 h2 ?_)
    rcases h3 with h3 | h3
    · by_cases e : a' = a
      · exact Or.inr ⟨e, h2⟩
      · exact Or.inl (by omega)
    · omega
  | succ k ih =>
    intro b lv hk2 hab l1 l2 l3 l4 l5 l6 hnm
    have hb : b < 8 := by omega
    obtain ⟨wb, qb⟩ := hr2.2.2 b hb
    have qb0 := qb
    unfold sok at qb0
    refine x_iload rfl l6 ?_
    refine x_bipush rfl (by decide) ?_
    refine x_cge (t := 132) rfl rfl ⟨by omega, by omega⟩ (by decide) (fun h => by omega) (fun _ => ?_)
    refine x_aload_n rfl l1 ?_
    refine x_iload_n rfl l3 ?_
    refine x_iload rfl l5 ?_
    refine x_iadd rfl ?_
    refine x_iaload rfl hp hf ⟨by omega, by omega⟩ hl ?_
    rw [wa]
    refine x_iconst rfl ?_
    refine x_idiv rfl ⟨by omega, by omega⟩ (by decide) ?_
    refine x_aload_n rfl l1 ?_
    refine x_iload_n rfl l3 ?_
    refine x_iload rfl l6 ?_
    refine x_iadd rfl ?_
    refine x_iaload rfl hp hf ⟨by omega, by omega⟩ hl ?_
    rw [wb]
    refine x_iconst rfl ?_
    refine x_idiv rfl ⟨by omega, by omega⟩ (by decide) ?_
    refine x_cne (t := 102) rfl rfl ⟨by omega, by omega⟩ ⟨by omega, by omega⟩ (fun hne => ?_) (fun heq => ?_)
    rotate_left
    · refine x_iconst rfl ?_
      refine x_ireturn rfl (Or.inl rfl) ⟨_, _, rfl, rfl, ?_, rfl⟩
      unfold sclash
      rw [hlv, smeet_t hab hb heq]
      rfl
    have hnm2 : snm r2 a (b + 1) := fun a' b' h1 h2 h3 => by
      rcases h3 with h3 | ⟨h3, h4⟩
      · exact hnm a' b' h1 h2 (Or.inl h3)
      · by_cases e : b' = b
        · rw [h3, e]; exact hne
        · exact hnm a' b' h1 h2 (Or.inr ⟨h3, by omega⟩)
    refine x_iload rfl l4 ?_
    by_cases hc : scx r r2 a b = true
    · rw [if_pos hc]
      refine x_ifne (t := 119) rfl rfl (by decide) (fun _ => ?_) (fun h => absurd h (by decide))
      refine x_iconst rfl ?_
      refine x_goto (t := 124) rfl rfl ?_
      refine x_istore rfl (show (4 : Nat) < 7 from by decide) ?_
      refine x_iinc rfl (xst_ne (by decide) l6 (Or.inl rfl)) (show (6 : Nat) < 7 from by decide) ?_
      refine x_goto (t := 74) rfl rfl ?_
      refine ih (b + 1) _ (by omega) (by omega) (xst_ne (by decide) (xst_ne (by decide) l1 (Or.inl rfl)) (Or.inl rfl)) (xst_ne (by decide) (xst_ne (by decide) l2 (Or.inl rfl)) (Or.inl rfl)) (xst_ne (by decide) (xst_ne (by decide) l3 (Or.inl rfl)) (Or.inl rfl)) ?_ (xst_ne (by decide) (xst_ne (by decide) l5 (Or.inl rfl)) (Or.inl rfl)) xst_eq hnm2
      rw [scx_s r r2 a b hab, hc]
      exact xst_ne (by decide) xst_eq (Or.inl rfl)
    · rw [if_neg hc]
      refine x_ifne (t := 119) rfl rfl (by decide) (fun h => absurd rfl h) (fun _ => ?_)
      refine x_aload_n rfl l1 ?_
      refine x_iload_n rfl l2 ?_
      refine x_iload rfl l5 ?_
      refine x_iload rfl l6 ?_
      refine x_call [_, _, _, _] rfl rfl (show (0 : Nat) ≤ 8 from by decide) (show (4 : Nat) ≤ 10 from by decide) rfl (xs_103 ha hb hp hf hl hr hr2 (hmv a ha) (hmv b hb)) (fun r' f1 hP => ?_)
      obtain ⟨rfl, rfl⟩ := hP
      by_cases hx : scr (r a) (r b) (r2 a) (r2 b) = true
      · rw [if_pos hx]
        refine x_ifeq (t := 123) rfl rfl (by decide) (fun h => absurd h (by decide)) (fun _ => ?_)
        refine x_iconst rfl ?_
        refine x_goto (t := 124) rfl rfl ?_
        refine x_istore rfl (show (4 : Nat) < 7 from by decide) ?_
        refine x_iinc rfl (xst_ne (by decide) l6 (Or.inl rfl)) (show (6 : Nat) < 7 from by decide) ?_
        refine x_goto (t := 74) rfl rfl ?_
        refine ih (b + 1) _ (by omega) (by omega) (xst_ne (by decide) (xst_ne (by decide) l1 (Or.inl rfl)) (Or.inl rfl)) (xst_ne (by decide) (xst_ne (by decide) l2 (Or.inl rfl)) (Or.inl rfl)) (xst_ne (by decide) (xst_ne (by decide) l3 (Or.inl rfl)) (Or.inl rfl)) ?_ (xst_ne (by decide) (xst_ne (by decide) l5 (Or.inl rfl)) (Or.inl rfl)) xst_eq hnm2
        rw [scx_s r r2 a b hab, hx, Bool.or_true]
        exact xst_ne (by decide) xst_eq (Or.inl rfl)
      · rw [if_neg hx]
        refine x_ifeq (t := 123) rfl rfl (by decide) (fun _ => ?_) (fun h => absurd rfl h)
        refine x_iconst rfl ?_
        refine x_istore rfl (show (4 : Nat) < 7 from by decide) ?_
        refine x_iinc rfl (xst_ne (by decide) l6 (Or.inl rfl)) (show (6 : Nat) < 7 from by decide) ?_
        refine x_goto (t := 74) rfl rfl ?_
        refine ih (b + 1) _ (by omega) (by omega) (xst_ne (by decide) (xst_ne (by decide) l1 (Or.inl rfl)) (Or.inl rfl)) (xst_ne (by decide) (xst_ne (by decide) l2 (Or.inl rfl)) (Or.inl rfl)) (xst_ne (by decide) (xst_ne (by decide) l3 (Or.inl rfl)) (Or.inl rfl)) ?_ (xst_ne (by decide) (xst_ne (by decide) l5 (Or.inl rfl)) (Or.inl rfl)) xst_eq hnm2
        rw [scx_s r r2 a b hab, bool_f hc, bool_f hx]
        exact xst_ne (by decide) xst_eq (Or.inl rfl)
theorem xs_104o {v0 : Value} {xs : List Int32} {u : Nat × Nat} {f : Nat → zE} {p : Nat} {fr : Int} {r r2 : Nat → Int} {l : List Int} {am : Nat → Int} (hp : 50 ≤ p ∧ p < 204) (hf : f p = xr 0 l) (hl : l.length ≤ 5000) (hr : sRL l fr r) (hr2 : sRL l (fr + 8) r2) (hmv : ∀ d, d < 8 → r2 d = smv (r d) (am d)) (hlv : sleave r2 = false) : ∀ (k a : Nat) (lv : zL), k + a = 8 → zlv lv 1 = some (.ref p) → zlv lv 2 = some (xi fr) → zlv lv 3 = some (xi (fr + 8)) → zlv lv 4 = some (xi (if scx r r2 a 0 = true then 1 else 0)) → zlv lv 5 = some (xi (a : Nat)) → snm r2 a 0 → xz v0 xs u (fun o X => ∃ r' f', o = .inl r' ∧ X = (xh f', u) ∧ (fun r' f' => r' = some (xi (sclash r r2)) ∧ f' = f) r' f') 104 61 lv [] f := by
  intro k
  induction k with
  | zero =>
    intro a lv hk2 l1 l2 l3 l4 l5 hnm
    have e : a = 8 := by omega
    subst e
    refine x_iload rfl l5 ?_
    refine x_bipush rfl (by decide) ?_
    refine x_cge (t := 138) rfl rfl (by decide) (by decide) (fun _ => ?_) (fun h => absurd h (by decide))
    refine x_iload rfl l4 ?_
    rw [scx_8]
    by_cases hc : scross r r2 = true
    · rw [if_pos hc]
      refine x_ifeq (t := 147) rfl rfl (by decide) (fun h => absurd h (by decide)) (fun _ => ?_)
      refine x_iconst rfl ?_
      refine x_goto (t := 148) rfl rfl ?_
      refine x_ireturn rfl (Or.inl rfl) ⟨_, _, rfl, rfl, ?_, rfl⟩
      unfold sclash
      rw [hlv, smeet_f hnm, hc]
      rfl
    · rw [if_neg hc]
      refine x_ifeq (t := 147) rfl rfl (by decide) (fun _ => ?_) (fun h => absurd rfl h)
      refine x_iconst rfl ?_
      refine x_ireturn rfl (Or.inl rfl) ⟨_, _, rfl, rfl, ?_, rfl⟩
      unfold sclash
      rw [hlv, smeet_f hnm, bool_f hc]
      rfl
  | succ k ih =>
    intro a lv hk2 l1 l2 l3 l4 l5 hnm
    have ha : a < 8 := by omega
    refine x_iload rfl l5 ?_
    refine x_bipush rfl (by decide) ?_
    refine x_cge (t := 138) rfl rfl ⟨by omega, by omega⟩ (by decide) (fun h => by omega) (fun _ => ?_)
    refine x_iload rfl l5 ?_
    refine x_iconst rfl ?_
    refine x_iadd rfl ?_
    refine x_istore rfl (show (6 : Nat) < 7 from by decide) ?_
    refine xs_104i hp hf hl hr hr2 hmv hlv ha (fun lv2 m1 m2 m3 m4 m5 hnm2 => ?_) (7 - a) (a + 1) _ (by omega) (by omega) (xst_ne (by decide) l1 (Or.inl rfl)) (xst_ne (by decide) l2 (Or.inl rfl)) (xst_ne (by decide) l3 (Or.inl rfl)) (by rw [scx_0]; exact xst_ne (by decide) l4 (Or.inl rfl)) (xst_ne (by decide) l5 (Or.inl rfl)) xst_eq (fun a' b' h1 h2 h3 => hnm a' b' h1 h2 (by omega))
    refine x_iinc rfl m5 (show (5 : Nat) < 7 from by decide) ?_
    refine x_goto (t := 61) rfl rfl ?_
    exact ih (a + 1) _ (by omega) (xst_ne (by decide) m1 (Or.inl rfl)) (xst_ne (by decide) m2 (Or.inl rfl)) (xst_ne (by decide) m3 (Or.inl rfl)) (by rw [scx_n]; exact xst_ne (by decide) m4 (Or.inl rfl)) xst_eq hnm2
theorem xs_104l {v0 : Value} {xs : List Int32} {u : Nat × Nat} {f0 : Nat → zE} {p : Nat} {fr : Int} {r r2 : Nat → Int} {l0 al : List Int} {am : Nat → Int} (hp : 50 ≤ p ∧ p < 204) (hp6 : p ≠ 116) (hp3 : p ≠ 113) (h113 : f0 113 = .inl (6, [.ref 53, .ref 114, .ref 116])) (hl0 : l0.length ≤ 5000) (hfr : 0 ≤ fr ∧ fr + 16 ≤ (l0.length : Nat)) (h116 : f0 116 = xr 0 al) (hal : al.length = 8) (ham : ∀ d, d < 8 → al.getD d 0 = am d ∧ 0 ≤ am d ∧ am d ≤ 6) (hr : sRL l0 fr r) (hmv : ∀ d, d < 8 → r2 d = smv (r d) (am d)) : ∀ (k d : Nat) (lv : zL) (f : Nat → zE) (l : List Int), k + d = 8 → f p = xr 0 l → l.length = l0.length → (∀ j : Nat, ((j : Nat) : Int) < fr + 8 ∨ fr + 16 ≤ (j : Nat) → l.getD j 0 = l0.getD j 0) → (∀ e, e < d → l.getD (fr + 8 + (e : Nat)).toNat 0 = r2 e ∧ sok (r2 e)) → (∀ q, q ≠ p → f q = f0 q) → zlv lv 0 = some (.ref 113) → zlv lv 1 = some (.ref p) → zlv lv 2 = some (xi fr) → zlv lv 3 = some (xi (fr + 8)) → zlv lv 4 = some (xi (d : Nat)) → xz v0 xs u (fun o X => ∃ r' f', o = .inl r' ∧ X = (xh f', u) ∧ (fun r' f' => r' = some (xi (sclash r r2)) ∧ (∃ l' : List Int, f' p = xr 0 l' ∧ l'.length = l0.length ∧ (∀ j : Nat, ((j : Nat) : Int) < fr + 8 ∨ fr + 16 ≤ (j : Nat) → l'.getD j 0 = l0.getD j 0) ∧ (sleave r2 = false → ∀ d, d < 8 → l'.getD (fr + 8 + (d : Nat)).toNat 0 = r2 d)) ∧ ∀ q, q ≠ p → f' q = f0 q) r' f') 104 8 lv [] f := by
  obtain ⟨g0, g8, hrd⟩ := hr
  intro k
  induction k with
  | zero =>
    intro d lv f l hk2 hf hll hpre hnew hfr2 m0 m1 m2 m3 m4
    have e : d = 8 := by omega
    subst e
    have hlv : sleave r2 = false := by
      unfold sleave
      refine sany_f fun e he => ?_
      have := (hnew e he).2
      unfold sok at this
      rw [beq_eq_false_iff_ne]
      omega
    have hr1 : sRL l fr r := ⟨g0, by omega, fun e he => by rw [hpre _ (by omega)]; exact hrd e he⟩
    have hr3 : sRL l (fr + 8) r2 := ⟨by omega, by omega, hnew⟩
    refine x_iload rfl m4 ?_
    refine x_bipush rfl (by decide) ?_
    refine x_cge (t := 55) rfl rfl (by decide) (by decide) (fun _ => ?_) (fun h => absurd h (by decide))
    refine x_iconst rfl ?_
    refine x_istore rfl (show (4 : Nat) < 7 from by decide) ?_
    refine x_iconst rfl ?_
    refine x_istore rfl (show (5 : Nat) < 7 from by decide) ?_
    refine zwp_mono (xs_104o hp hf (by omega) hr1 hr3 hmv hlv 8 0 _ rfl (xst_ne (by decide) (xst_ne (by decide) m1 (Or.inl rfl)) (Or.inl rfl)) (xst_ne (by decide) (xst_ne (by decide) m2 (Or.inl rfl)) (Or.inl rfl)) (xst_ne (by decide) (xst_ne (by decide) m3 (Or.inl rfl)) (Or.inl rfl)) (xst_ne (by decide) xst_eq (Or.inl rfl)) xst_eq (fun a' b' h1 h2 h3 => by omega)) ?_
    intro o X' hq
    obtain ⟨r9, f9, e1, e2, e3, rfl⟩ := hq
    exact ⟨r9, f9, e1, e2, e3, ⟨l, hf, hll, hpre, fun _ e he => (hnew e he).1⟩, hfr2⟩
  | succ k ih =>
    intro d lv f l hk2 hf hll hpre hnew hfr2 m0 m1 m2 m3 m4
    have hd : d < 8 := by omega
    obtain ⟨v1, v2⟩ := hrd d hd
    obtain ⟨a1, a2⟩ := ham d hd
    have w1 := hmv d hd
    have v3 := v2
    unfold sok at v3
    refine x_iload rfl m4 ?_
    refine x_bipush rfl (by decide) ?_
    refine x_cge (t := 55) rfl rfl ⟨by omega, by omega⟩ (by decide) (fun h => by omega) (fun _ => ?_)
    refine x_aload_n rfl m1 ?_
    refine x_iload_n rfl m2 ?_
    refine x_iload rfl m4 ?_
    refine x_iadd rfl ?_
    refine x_iaload rfl hp hf ⟨by omega, by omega⟩ (by omega) ?_
    rw [hpre _ (by omega), v1]
    refine x_aload_n rfl m0 ?_
    refine x_getfield rfl (by decide) ((hfr2 113 (fun h => hp3 h.symm)).trans h113) rfl ?_
    refine x_iload rfl m4 ?_
    refine x_iaload rfl (by decide) ((hfr2 116 (fun h => hp6 h.symm)).trans h116) ⟨by omega, by omega⟩ (by omega) ?_
    rw [Int.toNat_natCast, a1]
    refine x_call [_, _] rfl rfl (show (0 : Nat) ≤ 8 from by decide) (show (2 : Nat) ≤ 2 from by decide) rfl (xs_102 v2 a2) (fun r' f1 hP => ?_)
    obtain ⟨rfl, hPe⟩ := hP
    subst hPe
    rw [← w1]
    refine x_istore rfl (show (5 : Nat) < 7 from by decide) ?_
    refine x_iload rfl xst_eq ?_
    refine x_iconst rfl ?_
    have hsm := smv_ok (a := am d) v2
    rw [← w1] at hsm
    refine x_cne (t := 41) rfl rfl (by unfold sok at hsm; omega) (by decide) (fun hne => ?_) (fun heq => ?_)
    · have hok : sok (r2 d) := by
        rcases hsm with h | h
        · exact absurd h hne
        · exact h
      refine x_aload_n rfl (xst_ne (by decide) m1 (Or.inl rfl)) ?_
      refine x_iload_n rfl (xst_ne (by decide) m3 (Or.inl rfl)) ?_
      refine x_iload rfl (xst_ne (by decide) m4 (Or.inl rfl)) ?_
      refine x_iadd rfl ?_
      refine x_iload rfl xst_eq ?_
      refine x_iastore rfl hp hf ⟨by omega, by omega⟩ (by omega) ?_
      refine x_iinc rfl (xst_ne (by decide) m4 (Or.inl rfl)) (show (4 : Nat) < 7 from by decide) ?_
      refine x_goto (t := 8) rfl rfl ?_
      refine ih (d + 1) _ _ (l.set (fr + 8 + (d : Nat)).toNat (r2 d)) (by omega) xu_eq (by rw [List.length_set]; exact hll) (fun j hj => ?_) (fun e he => ?_) (fun q hq => xu_ne hq (hfr2 q hq)) (xst_ne (by decide) (xst_ne (by decide) m0 (Or.inl rfl)) (Or.inl rfl)) (xst_ne (by decide) (xst_ne (by decide) m1 (Or.inl rfl)) (Or.inl rfl)) (xst_ne (by decide) (xst_ne (by decide) m2 (Or.inl rfl)) (Or.inl rfl)) (xst_ne (by decide) (xst_ne (by decide) m3 (Or.inl rfl)) (Or.inl rfl)) xst_eq
      · rw [x_gset, if_neg (by omega)]
        exact hpre j hj
      · rw [x_gset]
        by_cases h9 : e = d
        · rw [if_pos ⟨by omega, by omega⟩, h9]
          exact ⟨rfl, hok⟩
        · rw [if_neg (by omega)]
          exact hnew e (by omega)
    · refine x_iconst rfl ?_
      have hlv : sleave r2 = true := sany_t (j := d) hd (by rw [beq_iff_eq]; exact heq)
      refine x_ireturn rfl (Or.inl rfl) ⟨_, _, rfl, rfl, ?_, ⟨l, hf, hll, hpre, fun h => ?_⟩, hfr2⟩
      · unfold sclash
        rw [hlv]
        rfl
      · rw [hlv] at h
        cases h
theorem xs_104 {v0 : Value} {xs : List Int32} {u : Nat × Nat} {f : Nat → zE} {p : Nat} {fr : Int} {r r2 : Nat → Int} {l al : List Int} {am : Nat → Int} (hp : 50 ≤ p ∧ p < 204) (hp6 : p ≠ 116) (hp3 : p ≠ 113) (h113 : f 113 = .inl (6, [.ref 53, .ref 114, .ref 116])) (hl0 : l.length ≤ 5000) (hfr : 0 ≤ fr ∧ fr + 16 ≤ (l.length : Nat)) (h116 : f 116 = xr 0 al) (hal : al.length = 8) (ham : ∀ d, d < 8 → al.getD d 0 = am d ∧ 0 ≤ am d ∧ am d ≤ 6) (hf : f p = xr 0 l) (hr : sRL l fr r) (hmv : ∀ d, d < 8 → r2 d = smv (r d) (am d)) : xq v0 xs u 104 [(0, .ref 113), (1, .ref p), (2, xi fr)] f (fun r' f' => r' = some (xi (sclash r r2)) ∧ (∃ l' : List Int, f' p = xr 0 l' ∧ l'.length = l.length ∧ (∀ j : Nat, ((j : Nat) : Int) < fr + 8 ∨ fr + 16 ≤ (j : Nat) → l'.getD j 0 = l.getD j 0) ∧ (sleave r2 = false → ∀ d, d < 8 → l'.getD (fr + 8 + (d : Nat)).toNat 0 = r2 d)) ∧ ∀ q, q ≠ p → f' q = f q) := by
  unfold xq
  refine x_iload_n rfl rfl ?_
  refine x_bipush rfl (by decide) ?_
  refine x_iadd rfl ?_
  refine x_istore_n rfl (show (3 : Nat) < 7 from by decide) ?_
  refine x_iconst rfl ?_
  refine x_istore rfl (show (4 : Nat) < 7 from by decide) ?_
  exact xs_104l hp hp6 hp3 h113 hl0 hfr h116 hal ham hr hmv 8 0 _ f l rfl hf rfl (fun _ _ => rfl) (fun e he => absurd he (Nat.not_lt_zero e)) (fun _ _ => rfl) (xst_ne (by decide) (xst_ne (by decide) rfl (Or.inl rfl)) (Or.inl rfl)) (xst_ne (by decide) (xst_ne (by decide) rfl (Or.inl rfl)) (Or.inl rfl)) (xst_ne (by decide) (xst_ne (by decide) rfl (Or.inl rfl)) (Or.inl rfl)) (xst_ne (by decide) xst_eq (Or.inl rfl)) xst_eq
end
section
/-! The class gives the atoms: 98. -/
/-- what dancing reads of the heap, but the rows -/
def sDN (f : Nat → zE) : Prop := f 113 = .inl (6, [.ref 53, .ref 114, .ref 116]) ∧ f 114 = .inl (7, [.ref 115]) ∧ (∃ dl : List Int, f 115 = xr 0 dl ∧ dl.length = 8) ∧ ∃ al : List Int, f 116 = xr 0 al ∧ al.length = 8 ∧ ∀ d, d < 8 → 0 ≤ al.getD d 0 ∧ al.getD d 0 ≤ 6
/-- the parts from F on are L -/
def sPL (f : Nat → zE) (F : Int) (L : List (Int × Int)) : Prop := (∃ c kp pt : Value, f 53 = .inl (2, [.ref 54, .ref 55, .ref 56, c, kp, pt])) ∧ ∃ se at' : List Int, f 55 = xr 0 se ∧ f 56 = xr 0 at' ∧ se.length ≤ 5000 ∧ at'.length ≤ 5000 ∧ 0 ≤ F ∧ F + (L.length : Nat) ≤ (se.length : Nat) ∧ F + (L.length : Nat) ≤ (at'.length : Nat) ∧ ∀ k, k < L.length → (se.getD (F + (k : Nat)).toNat 0 = (L.getD k (0, 0)).1 ∧ at'.getD (F + (k : Nat)).toNat 0 = (L.getD k (0, 0)).2) ∧ (0 ≤ (L.getD k (0, 0)).1 ∧ (L.getD k (0, 0)).1 ≤ 12) ∧ 0 ≤ (L.getD k (0, 0)).2 ∧ (L.getD k (0, 0)).2 ≤ 6
theorem stake_s {L : List (Int × Int)} {k : Nat} (h : k < L.length) : L.take (k + 1) = L.take k ++ [L.getD k (0, 0)] := by
  rw [List.take_succ_eq_append_getElem h, List.getD_eq_getElem?_getD, List.getElem?_eq_getElem h]
  rfl
/-- the atoms of all are in their array -/
def sAM (f : Nat → zE) (am : Nat → Int) (k : Nat) : Prop := ∃ al : List Int, f 116 = xr 0 al ∧ al.length = 8 ∧ (∀ d, d < 8 → 0 ≤ al.getD d 0 ∧ al.getD d 0 ≤ 6) ∧ ∀ d, d < k → al.getD d 0 = am d
theorem xs_98i {v0 : Value} {xs : List Int32} {u : Nat × Nat} {Q : zO → zX → Prop} {f0 : Nat → zE} {am : Nat → Int} {P : Nat → Bool} {F : Int} {L : List (Int × Int)} {k : Nat} {t fg : Nat} {bt tk wt : Int} (h113 : f0 113 = .inl (6, [.ref 53, .ref 114, .ref 116])) (hP : sPL f0 F L) (hk : k < L.length) (hF5 : F + (L.length : Nat) ≤ 5000)
    (hkk : ∀ (lv : zL) (f : Nat → zE), zlv lv 0 = some (.ref 113) → zlv lv 1 = some (.ref t) → zlv lv 2 = some (.ref fg) → zlv lv 3 = some (xi bt) → zlv lv 4 = some (xi tk) → zlv lv 5 = some (xi wt) → zlv lv 6 = some (xi (F + (k : Nat))) → zlv lv 7 = some (xi (smk P 8)) → sAM f (fun d => if P d = true then (L.getD k (0, 0)).2 else am d) 8 → (∀ q, q ≠ 116 → f q = f0 q) → xz v0 xs u Q 98 123 lv [] f) : ∀ (j d : Nat) (lv : zL) (f : Nat → zE), j + d = 8 → zlv lv 0 = some (.ref 113) → zlv lv 1 = some (.ref t) → zlv lv 2 = some (.ref fg) → zlv lv 3 = some (xi bt) → zlv lv 4 = some (xi tk) → zlv lv 5 = some (xi wt) → zlv lv 6 = some (xi (F + (k : Nat))) → zlv lv 7 = some (xi (smk P 8)) → zlv lv 8 = some (xi (d : Nat)) → sAM f (fun e => if e < d ∧ P e = true then (L.getD k (0, 0)).2 else am e) 8 → (∀ q, q ≠ 116 → f q = f0 q) → xz v0 xs u Q 98 82 lv [] f := by
  obtain ⟨⟨c1, c2, c3, h53⟩, se, at', h55, h56, hs1, hs2, hF0, hF1, hF2, hL⟩ := hP
  obtain ⟨⟨b1, b2⟩, b3, b4⟩ := hL k hk
  intro j
  induction j with
  | zero =>
    intro d lv f hj l0 l1 l2 l3 l4 l5 l6 l7 l8 hA hfr
    have e : d = 8 := by omega
    subst e
    refine x_iload rfl l8 ?_
    refine x_bipush rfl (by decide) ?_
    refine x_cge (t := 123) rfl rfl (by decide) (by decide) (fun _ => ?_) (fun h => absurd h (by decide))
    refine hkk lv f l0 l1 l2 l3 l4 l5 l6 l7 ?_ hfr
    obtain ⟨al, a1, a2, a3, a4⟩ := hA
    refine ⟨al, a1, a2, a3, fun d hd => ?_⟩
    rw [a4 d hd]
    dsimp only
    by_cases h : P d = true
    · rw [if_pos ⟨hd, h⟩, if_pos h]
    · rw [if_neg (fun h2 => h h2.2), if_neg h]
  | succ j ih =>
    intro d lv f hj l0 l1 l2 l3 l4 l5 l6 l7 l8 hA hfr
    have hd : d < 8 := by omega
    obtain ⟨al, a1, a2, a3, a4⟩ := hA
    refine x_iload rfl l8 ?_
    refine x_bipush rfl (by decide) ?_
    refine x_cge (t := 123) rfl rfl ⟨by omega, by omega⟩ (by decide) (fun h => by omega) (fun _ => ?_)
    refine x_iload rfl l7 ?_
    refine x_iload rfl l8 ?_
    refine x_ishr rfl ?_
    refine x_iconst rfl ?_
    refine x_iandg2 rfl (sm_bit P hd) ?_
    refine x_iconst rfl ?_
    by_cases h : P d = true
    · rw [if_pos h]
      refine x_cne (t := 117) rfl rfl (by decide) (by decide) (fun h => absurd rfl h) (fun _ => ?_)
      refine x_aload_n rfl l0 ?_
      refine x_getfield rfl (by decide) ((hfr 113 (by decide)).trans h113) rfl ?_
      refine x_iload rfl l8 ?_
      refine x_aload_n rfl l0 ?_
      refine x_getfield rfl (by decide) ((hfr 113 (by decide)).trans h113) rfl ?_
      refine x_getfield rfl (by decide) ((hfr 53 (by decide)).trans h53) rfl ?_
      refine x_iload rfl l6 ?_
      refine x_iaload rfl (by decide) ((hfr 56 (by decide)).trans h56) ⟨by omega, by omega⟩ hs2 ?_
      rw [b2]
      refine x_iastore rfl (by decide) a1 ⟨by omega, by omega⟩ (by omega) ?_
      refine x_iinc rfl l8 (show (8 : Nat) < 9 from by decide) ?_
      refine x_goto (t := 82) rfl rfl ?_
      rw [Int.toNat_natCast]
      refine ih (d + 1) _ _ (by omega) (xst_ne (by decide) l0 (Or.inl rfl)) (xst_ne (by decide) l1 (Or.inl rfl)) (xst_ne (by decide) l2 (Or.inl rfl)) (xst_ne (by decide) l3 (Or.inl rfl)) (xst_ne (by decide) l4 (Or.inl rfl)) (xst_ne (by decide) l5 (Or.inl rfl)) (xst_ne (by decide) l6 (Or.inl rfl)) (xst_ne (by decide) l7 (Or.inl rfl)) xst_eq ⟨_, xu_eq, by rw [List.length_set]; exact a2, fun e he => ?_, fun e he => ?_⟩ (fun q hq => xu_ne hq (hfr q hq))
      · rw [x_gset]
        split
        · exact b4
        · exact a3 e he
      · rw [x_gset]
        dsimp only
        by_cases e9 : d = e
        · subst e9
          rw [if_pos ⟨rfl, by omega⟩, if_pos ⟨by omega, h⟩]
        · rw [if_neg (fun h => e9 h.1), a4 e he]
          dsimp only
          by_cases h5 : e < d ∧ P e = true
          · rw [if_pos h5, if_pos ⟨by omega, h5.2⟩]
          · rw [if_neg h5, if_neg (fun h6 => h5 ⟨by omega, h6.2⟩)]
    · rw [if_neg h]
      refine x_cne (t := 117) rfl rfl (by decide) (by decide) (fun _ => ?_) (fun h => absurd h (by decide))
      refine x_iinc rfl l8 (show (8 : Nat) < 9 from by decide) ?_
      refine x_goto (t := 82) rfl rfl ?_
      refine ih (d + 1) _ _ (by omega) (xst_ne (by decide) l0 (Or.inl rfl)) (xst_ne (by decide) l1 (Or.inl rfl)) (xst_ne (by decide) l2 (Or.inl rfl)) (xst_ne (by decide) l3 (Or.inl rfl)) (xst_ne (by decide) l4 (Or.inl rfl)) (xst_ne (by decide) l5 (Or.inl rfl)) (xst_ne (by decide) l6 (Or.inl rfl)) (xst_ne (by decide) l7 (Or.inl rfl)) xst_eq ⟨al, a1, a2, a3, fun e he => ?_⟩ hfr
      rw [a4 e he]
      dsimp only
      by_cases h5 : e < d ∧ P e = true
      · rw [if_pos h5, if_pos ⟨by omega, h5.2⟩]
      · rw [if_neg h5, if_neg (fun h6 => ?_)]
        by_cases e9 : e = d
        · rw [e9] at h6; exact h h6.2
        · exact h5 ⟨by omega, h6.2⟩
theorem xs_98p {v0 : Value} {xs : List Int32} {u : Nat × Nat} {f0 : Nat → zE} {r : Nat → Int} {F : Int} {L : List (Int × Int)} {t fg : Nat} {bt tk : Int} {fp ep : List Int} (h113 : f0 113 = .inl (6, [.ref 53, .ref 114, .ref 116])) (h114 : f0 114 = .inl (7, [.ref 115])) (hP : sPL f0 F L) (hF5 : F + (L.length : Nat) ≤ 5000) (hfg : (57 ≤ fg ∧ fg ≤ 105) ∧ ∃ (c2 c3 c4 c5 c6 : Value), f0 fg = .inl (3, [.ref (fg + 1), .ref (fg + 2), c2, c3, c4, c5, c6])) (hfp : f0 (fg + 1) = xr 0 fp) (hep : f0 (fg + 2) = xr 0 ep) (hfl : fp.length = 16) (hel : ep.length = 16) (hbt : 0 ≤ bt ∧ bt < 16) (hF : fp.getD bt.toNat 0 = F) (hE : ep.getD bt.toNat 0 = F + (L.length : Nat)) (ht : (123 ≤ t ∧ t ≤ 173) ∧ ∃ c : Value, f0 t = .inl (9, [.ref (t + 1), c])) (hr : sRW f0 (t + 1) (tk * 8) r) : ∀ (j k : Nat) (lv : zL) (f : Nat → zE), j + k = L.length → zlv lv 0 = some (.ref 113) → zlv lv 1 = some (.ref t) → zlv lv 2 = some (.ref fg) → zlv lv 3 = some (xi bt) → zlv lv 4 = some (xi tk) → zlv lv 5 = some (xi (smk (sfree r (L.take k)) 8)) → zlv lv 6 = some (xi (F + (k : Nat))) → sAM f (sat r (L.take k)) 8 → (∃ dl : List Int, f 115 = xr 0 dl ∧ dl.length = 8) → (∀ q, q ≠ 115 → q ≠ 116 → f q = f0 q) → xz v0 xs u (fun o X => ∃ r' f', o = .inl r' ∧ X = (xh f', u) ∧ (fun r' f' => r' = none ∧ sAM f' (sat r L) 8 ∧ (∃ dl : List Int, f' 115 = xr 0 dl ∧ dl.length = 8) ∧ ∀ q, q ≠ 115 → q ≠ 116 → f' q = f0 q) r' f') 98 37 lv [] f := by
  obtain ⟨hfgr, c2, c3, c4, c5, c6, hfg⟩ := hfg
  obtain ⟨htr, ct, ht⟩ := ht
  have hP0 := hP
  obtain ⟨⟨d1, d2, d3, h53⟩, se, at', h55, h56, hs1, hs2, hF0, hF1, hF2, hL⟩ := hP0
  intro j
  induction j with
  | zero =>
    intro k lv f hj l0 l1 l2 l3 l4 l5 l6 hA hD hfr
    have e : k = L.length := by omega
    subst e
    have gfg := (hfr fg (by omega) (by omega)).trans hfg
    refine x_iload rfl l6 ?_
    refine x_aload_n rfl l2 ?_
    refine x_getfield rfl (by omega) gfg rfl ?_
    refine x_iload_n rfl l3 ?_
    refine x_iaload rfl (by omega) ((hfr (fg + 2) (by omega) (by omega)).trans hep) ⟨by omega, by omega⟩ (by omega) ?_
    rw [hE]
    refine x_cge (t := 136) rfl rfl ⟨by omega, by omega⟩ ⟨by omega, by omega⟩ (fun _ => ?_) (fun h => by omega)
    rw [List.take_length] at hA
    exact x_return rfl ⟨_, _, rfl, rfl, rfl, hA, hD, hfr⟩
  | succ j ih =>
    intro k lv f hj l0 l1 l2 l3 l4 l5 l6 hA hD hfr
    have hk : k < L.length := by omega
    obtain ⟨⟨b1, b2⟩, b3, b4⟩ := hL k hk
    obtain ⟨dl, hdl, hdn⟩ := hD
    have gfg := (hfr fg (by omega) (by omega)).trans hfg
    have g113 := (hfr 113 (by decide) (by decide)).trans h113
    have g114 := (hfr 114 (by decide) (by decide)).trans h114
    refine x_iload rfl l6 ?_
    refine x_aload_n rfl l2 ?_
    refine x_getfield rfl (by omega) gfg rfl ?_
    refine x_iload_n rfl l3 ?_
    refine x_iaload rfl (by omega) ((hfr (fg + 2) (by omega) (by omega)).trans hep) ⟨by omega, by omega⟩ (by omega) ?_
    rw [hE]
    refine x_cge (t := 136) rfl rfl ⟨by omega, by omega⟩ ⟨by omega, by omega⟩ (fun h => by omega) (fun _ => ?_)
    refine x_iload rfl l5 ?_
    refine x_aload_n rfl l0 ?_
    refine x_getfield rfl (by decide) g113 rfl ?_
    refine x_aload_n rfl l0 ?_
    refine x_getfield rfl (by decide) g113 rfl ?_
    refine x_getfield rfl (by decide) ((hfr 53 (by decide) (by decide)).trans h53) rfl ?_
    refine x_iload rfl l6 ?_
    refine x_iaload rfl (by decide) ((hfr 55 (by decide) (by decide)).trans h55) ⟨by omega, by omega⟩ hs1 ?_
    rw [b1]
    refine x_aload_n rfl l1 ?_
    refine x_getfield rfl (by omega) ((hfr t (by omega) (by omega)).trans ht) rfl ?_
    refine x_iload rfl l4 ?_
    refine x_bipush rfl (by decide) ?_
    refine x_imul rfl ?_
    refine x_call [_, _, _, _] rfl rfl (show (1 : Nat) ≤ 8 from by decide) (show (4 : Nat) ≤ 4 from by decide) (x_rcv (by decide) g114) (xs_97 (by omega) g114 hdl hdn b3 (sRW_mv (hfr (t + 1) (by omega) (by omega)) hr)) (fun r' f1 hQ => ?_)
    obtain ⟨rfl, hD1, hfr1⟩ := hQ
    refine x_iandg2 rfl (sm_and _ _) ?_
    refine x_istore rfl (show (7 : Nat) < 9 from by decide) ?_
    refine x_iconst rfl ?_
    refine x_istore rfl (show (8 : Nat) < 9 from by decide) ?_
    have hA1 : sAM f1 (fun e => if e < 0 ∧ (sfree r (L.take k) e && shas (L.getD k (0, 0)).1 r e) = true then (L.getD k (0, 0)).2 else sat r (L.take k) e) 8 := by
      obtain ⟨al, a1, a2, a3, a4⟩ := hA
      exact ⟨al, (hfr1 116 (by decide)).trans a1, a2, a3, fun d hd => by dsimp only; rw [if_neg (fun h => absurd h.1 (Nat.not_lt_zero d))]; exact a4 d hd⟩
    have hP1 : sPL f1 F L := ⟨⟨d1, d2, d3, (hfr1 53 (by decide)).trans ((hfr 53 (by decide) (by decide)).trans h53)⟩, se, at', (hfr1 55 (by decide)).trans ((hfr 55 (by decide) (by decide)).trans h55), (hfr1 56 (by decide)).trans ((hfr 56 (by decide) (by decide)).trans h56), hs1, hs2, hF0, hF1, hF2, hL⟩
    refine xs_98i (P := fun e => sfree r (L.take k) e && shas (L.getD k (0, 0)).1 r e) (am := sat r (L.take k)) ((hfr1 113 (by decide)).trans g113) hP1 hk hF5 (fun lv2 f2 m0 m1 m2 m3 m4 m5 m6 m7 hA2 hfr2 => ?_) 8 0 _ f1 rfl (xst_ne (by decide) (xst_ne (by decide) l0 (Or.inl rfl)) (Or.inl rfl)) (xst_ne (by decide) (xst_ne (by decide) l1 (Or.inl rfl)) (Or.inl rfl)) (xst_ne (by decide) (xst_ne (by decide) l2 (Or.inl rfl)) (Or.inl rfl)) (xst_ne (by decide) (xst_ne (by decide) l3 (Or.inl rfl)) (Or.inl rfl)) (xst_ne (by decide) (xst_ne (by decide) l4 (Or.inl rfl)) (Or.inl rfl)) (xst_ne (by decide) (xst_ne (by decide) l5 (Or.inl rfl)) (Or.inl rfl)) (xst_ne (by decide) (xst_ne (by decide) l6 (Or.inl rfl)) (Or.inl rfl)) (xst_ne (by decide) xst_eq (Or.inl rfl)) xst_eq hA1 (fun _ _ => rfl)
    refine x_iload rfl m5 ?_
    refine x_iload rfl m7 ?_
    refine x_ixorg rfl (sm_xor _ _) ?_
    refine x_istore rfl (show (5 : Nat) < 9 from by decide) ?_
    refine x_iinc rfl (xst_ne (by decide) m6 (Or.inl rfl)) (show (6 : Nat) < 9 from by decide) ?_
    refine x_goto (t := 37) rfl rfl ?_
    refine ih (k + 1) _ f2 (by omega) (xst_ne (by decide) (xst_ne (by decide) m0 (Or.inl rfl)) (Or.inl rfl)) (xst_ne (by decide) (xst_ne (by decide) m1 (Or.inl rfl)) (Or.inl rfl)) (xst_ne (by decide) (xst_ne (by decide) m2 (Or.inl rfl)) (Or.inl rfl)) (xst_ne (by decide) (xst_ne (by decide) m3 (Or.inl rfl)) (Or.inl rfl)) (xst_ne (by decide) (xst_ne (by decide) m4 (Or.inl rfl)) (Or.inl rfl)) ?_ ?_ ?_ ?_ ?_
    · have es : smk (sfree r (L.take k ++ [L.getD k (0, 0)])) 8 = smk (fun d => sfree r (L.take k) d != (sfree r (L.take k) d && shas (L.getD k (0, 0)).1 r d)) 8 := smk_congr 8 (fun d hd => by
        rw [sfree_app]
        cases sfree r (L.take k) d <;> cases shas (L.getD k (0, 0)).1 r d <;> rfl)
      rw [stake_s hk, es]
      exact xst_ne (by decide) xst_eq (Or.inl rfl)
    · rw [show F + ((k + 1 : Nat) : Int) = F + (k : Nat) + 1 by omega]
      exact xst_eq
    · obtain ⟨al, a1, a2, a3, a4⟩ := hA2
      refine ⟨al, a1, a2, a3, fun d hd => ?_⟩
      rw [a4 d hd, stake_s hk, sat_app]
      simp only [Bool.and_eq_true]
    · obtain ⟨dl1, e1, e2⟩ := hD1
      exact ⟨dl1, (hfr2 115 (by decide)).trans e1, e2⟩
    · exact fun q h1 h2 => (hfr2 q h2).trans ((hfr1 q h1).trans (hfr q h1 h2))
theorem xs_98 {v0 : Value} {xs : List Int32} {u : Nat × Nat} {f0 : Nat → zE} {r : Nat → Int} {F : Int} {L : List (Int × Int)} {t fg : Nat} {bt tk : Int} {fp ep : List Int} (h113 : f0 113 = .inl (6, [.ref 53, .ref 114, .ref 116])) (h114 : f0 114 = .inl (7, [.ref 115])) (hP : sPL f0 F L) (hF5 : F + (L.length : Nat) ≤ 5000) (hfg : (57 ≤ fg ∧ fg ≤ 105) ∧ ∃ (c2 c3 c4 c5 c6 : Value), f0 fg = .inl (3, [.ref (fg + 1), .ref (fg + 2), c2, c3, c4, c5, c6])) (hfp : f0 (fg + 1) = xr 0 fp) (hep : f0 (fg + 2) = xr 0 ep) (hfl : fp.length = 16) (hel : ep.length = 16) (hbt : 0 ≤ bt ∧ bt < 16) (hF : fp.getD bt.toNat 0 = F) (hE : ep.getD bt.toNat 0 = F + (L.length : Nat)) (ht : (123 ≤ t ∧ t ≤ 173) ∧ ∃ c : Value, f0 t = .inl (9, [.ref (t + 1), c])) (hr : sRW f0 (t + 1) (tk * 8) r) (hDN : sDN f0) : xq v0 xs u 98 [(0, .ref 113), (1, .ref t), (2, .ref fg), (3, xi bt), (4, xi tk)] f0 (fun r' f' => r' = none ∧ sAM f' (sat r L) 8 ∧ (∃ dl : List Int, f' 115 = xr 0 dl ∧ dl.length = 8) ∧ ∀ q, q ≠ 115 → q ≠ 116 → f' q = f0 q) := by
  unfold xq
  obtain ⟨-, -, hD, al0, h116, hal0, hal1⟩ := hDN
  have hfg0 := hfg
  have hP0 := hP
  obtain ⟨hfgr, c2, c3, c4, c5, c6, hfg1⟩ := hfg0
  obtain ⟨-, se, at', -, -, -, -, hF0, -, -, -⟩ := hP0
  have zero : ∀ (j d : Nat) (lv : zL) (f : Nat → zE), j + d = 8 → zlv lv 0 = some (.ref 113) → zlv lv 1 = some (.ref t) → zlv lv 2 = some (.ref fg) → zlv lv 3 = some (xi bt) → zlv lv 4 = some (xi tk) → zlv lv 5 = some (xi (d : Nat)) → sAM f (fun _ => 0) d → (∀ q, q ≠ 116 → f q = f0 q) → xz v0 xs u (fun o X => ∃ r' f', o = .inl r' ∧ X = (xh f', u) ∧ (fun r' f' => r' = none ∧ sAM f' (sat r L) 8 ∧ (∃ dl : List Int, f' 115 = xr 0 dl ∧ dl.length = 8) ∧ ∀ q, q ≠ 115 → q ≠ 116 → f' q = f0 q) r' f') 98 3 lv [] f := by
    intro j
    induction j with
    | zero =>
      intro d lv f hj l0 l1 l2 l3 l4 l5 hA hfr
      have e : d = 8 := by omega
      subst e
      refine x_iload rfl l5 ?_
      refine x_bipush rfl (by decide) ?_
      refine x_cge (t := 24) rfl rfl (by decide) (by decide) (fun _ => ?_) (fun h => absurd h (by decide))
      refine x_sipush rfl (by decide) ?_
      refine x_istore rfl (show (5 : Nat) < 9 from by decide) ?_
      refine x_aload_n rfl (xst_ne (by decide) l2 (Or.inl rfl)) ?_
      refine x_getfield rfl (by omega) ((hfr fg (by omega)).trans hfg1) rfl ?_
      refine x_iload_n rfl (xst_ne (by decide) l3 (Or.inl rfl)) ?_
      refine x_iaload rfl (by omega) ((hfr (fg + 1) (by omega)).trans hfp) ⟨by omega, by omega⟩ (by omega) ?_
      rw [hF]
      refine x_istore rfl (show (6 : Nat) < 9 from by decide) ?_
      obtain ⟨dl, e1, e2⟩ := hD
      refine xs_98p h113 h114 hP hF5 hfg hfp hep hfl hel hbt hF hE ht hr L.length 0 _ f rfl (xst_ne (by decide) (xst_ne (by decide) l0 (Or.inl rfl)) (Or.inl rfl)) (xst_ne (by decide) (xst_ne (by decide) l1 (Or.inl rfl)) (Or.inl rfl)) (xst_ne (by decide) (xst_ne (by decide) l2 (Or.inl rfl)) (Or.inl rfl)) (xst_ne (by decide) (xst_ne (by decide) l3 (Or.inl rfl)) (Or.inl rfl)) (xst_ne (by decide) (xst_ne (by decide) l4 (Or.inl rfl)) (Or.inl rfl)) (by rw [List.take_zero]; exact xst_ne (by decide) xst_eq (Or.inl rfl)) (by rw [show F + ((0 : Nat) : Int) = F by omega]; exact xst_eq) (by rw [List.take_zero]; exact hA) ⟨dl, (hfr 115 (by decide)).trans e1, e2⟩ (fun q h1 h2 => hfr q h2)
    | succ j ih =>
      intro d lv f hj l0 l1 l2 l3 l4 l5 hA hfr
      have hd : d < 8 := by omega
      obtain ⟨al, a1, a2, a3, a4⟩ := hA
      refine x_iload rfl l5 ?_
      refine x_bipush rfl (by decide) ?_
      refine x_cge (t := 24) rfl rfl ⟨by omega, by omega⟩ (by decide) (fun h => by omega) (fun _ => ?_)
      refine x_aload_n rfl l0 ?_
      refine x_getfield rfl (by decide) ((hfr 113 (by decide)).trans h113) rfl ?_
      refine x_iload rfl l5 ?_
      refine x_iconst rfl ?_
      refine x_iastore rfl (by decide) a1 ⟨by omega, by omega⟩ (by omega) ?_
      refine x_iinc rfl l5 (show (5 : Nat) < 9 from by decide) ?_
      refine x_goto (t := 3) rfl rfl ?_
      rw [Int.toNat_natCast]
      refine ih (d + 1) _ _ (by omega) (xst_ne (by decide) l0 (Or.inl rfl)) (xst_ne (by decide) l1 (Or.inl rfl)) (xst_ne (by decide) l2 (Or.inl rfl)) (xst_ne (by decide) l3 (Or.inl rfl)) (xst_ne (by decide) l4 (Or.inl rfl)) xst_eq ⟨_, xu_eq, by rw [List.length_set]; exact a2, fun e he => ?_, fun e he => ?_⟩ (fun q hq => xu_ne hq (hfr q hq))
      · rw [x_gset]
        split
        · omega
        · exact a3 e he
      · rw [x_gset]
        by_cases e9 : d = e
        · rw [if_pos ⟨e9, by omega⟩]
        · rw [if_neg (fun h => e9 h.1)]
          exact a4 e (by omega)
  refine x_iconst rfl ?_
  refine x_istore rfl (show (5 : Nat) < 9 from by decide) ?_
  exact zero 8 0 _ f0 rfl (xst_ne (by decide) rfl (Or.inl rfl)) (xst_ne (by decide) rfl (Or.inl rfl)) (xst_ne (by decide) rfl (Or.inl rfl)) (xst_ne (by decide) rfl (Or.inl rfl)) (xst_ne (by decide) rfl (Or.inl rfl)) xst_eq ⟨al0, h116, hal0, hal1, fun e he => absurd he (Nat.not_lt_zero e)⟩ (fun _ _ => rfl)
/-! The class exchanges the atoms: 99. -/
theorem xs_99 {v0 : Value} {xs : List Int32} {u : Nat × Nat} {f0 : Nat → zE} {am : Nat → Int} (h113 : f0 113 = .inl (6, [.ref 53, .ref 114, .ref 116])) (hA : sAM f0 am 8) : xq v0 xs u 99 [(0, .ref 113)] f0 (fun r' f' => r' = none ∧ sAM f' (fun d => sexch (am d)) 8 ∧ ∀ q, q ≠ 116 → f' q = f0 q) := by
  unfold xq
  have lp : ∀ (j d : Nat) (lv : zL) (f : Nat → zE), j + d = 8 → zlv lv 0 = some (.ref 113) → zlv lv 1 = some (xi (d : Nat)) → sAM f (fun e => if e < d then sexch (am e) else am e) 8 → (∀ q, q ≠ 116 → f q = f0 q) → xz v0 xs u (fun o X => ∃ r' f', o = .inl r' ∧ X = (xh f', u) ∧ (fun r' f' => r' = none ∧ sAM f' (fun d => sexch (am d)) 8 ∧ ∀ q, q ≠ 116 → f' q = f0 q) r' f') 99 2 lv [] f := by
    intro j
    induction j with
    | zero =>
      intro d lv f hj l0 l1 hA hfr
      have e : d = 8 := by omega
      subst e
      refine x_iload_n rfl l1 ?_
      refine x_bipush rfl (by decide) ?_
      refine x_cge (t := 30) rfl rfl (by decide) (by decide) (fun _ => ?_) (fun h => absurd h (by decide))
      obtain ⟨al, a1, a2, a3, a4⟩ := hA
      exact x_return rfl ⟨_, _, rfl, rfl, rfl, ⟨al, a1, a2, a3, fun d hd => by rw [a4 d hd]; dsimp only; rw [if_pos hd]⟩, hfr⟩
    | succ j ih =>
      intro d lv f hj l0 l1 hA hfr
      have hd : d < 8 := by omega
      obtain ⟨al, a1, a2, a3, a4⟩ := hA
      have v1 := a4 d hd
      dsimp only at v1
      rw [if_neg (by omega)] at v1
      have v2 := a3 d hd
      refine x_iload_n rfl l1 ?_
      refine x_bipush rfl (by decide) ?_
      refine x_cge (t := 30) rfl rfl ⟨by omega, by omega⟩ (by decide) (fun h => by omega) (fun _ => ?_)
      refine x_aload_n rfl l0 ?_
      refine x_getfield rfl (by decide) ((hfr 113 (by decide)).trans h113) rfl ?_
      refine x_iload_n rfl l1 ?_
      refine x_gets rfl ?_
      refine x_aload_n rfl l0 ?_
      refine x_getfield rfl (by decide) ((hfr 113 (by decide)).trans h113) rfl ?_
      refine x_iload_n rfl l1 ?_
      refine x_iaload rfl (by decide) a1 ⟨by omega, by omega⟩ (by omega) ?_
      rw [Int.toNat_natCast, v1]
      rw [v1] at v2
      refine x_gar (ys := zg3) rfl rfl ⟨by omega, by rw [zg3_len]; omega⟩ (by decide) ?_
      rw [zg3_at (am d).toNat (by omega), show (((am d).toNat : Nat) : Int) = am d by omega]
      refine x_iastore rfl (by decide) a1 ⟨by omega, by omega⟩ (by omega) ?_
      refine x_iinc rfl l1 (show (1 : Nat) < 2 from by decide) ?_
      refine x_goto (t := 2) rfl rfl ?_
      rw [Int.toNat_natCast]
      have hx : 0 ≤ sexch (am d) ∧ sexch (am d) ≤ 6 := by
        rcases (show am d = 0 ∨ am d = 1 ∨ am d = 2 ∨ am d = 3 ∨ am d = 4 ∨ am d = 5 ∨ am d = 6 by omega) with e | e | e | e | e | e | e <;> rw [e] <;> decide
      refine ih (d + 1) _ _ (by omega) (xst_ne (by decide) l0 (Or.inl rfl)) xst_eq ⟨_, xu_eq, by rw [List.length_set]; exact a2, fun e he => ?_, fun e he => ?_⟩ (fun q hq => xu_ne hq (hfr q hq))
      · rw [x_gset]
        split
        · exact hx
        · exact a3 e he
      · rw [x_gset]
        by_cases e9 : d = e
        · rw [if_pos ⟨e9, by omega⟩, ← e9]
          dsimp only
          rw [if_pos (by omega)]
        · rw [if_neg (fun h => e9 h.1), a4 e he]
          dsimp only
          by_cases h5 : e < d
          · rw [if_pos h5, if_pos (by omega)]
          · rw [if_neg h5, if_neg (by omega)]
  refine x_iconst rfl ?_
  refine x_istore_n rfl (show (1 : Nat) < 2 from by decide) ?_
  obtain ⟨al, a1, a2, a3, a4⟩ := hA
  exact lp 8 0 _ f0 rfl (xst_ne (by decide) rfl (Or.inl rfl)) xst_eq ⟨al, a1, a2, a3, fun d hd => by dsimp only; rw [if_neg (Nat.not_lt_zero d)]; exact a4 d hd⟩ (fun _ _ => rfl)
end
section
/-! The class follows a call: 105. -/
/-- the kept parts -/
def sPK (f : Nat → zE) (K : List (Int × Int)) : Prop := (∃ c kp pt : Value, f 53 = .inl (2, [.ref 54, .ref 55, .ref 56, c, kp, pt])) ∧ ∃ se at' : List Int, f 55 = xr 0 se ∧ f 56 = xr 0 at' ∧ se.length = 208 ∧ at'.length = 208 ∧ K.length ≤ 208 ∧ ∀ k, k < K.length → (se.getD k 0, at'.getD k 0) = K.getD k (0, 0) ∧ (0 ≤ (K.getD k (0, 0)).1 ∧ (K.getD k (0, 0)).1 ≤ 12) ∧ 0 ≤ (K.getD k (0, 0)).2 ∧ (K.getD k (0, 0)).2 ≤ 6
/-- a beat's parts -/
def sprt (K : List (Int × Int)) (b : xBt) : List (Int × Int) := (K.drop b.1.toNat).take (b.2.1 - b.1).toNat
def sbt (K : List (Int × Int)) (G : List xBt) : List sB := G.map fun b => (b.2.2, sprt K b)
/-- beats that are in order -/
def sGok (K : List (Int × Int)) (G : List xBt) : Prop := G.length ≤ 16 ∧ ∀ j, j < G.length → (0 ≤ (G.getD j (0, 0, 0)).1 ∧ (G.getD j (0, 0, 0)).1 ≤ (G.getD j (0, 0, 0)).2.1 ∧ (G.getD j (0, 0, 0)).2.1 ≤ (K.length : Nat)) ∧ 0 ≤ (G.getD j (0, 0, 0)).2.2 ∧ (G.getD j (0, 0, 0)).2.2 ≤ (j : Nat)
/-- a kept figure's cells -/
def sFG (f : Nat → zE) (fg : Nat) (G : List xBt) : Prop := (57 ≤ fg ∧ fg ≤ 105) ∧ (∃ c3 c5 c6 : Value, f fg = .inl (3, [.ref (fg + 1), .ref (fg + 2), .ref (fg + 3), c3, xi (G.length : Nat), c5, c6])) ∧ ∃ fp ep ta : List Int, f (fg + 1) = xr 0 fp ∧ f (fg + 2) = xr 0 ep ∧ f (fg + 3) = xr 0 ta ∧ fp.length = 16 ∧ ep.length = 16 ∧ ta.length = 16 ∧ ∀ j, j < G.length → (fp.getD j 0, ep.getD j 0, ta.getD j 0) = G.getD j (0, 0, 0)
theorem sprt_len {K : List (Int × Int)} {b : xBt} (h : 0 ≤ b.1 ∧ b.1 ≤ b.2.1 ∧ b.2.1 ≤ (K.length : Nat)) : ((sprt K b).length : Int) = b.2.1 - b.1 := by
  unfold sprt
  rw [List.length_take, List.length_drop]
  omega
theorem sPK_PL {f : Nat → zE} {K : List (Int × Int)} {b : xBt} (h : sPK f K) (hb : 0 ≤ b.1 ∧ b.1 ≤ b.2.1 ∧ b.2.1 ≤ (K.length : Nat)) : sPL f b.1 (sprt K b) := by
  obtain ⟨h1, se, at', h2, h3, h4, h5, h6, h7⟩ := h
  have hl := sprt_len hb
  refine ⟨h1, se, at', h2, h3, by omega, by omega, hb.1, by omega, by omega, fun k hk => ?_⟩
  have e1 : (sprt K b).getD k (0, 0) = K.getD (b.1 + (k : Nat)).toNat (0, 0) := by
    unfold sprt
    rw [List.getD_eq_getElem?_getD, List.getElem?_take, if_pos (by omega), List.getElem?_drop, List.getD_eq_getElem?_getD, show b.1.toNat + k = (b.1 + (k : Nat)).toNat by omega]
  obtain ⟨q1, q2⟩ := h7 (b.1 + (k : Nat)).toNat (by omega)
  rw [e1, ← q1]
  rw [← q1] at q2
  exact ⟨⟨rfl, rfl⟩, q2⟩
theorem sbt_len (K : List (Int × Int)) (G : List xBt) : (sbt K G).length = G.length := List.length_map ..
theorem sbt_at {K : List (Int × Int)} {G : List xBt} {j : Nat} (h : j < G.length) : (sbt K G).getD j (0, []) = ((G.getD j (0, 0, 0)).2.2, sprt K (G.getD j (0, 0, 0))) := by
  unfold sbt
  rw [List.getD_eq_getElem?_getD, List.getElem?_map, List.getD_eq_getElem?_getD, List.getElem?_eq_getElem h]
  rfl
/-- the atom that a dancer gets in a beat -/
def sam (bt : List sB) (back : Bool) (r0 : Nat → Int) (i d : Nat) : Int := if back = true then sexch (sat r0 (bt.getD (bt.length - 1 - i) (0, [])).2 d) else sat (srow bt back r0 (bt.getD i (0, [])).1.toNat) (bt.getD i (0, [])).2 d
theorem srow_0 (bt : List sB) (back : Bool) (r0 : Nat → Int) : srow bt back r0 0 = r0 := rfl
theorem srow_n {bt : List sB} {back : Bool} {r0 : Nat → Int} {i : Nat} (h : (bt.getD i (0, [])).1.toNat ≤ i) (d : Nat) : srow bt back r0 (i + 1) d = smv (srow bt back r0 i d) (sam bt back r0 i d) := by
  rw [srow_s]
  unfold snext sam
  rw [srows_at bt back r0 i i (Nat.le_refl _), srows_at bt back r0 i 0 (Nat.zero_le _), srows_at bt back r0 i _ h, srow_0]
theorem sres_up {bt : List sB} {back : Bool} {r0 : Nat → Int} {i : Nat} (h : sres bt back r0 i ≠ 0) : ∀ k, sres bt back r0 (i + k) = sres bt back r0 i := by
  intro k
  induction k with
  | zero => rfl
  | succ k ih =>
    rw [← Nat.add_assoc, sres, if_pos (by rw [ih]; exact h), ih]
theorem sclash_rg (r r2 : Nat → Int) : 0 ≤ sclash r r2 ∧ sclash r r2 ≤ 3 := by
  unfold sclash
  split
  · omega
  · split
    · omega
    · split <;> omega
theorem sclash_0 {r r2 : Nat → Int} (h : sclash r r2 = 0) : sleave r2 = false := by
  unfold sclash at h
  split at h
  · omega
  · exact bool_f (by assumption)
theorem sleave_ok {r r2 am : Nat → Int} (h : sleave r2 = false) (hr : ∀ d, d < 8 → sok (r d)) (hm : ∀ d, d < 8 → r2 d = smv (r d) (am d)) : ∀ d, d < 8 → sok (r2 d) := by
  intro d hd
  have h1 := smv_ok (a := am d) (hr d hd)
  rw [← hm d hd] at h1
  rcases h1 with h1 | h1
  · have := sany_t (P := fun d => r2 d == -1) hd (by rw [beq_iff_eq]; exact h1)
    unfold sleave at h
    rw [h] at this
    cases this
  · exact h1
/-- the rows up to i stand in the list -/
def sTR (l : List Int) (bt : List sB) (back : Bool) (r0 : Nat → Int) (i : Nat) : Prop := l.length = 136 ∧ ∀ j, j ≤ i → sRL l ((j : Nat) * 8) (srow bt back r0 j)
theorem xs_105l {v0 : Value} {xs : List Int32} {u : Nat × Nat} {f0 : Nat → zE} {r0 : Nat → Int} {K : List (Int × Int)} {G : List xBt} {t fg : Nat} {back : Bool} (hDN : sDN f0) (hPK : sPK f0 K) (hG : sGok K G) (hFG : sFG f0 fg G) (ht : 123 ≤ t ∧ t ≤ 173) : ∀ (w i : Nat) (lv : zL) (f : Nat → zE) (l : List Int), w + i = G.length → zlv lv 0 = some (.ref 113) → zlv lv 1 = some (.ref t) → zlv lv 2 = some (.ref fg) → zlv lv 3 = some (xi (if back = true then 1 else 0)) → zlv lv 4 = some (xi (i : Nat)) → f (t + 1) = xr 0 l → sTR l (sbt K G) back r0 i → f t = .inl (9, [.ref (t + 1), xi (i : Nat)]) → sres (sbt K G) back r0 i = 0 → sDN f → (∀ q, q ≠ 115 → q ≠ 116 → q ≠ t → q ≠ t + 1 → f q = f0 q) → xz v0 xs u (fun o X => ∃ r' f', o = .inl r' ∧ X = (xh f', u) ∧ (fun r' f' => r' = some (xi (sres (sbt K G) back r0 G.length)) ∧ (∃ l : List Int, f' (t + 1) = xr 0 l ∧ l.length = 136 ∧ (sres (sbt K G) back r0 G.length = 0 → sTR l (sbt K G) back r0 G.length)) ∧ (∃ c : Int, f' t = .inl (9, [.ref (t + 1), xi c]) ∧ (0 ≤ c ∧ c ≤ 16) ∧ (sres (sbt K G) back r0 G.length = 0 → c = (G.length : Nat))) ∧ sDN f' ∧ ∀ q, q ≠ 115 → q ≠ 116 → q ≠ t → q ≠ t + 1 → f' q = f0 q) r' f') 105 3 lv [] f := by
  obtain ⟨hfgr, ⟨c3, c5, c6, hfg⟩, fp, ep, ta, hfp, hep, hta, fl1, fl2, fl3, hrow⟩ := hFG
  have hG16 := hG.1
  intro w
  induction w with
  | zero =>
    intro i lv f l hw l0 l1 l2 l3 l4 hf hT hft hres hD hfr
    have e : i = G.length := by omega
    subst e
    refine x_iload rfl l4 ?_
    refine x_aload_n rfl l2 ?_
    refine x_getfield rfl (by omega) ((hfr fg (by omega) (by omega) (by omega) (by omega)).trans hfg) rfl ?_
    refine x_cge (t := 99) rfl rfl ⟨by omega, by omega⟩ ⟨by omega, by omega⟩ (fun _ => ?_) (fun h => by omega)
    refine x_iconst rfl ?_
    exact x_ireturn rfl (Or.inl rfl) ⟨_, _, rfl, rfl, by rw [hres], ⟨l, hf, hT.1, fun _ => hT⟩, ⟨_, hft, by omega, fun _ => rfl⟩, hD, hfr⟩
  | succ w ih =>
    intro i lv f l hw l0 l1 l2 l3 l4 hf hT hft hres hD hfr
    have hi : i < G.length := by omega
    have hfg' := (hfr fg (by omega) (by omega) (by omega) (by omega)).trans hfg
    have hfp' := (hfr (fg + 1) (by omega) (by omega) (by omega) (by omega)).trans hfp
    have hep' := (hfr (fg + 2) (by omega) (by omega) (by omega) (by omega)).trans hep
    have hta' := (hfr (fg + 3) (by omega) (by omega) (by omega) (by omega)).trans hta
    have hPK' : sPK f K := by
      obtain ⟨⟨c, kp, pt, p1⟩, se, at', p2, p3, p4⟩ := hPK
      exact ⟨⟨c, kp, pt, (hfr 53 (by decide) (by decide) (by omega) (by omega)).trans p1⟩, se, at', (hfr 55 (by decide) (by decide) (by omega) (by omega)).trans p2, (hfr 56 (by decide) (by decide) (by omega) (by omega)).trans p3, p4⟩
    have hD0 := hD
    obtain ⟨d113, d114, -, -⟩ := hD0
    have hG2 := hG.2
    have htk : ((sbt K G).getD i (0, [])).1.toNat ≤ i := by
      rw [sbt_at hi]
      have := (hG2 i hi).2
      omega
    have hTi := hT.2 i (Nat.le_refl _)
    -- the beat's step, once the atoms are given
    have fin : ∀ (lv2 : zL) (f2 : Nat → zE), zlv lv2 0 = some (.ref 113) → zlv lv2 1 = some (.ref t) → zlv lv2 2 = some (.ref fg) → zlv lv2 3 = some (xi (if back = true then 1 else 0)) → zlv lv2 4 = some (xi (i : Nat)) → sAM f2 (sam (sbt K G) back r0 i) 8 → (∃ dl : List Int, f2 115 = xr 0 dl ∧ dl.length = 8) → (∀ q, q ≠ 115 → q ≠ 116 → f2 q = f q) → xz v0 xs u (fun o X => ∃ r' f', o = .inl r' ∧ X = (xh f', u) ∧ (fun r' f' => r' = some (xi (sres (sbt K G) back r0 G.length)) ∧ (∃ l : List Int, f' (t + 1) = xr 0 l ∧ l.length = 136 ∧ (sres (sbt K G) back r0 G.length = 0 → sTR l (sbt K G) back r0 G.length)) ∧ (∃ c : Int, f' t = .inl (9, [.ref (t + 1), xi c]) ∧ (0 ≤ c ∧ c ≤ 16) ∧ (sres (sbt K G) back r0 G.length = 0 → c = (G.length : Nat))) ∧ sDN f' ∧ ∀ q, q ≠ 115 → q ≠ 116 → q ≠ t → q ≠ t + 1 → f' q = f0 q) r' f') 105 54 lv2 [] f2 := by
      intro lv2 f2 m0 m1 m2 m3 m4 hA hDL hfr2
      obtain ⟨al, a1, a2, a3, a4⟩ := hA
      have g113 := (hfr2 113 (by decide) (by decide)).trans d113
      have hmv : ∀ d, d < 8 → srow (sbt K G) back r0 (i + 1) d = smv (srow (sbt K G) back r0 i d) (sam (sbt K G) back r0 i d) := fun d _ => srow_n htk d
      refine x_aload_n rfl m0 ?_
      refine x_aload_n rfl m1 ?_
      refine x_getfield rfl (by omega) ((hfr2 t (by omega) (by omega)).trans hft) rfl ?_
      refine x_iload rfl m4 ?_
      refine x_bipush rfl (by decide) ?_
      refine x_imul rfl ?_
      refine x_call [_, _, _] rfl rfl (show (0 : Nat) ≤ 8 from by decide) (show (3 : Nat) ≤ 7 from by decide) (x_rcv (by decide) g113) (xs_104 (l := l) (am := sam (sbt K G) back r0 i) (r2 := srow (sbt K G) back r0 (i + 1)) (by omega) (by omega) (by omega) g113 (by have := hT.1; omega) (by have := hT.1; omega) a1 a2 (fun d hd => ⟨a4 d hd, by rw [← a4 d hd]; exact a3 d hd⟩) ((hfr2 (t + 1) (by omega) (by omega)).trans hf) hTi hmv) (fun r' f3 hP => ?_)
      obtain ⟨rfl, ⟨l', q1, q2, q3, q4⟩, q5⟩ := hP
      have hcr := sclash_rg (srow (sbt K G) back r0 i) (srow (sbt K G) back r0 (i + 1))
      have hD3 : sDN f3 := ⟨(q5 113 (by omega)).trans g113, (q5 114 (by omega)).trans ((hfr2 114 (by decide) (by decide)).trans d114), (by obtain ⟨dl, e1, e2⟩ := hDL; exact ⟨dl, (q5 115 (by omega)).trans e1, e2⟩), al, (q5 116 (by omega)).trans a1, a2, a3⟩
      have hft3 : f3 t = .inl (9, [.ref (t + 1), xi (i : Nat)]) := (q5 t (by omega)).trans ((hfr2 t (by omega) (by omega)).trans hft)
      have hfr3 : ∀ q, q ≠ 115 → q ≠ 116 → q ≠ t → q ≠ t + 1 → f3 q = f0 q := fun q z1 z2 z3 z4 => (q5 q z4).trans ((hfr2 q z1 z2).trans (hfr q z1 z2 z3 z4))
      refine x_istore rfl (show (5 : Nat) < 6 from by decide) ?_
      refine x_iload rfl xst_eq ?_
      refine x_ifeq (t := 85) rfl rfl ⟨by omega, by omega⟩ (fun h0 => ?_) (fun hne => ?_)
      · have hs : sres (sbt K G) back r0 (i + 1) = 0 := by
          rw [sres, if_neg (fun h => h hres), if_neg (fun h => h h0)]
        have hlv := sclash_0 h0
        have hok := sleave_ok hlv (fun d hd => (hTi.2.2 d hd).2) hmv
        refine x_aload_n rfl (xst_ne (by decide) m1 (Or.inl rfl)) ?_
        refine x_iload rfl (xst_ne (by decide) m4 (Or.inl rfl)) ?_
        refine x_iconst rfl ?_
        refine x_iadd rfl ?_
        refine x_putfield rfl (by omega) hft3 (show (1 : Nat) < 2 from by decide) rfl ?_
        refine x_iinc rfl (xst_ne (by decide) m4 (Or.inl rfl)) (show (4 : Nat) < 6 from by decide) ?_
        refine x_goto (t := 3) rfl rfl ?_
        refine ih (i + 1) _ _ l' (by omega) (xst_ne (by decide) (xst_ne (by decide) m0 (Or.inl rfl)) (Or.inl rfl)) (xst_ne (by decide) (xst_ne (by decide) m1 (Or.inl rfl)) (Or.inl rfl)) (xst_ne (by decide) (xst_ne (by decide) m2 (Or.inl rfl)) (Or.inl rfl)) (xst_ne (by decide) (xst_ne (by decide) m3 (Or.inl rfl)) (Or.inl rfl)) xst_eq (xu_ne (by omega) q1) ⟨by rw [q2]; exact hT.1, fun j hj => ?_⟩ xu_eq hs ?_ (fun q z1 z2 z3 z4 => xu_ne z3 (hfr3 q z1 z2 z3 z4))
        · have hTl := hT.1
          by_cases e9 : j = i + 1
          · subst e9
            refine ⟨by omega, by omega, fun d hd => ⟨?_, hok d hd⟩⟩
            rw [← q4 hlv d hd]
            congr 1
            omega
          · obtain ⟨y1, y2, y3⟩ := hT.2 j (by omega)
            refine ⟨y1, by omega, fun d hd => ?_⟩
            rw [q3 _ (by omega)]
            exact y3 d hd
        · obtain ⟨z1, z2, ⟨dl, z3, z4⟩, al3, z5, z6⟩ := hD3
          exact ⟨xu_ne (by omega) z1, xu_ne (by omega) z2, ⟨dl, xu_ne (by omega) z3, z4⟩, al3, xu_ne (by omega) z5, z6⟩
      · have hs : sres (sbt K G) back r0 (i + 1) = 10 * ((i : Nat) + 1) + sclash (srow (sbt K G) back r0 i) (srow (sbt K G) back r0 (i + 1)) := by
          rw [sres, if_neg (fun h => h hres), if_pos hne]
        have hsne : sres (sbt K G) back r0 (i + 1) ≠ 0 := by rw [hs]; omega
        have hsm : sres (sbt K G) back r0 G.length = sres (sbt K G) back r0 (i + 1) := by
          have := sres_up hsne (G.length - (i + 1))
          rw [show i + 1 + (G.length - (i + 1)) = G.length by omega] at this
          exact this
        refine x_bipush rfl (by decide) ?_
        refine x_iload rfl (xst_ne (by decide) m4 (Or.inl rfl)) ?_
        refine x_iconst rfl ?_
        refine x_iadd rfl ?_
        refine x_imul rfl ?_
        refine x_iload rfl xst_eq ?_
        refine x_iadd rfl ?_
        refine x_ireturn rfl (Or.inl rfl) ⟨_, _, rfl, rfl, by rw [hsm, hs], ⟨l', q1, by rw [q2]; exact hT.1, fun h => ?_⟩, ⟨_, hft3, by omega, fun h => ?_⟩, hD3, hfr3⟩
        · rw [hsm] at h; exact absurd h hsne
        · rw [hsm] at h; exact absurd h hsne
    refine x_iload rfl l4 ?_
    refine x_aload_n rfl l2 ?_
    refine x_getfield rfl (by omega) hfg' rfl ?_
    refine x_cge (t := 99) rfl rfl ⟨by omega, by omega⟩ ⟨by omega, by omega⟩ (fun h => by omega) (fun _ => ?_)
    refine x_iload_n rfl l3 ?_
    by_cases hb : back = true
    · rw [if_pos hb]
      refine x_ifeq (t := 39) rfl rfl (by decide) (fun h => absurd h (by decide)) (fun _ => ?_)
      have hk : G.length - 1 - i < G.length := by omega
      obtain ⟨gk1, gk2⟩ := hG2 _ hk
      have hrw := hrow _ hk
      refine x_aload_n rfl l0 ?_
      refine x_aload_n rfl l1 ?_
      refine x_aload_n rfl l2 ?_
      refine x_aload_n rfl l2 ?_
      refine x_getfield rfl (by omega) hfg' rfl ?_
      refine x_iconst rfl ?_
      refine x_isub rfl ?_
      refine x_iload rfl l4 ?_
      refine x_isub rfl ?_
      refine x_iconst rfl ?_
      rw [show ((G.length : Nat) : Int) - 1 - (i : Nat) = ((G.length - 1 - i : Nat) : Int) by omega]
      have hpl := sprt_len gk1
      refine x_call [_, _, _, _, _] rfl rfl (show (0 : Nat) ≤ 8 from by decide) (show (5 : Nat) ≤ 9 from by decide) (x_rcv (by decide) d113) (xs_98 (fp := fp) (ep := ep) (r := r0) (L := sprt K (G.getD (G.length - 1 - i) (0, 0, 0))) (F := (G.getD (G.length - 1 - i) (0, 0, 0)).1) d113 d114 (sPK_PL hPK' gk1) (by have := (show K.length ≤ 208 from by obtain ⟨-, se, at', -, -, -, -, h, -⟩ := hPK'; exact h); omega) ⟨hfgr, _, _, _, _, _, hfg'⟩ hfp' hep' fl1 fl2 (by omega) (by rw [Int.toNat_natCast, ← hrw]) (by rw [Int.toNat_natCast, hpl, ← hrw]; dsimp only; omega) ⟨ht, _, hft⟩ (sRL_RW (by omega) hf (by have := hT.1; omega) (hT.2 0 (Nat.zero_le _))) hD) (fun r' f2 hP => ?_)
      obtain ⟨rfl, hA, hDL, hfr2⟩ := hP
      refine x_aload_n rfl l0 ?_
      refine x_call [_] rfl rfl (show (0 : Nat) ≤ 8 from by decide) (show (1 : Nat) ≤ 2 from by decide) (x_rcv (by decide) ((hfr2 113 (by decide) (by decide)).trans d113)) (xs_99 ((hfr2 113 (by decide) (by decide)).trans d113) hA) (fun r' f3 hP => ?_)
      obtain ⟨rfl, hA3, hfr3⟩ := hP
      refine x_goto (t := 54) rfl rfl ?_
      refine fin lv f3 l0 l1 l2 l3 l4 ?_ ?_ (fun q z1 z2 => (hfr3 q z2).trans (hfr2 q z1 z2))
      · obtain ⟨al, a1, a2, a3, a4⟩ := hA3
        refine ⟨al, a1, a2, a3, fun d hd => ?_⟩
        rw [a4 d hd]
        unfold sam
        rw [if_pos hb, sbt_len, sbt_at hk]
      · obtain ⟨dl, e1, e2⟩ := hDL
        exact ⟨dl, (hfr3 115 (by decide)).trans e1, e2⟩
    · rw [if_neg hb]
      refine x_ifeq (t := 39) rfl rfl (by decide) (fun _ => ?_) (fun h => absurd rfl h)
      obtain ⟨gk1, gk2⟩ := hG2 i hi
      have hrw := hrow i hi
      have hpl := sprt_len gk1
      refine x_aload_n rfl l0 ?_
      refine x_aload_n rfl l1 ?_
      refine x_aload_n rfl l2 ?_
      refine x_iload rfl l4 ?_
      refine x_aload_n rfl l2 ?_
      refine x_getfield rfl (by omega) hfg' rfl ?_
      refine x_iload rfl l4 ?_
      refine x_iaload rfl (by omega) hta' ⟨by omega, by omega⟩ (by omega) ?_
      have etk : ta.getD (((i : Nat) : Int)).toNat 0 = (((G.getD i (0, 0, 0)).2.2.toNat : Nat) : Int) := by
        rw [Int.toNat_natCast]
        have : ta.getD i 0 = (G.getD i (0, 0, 0)).2.2 := by rw [← hrw]
        rw [this]
        omega
      rw [etk]
      refine x_call [_, _, _, _, _] rfl rfl (show (0 : Nat) ≤ 8 from by decide) (show (5 : Nat) ≤ 9 from by decide) (x_rcv (by decide) d113) (xs_98 (fp := fp) (ep := ep) (r := srow (sbt K G) back r0 (G.getD i (0, 0, 0)).2.2.toNat) (L := sprt K (G.getD i (0, 0, 0))) (F := (G.getD i (0, 0, 0)).1) d113 d114 (sPK_PL hPK' gk1) (by have := (show K.length ≤ 208 from by obtain ⟨-, se, at', -, -, -, -, h, -⟩ := hPK'; exact h); omega) ⟨hfgr, _, _, _, _, _, hfg'⟩ hfp' hep' fl1 fl2 (by omega) (by rw [Int.toNat_natCast, ← hrw]) (by rw [Int.toNat_natCast, hpl, ← hrw]; dsimp only; omega) ⟨ht, _, hft⟩ (sRL_RW (by omega) hf (by have := hT.1; omega) (hT.2 _ (by omega))) hD) (fun r' f2 hP => ?_)
      obtain ⟨rfl, hA, hDL, hfr2⟩ := hP
      refine fin lv f2 l0 l1 l2 l3 l4 ?_ hDL hfr2
      obtain ⟨al, a1, a2, a3, a4⟩ := hA
      refine ⟨al, a1, a2, a3, fun d hd => ?_⟩
      rw [a4 d hd]
      unfold sam
      rw [if_neg hb, sbt_at hi]
theorem xs_105 {v0 : Value} {xs : List Int32} {u : Nat × Nat} {f0 : Nat → zE} {r0 : Nat → Int} {K : List (Int × Int)} {G : List xBt} {t fg : Nat} {back : Bool} {l : List Int} (hDN : sDN f0) (hPK : sPK f0 K) (hG : sGok K G) (hFG : sFG f0 fg G) (ht : 123 ≤ t ∧ t ≤ 173) (hft : f0 t = .inl (9, [.ref (t + 1), xi 0])) (hf : f0 (t + 1) = xr 0 l) (hl : l.length = 136) (hr : sRL l 0 r0) : xq v0 xs u 105 [(0, .ref 113), (1, .ref t), (2, .ref fg), (3, xi (if back = true then 1 else 0))] f0 (fun r' f' => r' = some (xi (sres (sbt K G) back r0 G.length)) ∧ (∃ l : List Int, f' (t + 1) = xr 0 l ∧ l.length = 136 ∧ (sres (sbt K G) back r0 G.length = 0 → sTR l (sbt K G) back r0 G.length)) ∧ (∃ c : Int, f' t = .inl (9, [.ref (t + 1), xi c]) ∧ (0 ≤ c ∧ c ≤ 16) ∧ (sres (sbt K G) back r0 G.length = 0 → c = (G.length : Nat))) ∧ sDN f' ∧ ∀ q, q ≠ 115 → q ≠ 116 → q ≠ t → q ≠ t + 1 → f' q = f0 q) := by
  unfold xq
  refine x_iconst rfl ?_
  refine x_istore rfl (show (4 : Nat) < 6 from by decide) ?_
  refine xs_105l hDN hPK hG hFG ht G.length 0 _ f0 l rfl (xst_ne (by decide) rfl (Or.inl rfl)) (xst_ne (by decide) rfl (Or.inl rfl)) (xst_ne (by decide) rfl (Or.inl rfl)) (xst_ne (by decide) rfl (Or.inl rfl)) xst_eq hf ⟨hl, fun j hj => ?_⟩ hft rfl hDN (fun _ _ _ _ _ => rfl)
  have e : j = 0 := by omega
  subst e
  exact hr
end
