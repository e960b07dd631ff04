/-! Both sides' own ways to tell it. -/
theorem smv_near {p a : Int} (h : sok p) (hm : smv p a ≠ -1) : sok (smv p a) ∧ ((sX (smv p a) - sX p = 0 ∧ -1 ≤ sY (smv p a) - sY p ∧ sY (smv p a) - sY p ≤ 1) ∨ (sY (smv p a) - sY p = 0 ∧ -1 ≤ sX (smv p a) - sX p ∧ sX (smv p a) - sX p ≤ 1)) := by
  have h1 : sok (smv p a) := by
    rcases smv_ok (a := a) h with h1 | h1
    · exact absurd h1 hm
    · exact h1
  refine ⟨h1, ?_⟩
  unfold smv at hm ⊢
  split at hm
  · rename_i hc
    rw [if_pos hc]
    rcases sgo_ok (w := sway (sF p) a) h with h2 | ⟨-, h2, h3, -⟩
    · exact absurd h2 hm
    · rw [h2, h3]
      unfold sdx sdy
      repeat' split
      all_goals omega
  · rename_i hc
    rw [if_neg hc]
    have hf := sF_rg p
    unfold sX sY
    split
    · omega
    · split
      · omega
      · omega
theorem stride_iff {xa ya xb yb dx dy : Int} (hn : (xb - xa = 0 ∧ -1 ≤ yb - ya ∧ yb - ya ≤ 1) ∨ (yb - ya = 0 ∧ -1 ≤ xb - xa ∧ xb - xa ≤ 1)) (h1 : -1 ≤ dx ∧ dx ≤ 1) (h2 : -1 ≤ dy ∧ dy ≤ 1) : (10 * ya + xa + (10 * dy + dx) = 10 * yb + xb ↔ xa + dx = xb ∧ ya + dy = yb) := by
  constructor
  · intro h; omega
  · intro h; omega
def sstr (w : Int) : Int := 10 * sdy w + sdx w
theorem sdx_op (f : Int) (hf : 0 ≤ f ∧ f ≤ 3) : sdx ((f + 2) % 4) = - sdx f ∧ sdy ((f + 2) % 4) = - sdy f := by
  rcases (show f = 0 ∨ f = 1 ∨ f = 2 ∨ f = 3 by omega) with rfl | rfl | rfl | rfl <;> decide
theorem slook_f {p q : Int} (hn : (sX q - sX p = 0 ∧ -1 ≤ sY q - sY p ∧ sY q - sY p ≤ 1) ∨ (sY q - sY p = 0 ∧ -1 ≤ sX q - sX p ∧ sX q - sX p ≤ 1)) : (slook p q 0 = true ↔ p / 4 + sstr (sF p) = q / 4) ∧ (slook p q 2 = true ↔ p / 4 - sstr (sF p) = q / 4) := by
  have hf := sF_rg p
  have e0 : (sF p + 0) % 4 = sF p := by omega
  have h1 := sdx_rg (sF p)
  have h2 := sdy_rg (sF p)
  rw [s_spot p, s_spot q]
  unfold slook sstr
  rw [e0, (sdx_op (sF p) hf).1, (sdx_op (sF p) hf).2]
  simp only [Bool.and_eq_true, beq_iff_eq]
  constructor
  · exact (stride_iff hn h1 h2).symm
  · have := stride_iff (dx := -sdx (sF p)) (dy := -sdy (sF p)) hn (by omega) (by omega)
    rw [← this]
    constructor <;> intro h <;> omega
theorem spot_inj {p q : Int} (hp : sok p) (hq : sok q) : p / 4 = q / 4 ↔ sX p = sX q ∧ sY p = sY q := by
  rw [s_spot p, s_spot q]
  have := sX_rg hp
  have := sX_rg hq
  omega
/-- the class's crossing -/
theorem scr_cls {p q a b : Int} (hp : sok p) (hq : sok q) (ha : smv p a ≠ -1) (hb : smv q b ≠ -1) : scr p q (smv p a) (smv q b) = (decide (smv p a / 4 = q / 4 ∧ smv q b / 4 = p / 4) && !(decide (p / 4 + sstr (sF p) = q / 4 ∧ q / 4 + sstr (sF q) = p / 4) || decide (p / 4 - sstr (sF p) = q / 4 ∧ q / 4 - sstr (sF q) = p / 4))) := by
  obtain ⟨h1, h2⟩ := smv_near hp ha
  obtain ⟨h3, h4⟩ := smv_near hq hb
  unfold scr
  by_cases hs : smv p a / 4 = q / 4 ∧ smv q b / 4 = p / 4
  · obtain ⟨e1, e2⟩ := (spot_inj h1 hq).mp hs.1
    obtain ⟨e3, e4⟩ := (spot_inj h3 hp).mp hs.2
    rw [e1, e2] at h2
    rw [e3, e4] at h4
    obtain ⟨f1, f2⟩ := slook_f h2
    obtain ⟨f3, f4⟩ := slook_f h4
    rw [decide_eq_true hs, hs.1, hs.2, beq_self_eq_true, beq_self_eq_true]
    congr 1
    congr 1
    rw [Bool.eq_iff_iff]
    simp only [Bool.or_eq_true, Bool.and_eq_true, decide_eq_true_eq, f1, f2, f3, f4]
  · rw [decide_eq_false hs, Bool.false_and]
    cases h5 : (smv p a / 4 == q / 4) with
    | false => rfl
    | true =>
      cases h6 : (smv q b / 4 == p / 4) with
      | false => rfl
      | true => exact absurd ⟨beq_iff_eq.mp h5, beq_iff_eq.mp h6⟩ hs
/-- the class's 'lies towards' -/
theorem slies_cls {p q w : Int} (hw : 0 ≤ w ∧ w ≤ 3) : slies p q w = if w = 0 then decide (sX q - sX p = 0) && decide (0 < sY q - sY p) else if w = 1 then decide (sY q - sY p = 0) && decide (0 < sX q - sX p) else if w = 2 then decide (sX q - sX p = 0) && decide (sY q - sY p < 0) else decide (sY q - sY p = 0) && decide (sX q - sX p < 0) := by
  unfold slies sdx sdy
  rcases (show w = 0 ∨ w = 1 ∨ w = 2 ∨ w = 3 by omega) with rfl | rfl | rfl | rfl <;> simp only [Int.reduceEq, if_true, if_false] <;> rw [Bool.eq_iff_iff] <;> simp only [Bool.and_eq_true, decide_eq_true_eq] <;> omega
theorem slies_self (p w : Int) : slies p p w = false := by
  unfold slies
  simp
/-- the class's measure -/
theorem sfar_cls (r : Nat → Int) (d : Nat) : sfar r d = ((8 * sX (r d) - ssum (fun e => sX (r e)) 8) * (8 * sX (r d) - ssum (fun e => sX (r e)) 8) + (8 * sY (r d) - ssum (fun e => sY (r e)) 8) * (8 * sY (r d) - ssum (fun e => sY (r e)) 8)) * 10 * 10 + r d / 4 := by
  unfold sfar
  rw [s_spot]
  omega
theorem sfar_rg {r : Nat → Int} (h : ∀ e, e < 8 → sok (r e)) (d : Nat) (hd : d < 8) : 0 ≤ sfar r d ∧ sfar r d < 2000000 := by
  have hx := sX_rg (h d hd)
  have hy := sY_rg (h d hd)
  have sm : ∀ (g : Nat → Int), (∀ e, e < 8 → 0 ≤ g e ∧ g e ≤ 9) → 0 ≤ ssum g 8 ∧ ssum g 8 ≤ 72 := by
    intro g hg
    simp only [ssum]
    have := hg 0 (by omega); have := hg 1 (by omega); have := hg 2 (by omega); have := hg 3 (by omega)
    have := hg 4 (by omega); have := hg 5 (by omega); have := hg 6 (by omega); have := hg 7 (by omega)
    omega
  have h1 := sm (fun e => sX (r e)) (fun e he => sX_rg (h e he))
  have h2 := sm (fun e => sY (r e)) (fun e he => sY_rg (h e he))
  unfold sfar
  generalize ssum (fun e => sX (r e)) 8 = a at h1 ⊢
  generalize ssum (fun e => sY (r e)) 8 = b at h2 ⊢
  have sq : ∀ z : Int, -72 ≤ z → z ≤ 72 → 0 ≤ z * z ∧ z * z ≤ 5184 := by
    intro z h1 h2
    have h5 : ∀ n : Nat, n ≤ 72 → n * n ≤ 5184 := by
      intro n hn
      exact Nat.mul_le_mul hn hn
    have e : z * z = ((z.natAbs * z.natAbs : Nat) : Int) := (Int.natAbs_mul_self).symm
    have := h5 z.natAbs (by omega)
    rw [e]
    omega
  have q1 := sq (8 * sX (r d) - a) (by omega) (by omega)
  have q2 := sq (8 * sY (r d) - b) (by omega) (by omega)
  omega
