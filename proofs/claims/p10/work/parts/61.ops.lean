/-! Intervals under the operations. -/
def yin (q : Int × Int) (x : Int32) : Prop := q.1 ≤ x.toInt ∧ x.toInt ≤ q.2
def ytop : Int × Int := (-2147483648, 2147483647)
theorem yin_top (x : Int32) : yin ytop x := ⟨y_lo x, y_hi x⟩
def yfit (q : Int × Int) : Int × Int := if -2147483648 ≤ q.1 ∧ q.2 ≤ 2147483647 then q else ytop
def yop (i : Instr) (x y : Int × Int) : Option (Int × Int) := match i with
  | .iadd => some (yfit (x.1 + y.1, x.2 + y.2))
  | .isub => some (yfit (x.1 - y.2, x.2 - y.1))
  | .imul => if 0 ≤ x.1 ∧ 0 ≤ y.1 then some (yfit (x.1 * y.1, x.2 * y.2)) else if x.1 = x.2 ∧ 0 ≤ x.1 then some (yfit (x.1 * y.1, x.1 * y.2)) else some ytop
  | .iand => if y.1 = y.2 ∧ (y.1 = 1 ∨ y.1 = 31 ∨ y.1 = 255) then some (0, y.1) else some ytop
  | .ior | .ixor | .ishl | .ishr => some ytop
  | .idiv => if y.1 = y.2 ∧ 0 < y.1 then (if 0 ≤ x.1 then some (x.1 / y.1, x.2 / y.1) else some ytop) else none
  | .irem => if y.1 = y.2 ∧ 0 < y.1 then (if 0 ≤ x.1 then (if x.1 = x.2 then some (x.1 % y.1, x.1 % y.1) else some (0, if x.2 < y.1 then x.2 else y.1 - 1)) else some (1 - y.1, y.1 - 1)) else none
  | _ => none
theorem yfit_in {q : Int × Int} {z : Int32} {e : Int} (h1 : q.1 ≤ e) (h2 : e ≤ q.2) (h : -2147483648 ≤ e → e ≤ 2147483647 → z.toInt = e) : yin (yfit q) z := by
  unfold yfit
  split
  · rename_i hq
    have := h (by omega) (by omega)
    exact ⟨by omega, by omega⟩
  · exact yin_top z
theorem y_and {x y : Int32} (k c : Nat) (m : Int32) (hy : y.toInt = (c : Int)) (hmI : m.toInt = (c : Int)) (hm : m.toBitVec.toNat = 2 ^ k - 1) (h2 : 2 ^ k = c + 1) (hc : c < 1000) : 0 ≤ (x &&& y).toInt ∧ (x &&& y).toInt ≤ (c : Int) := by
  have e0 : y = m := y_eq.mpr (hy.trans hmI.symm)
  subst e0
  obtain ⟨j, hj, e⟩ := pk_andE x k hm
  rw [h2] at hj
  rw [e, nI_toInt (by omega)]
  omega
theorem y_div {x y : Int32} (hx : 0 ≤ x.toInt) (hy : 0 < y.toInt) : (x / y).toInt = x.toInt / y.toInt := by
  rw [Int32.toInt_div]
  have h1 : x.toInt.tdiv y.toInt = x.toInt / y.toInt := Int.tdiv_eq_ediv_of_nonneg hx
  rw [h1]
  have h2 : 0 ≤ x.toInt / y.toInt := Int.ediv_nonneg hx (by omega)
  have h3 : x.toInt / y.toInt ≤ x.toInt := Int.ediv_le_self _ hx
  have h4 := y_hi x
  exact y_bm (by omega) (by omega)
theorem yop_sound {i : Instr} {qx qy q : Int × Int} {x y : Int32} (h : yop i qx qy = some q) (hx : yin qx x) (hy : yin qy y) : ∃ z, zo2 i x y = some z ∧ yin q z := by
  obtain ⟨x1, x2⟩ := hx
  obtain ⟨y1, y2⟩ := hy
  cases i <;> simp only [yop] at h <;> try (cases h; done)
  case iadd =>
    cases h
    exact ⟨_, rfl, yfit_in (e := x.toInt + y.toInt) (by dsimp only; omega) (by dsimp only; omega) (fun a b => y_add a b)⟩
  case isub =>
    cases h
    exact ⟨_, rfl, yfit_in (e := x.toInt - y.toInt) (by dsimp only; omega) (by dsimp only; omega) (fun a b => y_sub a b)⟩
  case imul =>
    split at h
    · rename_i hc
      cases h
      refine ⟨_, rfl, yfit_in (e := x.toInt * y.toInt) ?_ ?_ (fun a b => y_mul a b)⟩
      · exact Int.mul_le_mul x1 y1 hc.2 (by omega)
      · exact Int.mul_le_mul x2 y2 (by omega) (by omega)
    · split at h
      · rename_i hc
        cases h
        have hx0 : x.toInt = qx.1 := by omega
        refine ⟨_, rfl, yfit_in (e := x.toInt * y.toInt) ?_ ?_ (fun a b => y_mul a b)⟩
        · rw [hx0]; exact Int.mul_le_mul_of_nonneg_left y1 hc.2
        · rw [hx0]; exact Int.mul_le_mul_of_nonneg_left y2 hc.2
      · cases h
        exact ⟨_, rfl, yin_top _⟩
  case iand =>
    split at h
    · rename_i hc
      cases h
      have hy0 : y.toInt = qy.1 := by omega
      refine ⟨_, rfl, ?_⟩
      rcases hc.2 with e | e | e
      · rw [e] at hy0 ⊢; exact y_and 1 1 1 hy0 rfl rfl rfl (by decide)
      · rw [e] at hy0 ⊢; exact y_and 5 31 31 hy0 rfl rfl rfl (by decide)
      · rw [e] at hy0 ⊢; exact y_and 8 255 255 hy0 rfl rfl rfl (by decide)
    · cases h
      exact ⟨_, rfl, yin_top _⟩
  case ior => cases h; exact ⟨_, rfl, yin_top _⟩
  case ixor => cases h; exact ⟨_, rfl, yin_top _⟩
  case ishl => cases h; exact ⟨_, rfl, yin_top _⟩
  case ishr => cases h; exact ⟨_, rfl, yin_top _⟩
  case idiv =>
    split at h
    · rename_i hc
      have hy0 : y.toInt = qy.1 := by omega
      have hne : ¬ y = 0 := fun e => by
        have : y.toInt = 0 := by rw [e]; rfl
        omega
      refine ⟨x / y, by simp [zo2, hne], ?_⟩
      split at h
      · rename_i hx0
        cases h
        have e := y_div (x := x) (y := y) (by omega) (by omega)
        refine ⟨?_, ?_⟩
        · rw [e, hy0]; exact Int.ediv_le_ediv hc.2 x1
        · rw [e, hy0]; exact Int.ediv_le_ediv hc.2 x2
      · cases h
        exact yin_top _
    · cases h
  case irem =>
    split at h
    · rename_i hc
      have hy0 : y.toInt = qy.1 := by omega
      have hne : ¬ y = 0 := fun e => by
        have : y.toInt = 0 := by rw [e]; rfl
        omega
      refine ⟨x - x / y * y, by simp [zo2, hne], ?_⟩
      have e := rem_toInt x y
      split at h
      · rename_i hx0
        have e2 : x.toInt.tmod y.toInt = x.toInt % y.toInt := Int.tmod_eq_emod_of_nonneg (by omega)
        split at h
        · rename_i hxx
          cases h
          have hx1 : x.toInt = qx.1 := by omega
          have e6 : (x - x / y * y).toInt = qx.1 % qy.1 := by rw [e, e2, hx1, hy0]
          exact ⟨by dsimp only; omega, by dsimp only; omega⟩
        cases h
        have e3 : 0 ≤ x.toInt % y.toInt := Int.emod_nonneg _ (by omega)
        have e4 : x.toInt % y.toInt < y.toInt := Int.emod_lt_of_pos _ (by omega)
        have e5 : x.toInt % y.toInt ≤ x.toInt := by
          have h7 := Int.mul_ediv_add_emod x.toInt y.toInt
          have h8 : 0 ≤ y.toInt * (x.toInt / y.toInt) := Int.mul_nonneg (by omega) (Int.ediv_nonneg (by omega) (by omega))
          omega
        refine ⟨by rw [e, e2]; exact e3, ?_⟩
        rw [e, e2]
        dsimp only
        split <;> omega
      · cases h
        have hb := tmod_bounds (a := x.toInt) (M := y.toInt) (by omega)
        rw [← e] at hb
        exact ⟨by dsimp only; omega, by dsimp only; omega⟩
    · cases h
