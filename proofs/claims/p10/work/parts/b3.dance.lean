/-! More instructions, one lemma each. -/
theorem xi_idiv {x y : Int} (hx : 0 ≤ x ∧ x ≤ 2147483647) (hy : 0 < y ∧ y ≤ 2147483647) : Int32.ofInt x / Int32.ofInt y = Int32.ofInt (x / y) := by
  have e1 := xi_toInt (z := x) (by omega) hx.2
  have e2 := xi_toInt (z := y) (by omega) hy.2
  have h0 : 0 ≤ x / y := Int.ediv_nonneg hx.1 (by omega)
  have h1 : x / y ≤ x := Int.ediv_le_self y hx.1
  apply y_eq.mpr
  rw [y_div (by omega) (by omega), e1, e2, xi_toInt (by omega) (by omega)]
theorem xi_irem {x y : Int} (hx : 0 ≤ x ∧ x ≤ 2147483647) (hy : 0 < y ∧ y ≤ 2147483647) : Int32.ofInt x - Int32.ofInt x / Int32.ofInt y * Int32.ofInt y = Int32.ofInt (x % y) := by
  have e1 := xi_toInt (z := x) (by omega) hx.2
  have e2 := xi_toInt (z := y) (by omega) hy.2
  have h0 : 0 ≤ x % y := Int.emod_nonneg _ (by omega)
  have h1 : x % y < y := Int.emod_lt_of_pos _ hy.1
  apply y_eq.mpr
  rw [rem_toInt, e1, e2, Int.tmod_eq_emod_of_nonneg hx.1, xi_toInt (by omega) (by omega)]
theorem xi_ne0 {y : Int} (hy : 0 < y ∧ y ≤ 2147483647) : ¬ Int32.ofInt y = 0 := by
  intro h
  have e := congrArg Int32.toInt h
  rw [xi_toInt (by omega) hy.2] at e
  have : (0 : Int32).toInt = 0 := rfl
  omega
section
variable {v0 : Value} {xs : List Int32} {u : Nat × Nat} {Q : zO → zX → Prop} {mi pc a b c : Nat} {v : Value} {lv : zL} {f : Nat → zE} {r : List Value} {x y : Int}
theorem x_idiv (hc : zcd (zt v0) mi pc = some (.idiv, a, b, c, v)) (hx : 0 ≤ x ∧ x ≤ 2147483647) (hy : 0 < y ∧ y ≤ 2147483647) (k : xz v0 xs u Q mi (pc + 1) lv (xi (x / y) :: r) f) : xz v0 xs u Q mi pc lv (xi y :: xi x :: r) f := x_f (q := ((pc + 1), lv, (xi (x / y) :: r))) hc (by simp only [za, zo2, if_neg (xi_ne0 hy), xi_idiv hx hy]) k
theorem x_irem (hc : zcd (zt v0) mi pc = some (.irem, a, b, c, v)) (hx : 0 ≤ x ∧ x ≤ 2147483647) (hy : 0 < y ∧ y ≤ 2147483647) (k : xz v0 xs u Q mi (pc + 1) lv (xi (x % y) :: r) f) : xz v0 xs u Q mi pc lv (xi y :: xi x :: r) f := x_f (q := ((pc + 1), lv, (xi (x % y) :: r))) hc (by simp only [za, zo2, if_neg (xi_ne0 hy), xi_irem hx hy]) k
theorem x_ishl (hc : zcd (zt v0) mi pc = some (.ishl, a, b, c, v)) (k : xz v0 xs u Q mi (pc + 1) lv (.int (Int32.ofInt x <<< (Int32.ofInt y &&& 31)) :: r) f) : xz v0 xs u Q mi pc lv (xi y :: xi x :: r) f := x_f (q := ((pc + 1), lv, (.int (Int32.ofInt x <<< (Int32.ofInt y &&& 31)) :: r))) hc rfl k
theorem x_ishr (hc : zcd (zt v0) mi pc = some (.ishr, a, b, c, v)) (k : xz v0 xs u Q mi (pc + 1) lv (.int (Int32.ofInt x >>> (Int32.ofInt y &&& 31)) :: r) f) : xz v0 xs u Q mi pc lv (xi y :: xi x :: r) f := x_f (q := ((pc + 1), lv, (.int (Int32.ofInt x >>> (Int32.ofInt y &&& 31)) :: r))) hc rfl k
/-- two ints of any form -/
theorem x_iorg {g h z : Int32} (hc : zcd (zt v0) mi pc = some (.ior, a, b, c, v)) (e : g ||| h = z) (k : xz v0 xs u Q mi (pc + 1) lv (.int z :: r) f) : xz v0 xs u Q mi pc lv (.int h :: .int g :: r) f := x_f (q := ((pc + 1), lv, (.int z :: r))) hc (by simp only [za, zo2, e]) k
theorem x_iandg2 {g h z : Int32} (hc : zcd (zt v0) mi pc = some (.iand, a, b, c, v)) (e : g &&& h = z) (k : xz v0 xs u Q mi (pc + 1) lv (.int z :: r) f) : xz v0 xs u Q mi pc lv (.int h :: .int g :: r) f := x_f (q := ((pc + 1), lv, (.int z :: r))) hc (by simp only [za, zo2, e]) k
theorem x_ixorg {g h z : Int32} (hc : zcd (zt v0) mi pc = some (.ixor, a, b, c, v)) (e : g ^^^ h = z) (k : xz v0 xs u Q mi (pc + 1) lv (.int z :: r) f) : xz v0 xs u Q mi pc lv (.int h :: .int g :: r) f := x_f (q := ((pc + 1), lv, (.int z :: r))) hc (by simp only [za, zo2, e]) k
end
