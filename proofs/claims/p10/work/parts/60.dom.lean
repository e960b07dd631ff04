/-! A checker for safety and ends: intervals, places, heap typing. First: the values. -/
abbrev yA : Type := (Int × Int) ⊕ (Bool ⊕ List Nat)
def yg (a : yA) (v : Value) : Prop := match a with
  | .inl q => ∃ x : Int32, v = .int x ∧ q.1 ≤ x.toInt ∧ x.toInt ≤ q.2
  | .inr (.inl _) => ∃ x : Int64, v = .long x
  | .inr (.inr os) => ∃ o, v = .ref o ∧ o ∈ os
theorem y_lo (x : Int32) : -2147483648 ≤ x.toInt := Int32.le_toInt x
theorem y_hi (x : Int32) : x.toInt ≤ 2147483647 := by
  have := Int32.toInt_lt x
  omega
theorem y_bm {z : Int} (h1 : -2147483648 ≤ z) (h2 : z ≤ 2147483647) : z.bmod 4294967296 = z := by
  rw [Int.bmod_def]
  split <;> omega
theorem y_add {x y : Int32} (h1 : -2147483648 ≤ x.toInt + y.toInt) (h2 : x.toInt + y.toInt ≤ 2147483647) : (x + y).toInt = x.toInt + y.toInt := by
  rw [Int32.toInt_add]
  exact y_bm h1 h2
theorem y_sub {x y : Int32} (h1 : -2147483648 ≤ x.toInt - y.toInt) (h2 : x.toInt - y.toInt ≤ 2147483647) : (x - y).toInt = x.toInt - y.toInt := by
  rw [Int32.toInt_sub]
  exact y_bm h1 h2
theorem y_mul {x y : Int32} (h1 : -2147483648 ≤ x.toInt * y.toInt) (h2 : x.toInt * y.toInt ≤ 2147483647) : (x * y).toInt = x.toInt * y.toInt := by
  rw [Int32.toInt_mul]
  exact y_bm h1 h2
theorem y_lt {x y : Int32} : x < y ↔ x.toInt < y.toInt := Int32.lt_iff_toInt_lt
theorem y_le {x y : Int32} : x ≤ y ↔ x.toInt ≤ y.toInt := Int32.le_iff_toInt_le
theorem y_eq {x y : Int32} : x = y ↔ x.toInt = y.toInt := ⟨fun h => by rw [h], Int32.toInt_inj.mp⟩
