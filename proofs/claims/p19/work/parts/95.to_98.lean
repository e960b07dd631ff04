section
/-! By hand: ints as integers, the heap as a function of the place. -/
abbrev xi (z : Int) : Value := .int (Int32.ofInt z)
abbrev xl (z : Int) : Value := .long (Int64.ofInt z)
def xh (f : Nat → zE) : List zE := (List.range 154).map fun k => f (k + 50)
def xu (f : Nat → zE) (p : Nat) (c : zE) : Nat → zE := fun q => if q = p then c else f q
abbrev xr (k : Nat) (l : List Int) : zE := .inr (.inl (k, l.map Int32.ofInt))
theorem xu_eq {f : Nat → zE} {p : Nat} {c : zE} : xu f p c p = c := if_pos rfl
theorem xu_ne {f : Nat → zE} {p q : Nat} {c d : zE} (h : q ≠ p) (k : f q = d) : xu f p c q = d := by
  unfold xu
  rw [if_neg h]
  exact k
theorem xh_at {f : Nat → zE} {p : Nat} (h1 : 50 ≤ p) (h2 : p < 204) : (xh f)[p - 50]? = some (f p) := by
  unfold xh
  rw [List.getElem?_map, List.getElem?_range (by omega)]
  simp only [Option.map_some, Option.some.injEq]
  congr 1
  omega
theorem xh_len {f : Nat → zE} : (xh f).length = 154 := by simp [xh]
theorem xh_set {f : Nat → zE} {p : Nat} {c : zE} (h1 : 50 ≤ p) : (xh f).set (p - 50) c = xh (xu f p c) := by
  apply List.ext_getElem?
  intro k
  by_cases hk : k < 154
  · have e2 : (xh (xu f p c))[k]? = some (xu f p c (k + 50)) := by
      have := xh_at (f := xu f p c) (p := k + 50) (by omega) (by omega)
      rw [Nat.add_sub_cancel] at this
      exact this
    have e1 : (xh f)[k]? = some (f (k + 50)) := by
      have := xh_at (f := f) (p := k + 50) (by omega) (by omega)
      rw [Nat.add_sub_cancel] at this
      exact this
    rw [e2]
    by_cases hp : p - 50 = k
    · rw [List.getElem?_set, if_pos hp, if_pos (by rw [xh_len]; omega)]
      have : k + 50 = p := by omega
      rw [this, xu_eq]
    · rw [List.getElem?_set_ne hp, e1, xu_ne (by omega) rfl]
  · rw [List.getElem?_eq_none (by rw [List.length_set, xh_len]; omega), List.getElem?_eq_none (by rw [xh_len]; omega)]
theorem xi_toInt {z : Int} (h1 : -2147483648 ≤ z) (h2 : z ≤ 2147483647) : (Int32.ofInt z).toInt = z := Int32.toInt_ofInt_of_le h1 (by omega)
theorem xi_lt {a b : Int} (ha : -2147483648 ≤ a ∧ a ≤ 2147483647) (hb : -2147483648 ≤ b ∧ b ≤ 2147483647) : Int32.ofInt a < Int32.ofInt b ↔ a < b := by rw [y_lt, xi_toInt ha.1 ha.2, xi_toInt hb.1 hb.2]
theorem xi_le {a b : Int} (ha : -2147483648 ≤ a ∧ a ≤ 2147483647) (hb : -2147483648 ≤ b ∧ b ≤ 2147483647) : Int32.ofInt a ≤ Int32.ofInt b ↔ a ≤ b := by rw [y_le, xi_toInt ha.1 ha.2, xi_toInt hb.1 hb.2]
theorem xi_eq {a b : Int} (ha : -2147483648 ≤ a ∧ a ≤ 2147483647) (hb : -2147483648 ≤ b ∧ b ≤ 2147483647) : Int32.ofInt a = Int32.ofInt b ↔ a = b := by rw [y_eq, xi_toInt ha.1 ha.2, xi_toInt hb.1 hb.2]
theorem x0 : (0 : Int32) = Int32.ofInt 0 := rfl
theorem xr0 : -2147483648 ≤ (0 : Int) ∧ (0 : Int) ≤ 2147483647 := by omega
theorem xi_clamp {z : Int} (h1 : 0 ≤ z) (h2 : z ≤ 2147483647) : ¬ Int32.ofInt z < 0 ∧ (Int32.ofInt z).toNatClampNeg = z.toNat := by
  have e := xi_toInt (z := z) (by omega) h2
  have := y_cl (x := Int32.ofInt z) (by omega)
  exact ⟨this.1, by omega⟩
theorem xin {z : Int} {n : Nat} (h1 : 0 ≤ z) (h2 : z < n) (h3 : n ≤ 2147483647) : zin (Int32.ofInt z) n = true := by
  have := xi_clamp (z := z) h1 (by omega)
  unfold zin
  rw [this.2]
  simp only [this.1, decide_false, Bool.not_false, Bool.true_and, decide_eq_true_eq]
  omega
/-! Locals: stores by slot. -/
def xst (k : Nat) (v : Value) (lv : zL) : zL := (k, v) :: zf1 k lv
def xst2 (k : Nat) (v : Value) (lv : zL) : zL := (k, v) :: zf2 k lv
theorem xst_eq {k : Nat} {v : Value} {lv : zL} : zlv (xst k v lv) k = some v := if_pos rfl
theorem xst2_eq {k : Nat} {v : Value} {lv : zL} : zlv (xst2 k v lv) k = some v := if_pos rfl
theorem zlv_filter {P : Nat × Value → Bool} {j : Nat} {w : Value} : ∀ {lv : zL}, zlv lv j = some w → P (j, w) = true → (∀ x, P (j, x) = true ∨ x ≠ w) → zlv (lv.filter P) j = some w := by
  intro lv
  induction lv with
  | nil => intro h; cases h
  | cons q r ih =>
    intro h hp hx
    simp only [zlv] at h
    split at h
    · rename_i hq
      cases h
      have e : q = (j, q.2) := by rw [← hq]
      rw [List.filter_cons_of_pos (by rw [e]; exact hp)]
      simp only [zlv]
      rw [if_pos hq]
    · rename_i hq
      rw [List.filter_cons]
      split
      · simp only [zlv]
        rw [if_neg hq]
        exact ih h hp hx
      · exact ih h hp hx
theorem xst_ne {k j : Nat} {v w : Value} {lv : zL} (hj : j ≠ k) (h : zlv lv j = some w) (hc : w.category = 1 ∨ j + 1 ≠ k) : zlv (xst k v lv) j = some w := by
  unfold xst
  simp only [zlv]
  rw [if_neg (fun e => hj e.symm)]
  have key : (!((j, w).1 == k) && !((j, w).1 + 1 == k && (j, w).2.category == 2)) = true := by
    have h1 : (j == k) = false := by simpa using hj
    have h2 : (j + 1 == k && w.category == 2) = false := by
      rcases hc with hc | hc
      · simp [hc]
      · have : (j + 1 == k) = false := by simpa using hc
        simp [this]
    simp only [h1, h2]
    rfl
  unfold zf1
  exact zlv_filter h key fun x => by
    by_cases hx : x = w
    · subst hx; exact Or.inl key
    · exact Or.inr hx
theorem xst2_ne {k j : Nat} {v w : Value} {lv : zL} (hj : j ≠ k) (hj2 : j ≠ k + 1) (h : zlv lv j = some w) (hc : w.category = 1 ∨ j + 1 ≠ k) : zlv (xst2 k v lv) j = some w := by
  unfold xst2
  simp only [zlv]
  rw [if_neg (fun e => hj e.symm)]
  have key : (!((j, w).1 == k) && (!((j, w).1 == k + 1) && !((j, w).1 + 1 == k && (j, w).2.category == 2))) = true := by
    have h1 : (j == k) = false := by simpa using hj
    have h3 : (j == k + 1) = false := by simpa using hj2
    have h2 : (j + 1 == k && w.category == 2) = false := by
      rcases hc with hc | hc
      · simp [hc]
      · have : (j + 1 == k) = false := by simpa using hc
        simp [this]
    simp only [h1, h2, h3]
    rfl
  unfold zf2
  exact zlv_filter h key fun x => by
    by_cases hx : x = w
    · subst hx; exact Or.inl key
    · exact Or.inr hx
/-- a run of the interpreter from here comes to an end with Q -/
def xz (v0 : Value) (xs : List Int32) (u : Nat × Nat) (Q : zO → zX → Prop) (mi pc : Nat) (lv : zL) (st : List Value) (f : Nat → zE) : Prop := zwp (zt v0) (zG xs) mi pc lv st (xh f, u) Q
/-- a method comes back with an answer and a heap -/
def xq (v0 : Value) (xs : List Int32) (u : Nat × Nat) (mi : Nat) (lv : zL) (f : Nat → zE) (P : Option Value → (Nat → zE) → Prop) : Prop := xz v0 xs u (fun o X => ∃ r f', o = .inl r ∧ X = (xh f', u) ∧ P r f') mi 0 lv [] f
section xS
variable {v0 : Value} {xs : List Int32} {u : Nat × Nat} {Q : zO → zX → Prop} {mi pc : Nat} {lv : zL} {st : List Value} {f : Nat → zE}
theorem x_f {i : Instr} {a b c : Nat} {v : Value} {q : Nat × zL × List Value} (hc : zcd (zt v0) mi pc = some (i, a, b, c, v)) (hq : za i v (znl (zt v0) mi) pc lv st = some q) (k : xz v0 xs u Q mi q.1 q.2.1 q.2.2 f) : xz v0 xs u Q mi pc lv st f := by
  refine zwp_s (s' := (q.1, q.2.1, q.2.2, (xh f, u))) ?_ k
  unfold zstp
  simp only [hc, hq]
theorem x_b {i : Instr} {a b c : Nat} {v : Value} {q : Nat × List Value} (hc : zcd (zt v0) mi pc = some (i, a, b, c, v)) (hq : zb (zG xs) i a b st (xh f, u) = some q) (k : xz v0 xs u Q mi (pc + q.1) lv q.2 f) : xz v0 xs u Q mi pc lv st f := by
  refine zwp_s (s' := (pc + q.1, lv, q.2, (xh f, u))) ?_ k
  unfold zstp
  simp only [hc, (zb_za hq).1, hq]
theorem x_c {i : Instr} {a b c : Nat} {v : Value} {q : Nat × List Value × zX} {f' : Nat → zE} (hc : zcd (zt v0) mi pc = some (i, a, b, c, v)) (hq : zc (zdf (zt v0)) i a b c st (xh f, u) = some q) (hf : q.2.2 = (xh f', u)) (k : xz v0 xs u Q mi (pc + q.1) lv q.2.1 f') : xz v0 xs u Q mi pc lv st f := by
  refine zwp_s (s' := (pc + q.1, lv, q.2.1, (xh f', u))) ?_ k
  unfold zstp
  have h := zc_za (G := zG xs) (v := v) (nL := znl (zt v0) mi) (pc := pc) (lv := lv) hq
  simp only [hc, h.1, h.2.1, hq, hf]
theorem x_rd {p : Nat} (h1 : 50 ≤ p) (h2 : p < 204) : zrd (zG xs) (xh f, u) p = some (f p) := by
  unfold zrd
  rw [if_neg (by omega)]
  exact xh_at h1 h2
variable {a b c : Nat} {v w : Value} {r : List Value} {x y z : Int}
theorem x_iconst (hc : zcd (zt v0) mi pc = some (.iconst x, a, b, c, v))  (k : xz v0 xs u Q mi (pc + 1) lv (xi x :: st) f) : xz v0 xs u Q mi pc lv st f := x_f (q := ((pc + 1), lv, (xi x :: st))) hc rfl k
theorem x_bipush (hc : zcd (zt v0) mi pc = some (.bipush x, a, b, c, v)) (hx : (Int8.ofInt x).toInt32 = Int32.ofInt x) (k : xz v0 xs u Q mi (pc + 2) lv (xi x :: st) f) : xz v0 xs u Q mi pc lv st f := x_f (q := ((pc + 2), lv, (xi x :: st))) hc (by simp only [za, hx]) k
theorem x_sipush (hc : zcd (zt v0) mi pc = some (.sipush x, a, b, c, v)) (hx : (Int16.ofInt x).toInt32 = Int32.ofInt x) (k : xz v0 xs u Q mi (pc + 3) lv (xi x :: st) f) : xz v0 xs u Q mi pc lv st f := x_f (q := ((pc + 3), lv, (xi x :: st))) hc (by simp only [za, hx]) k
theorem x_iload_n {n : Fin 4} (hc : zcd (zt v0) mi pc = some (.iload_n n, a, b, c, v)) (h : zlv lv n = some (xi x)) (k : xz v0 xs u Q mi (pc + 1) lv (xi x :: st) f) : xz v0 xs u Q mi pc lv st f := x_f (q := ((pc + 1), lv, (xi x :: st))) hc (by simp only [za, h]) k
theorem x_iload {n : Nat} (hc : zcd (zt v0) mi pc = some (.iload n, a, b, c, v)) (h : zlv lv n = some (xi x)) (k : xz v0 xs u Q mi (pc + 2) lv (xi x :: st) f) : xz v0 xs u Q mi pc lv st f := x_f (q := ((pc + 2), lv, (xi x :: st))) hc (by simp only [za, h]) k
theorem x_aload_n {p : Nat} {n : Fin 4} (hc : zcd (zt v0) mi pc = some (.aload_n n, a, b, c, v)) (h : zlv lv n = some (.ref p)) (k : xz v0 xs u Q mi (pc + 1) lv (.ref p :: st) f) : xz v0 xs u Q mi pc lv st f := x_f (q := ((pc + 1), lv, (.ref p :: st))) hc (by simp only [za, h]) k
theorem x_aload {p : Nat} {n : Nat} (hc : zcd (zt v0) mi pc = some (.aload n, a, b, c, v)) (h : zlv lv n = some (.ref p)) (k : xz v0 xs u Q mi (pc + 2) lv (.ref p :: st) f) : xz v0 xs u Q mi pc lv st f := x_f (q := ((pc + 2), lv, (.ref p :: st))) hc (by simp only [za, h]) k
theorem x_lload_n {g : Int64} {n : Fin 4} (hc : zcd (zt v0) mi pc = some (.lload_n n, a, b, c, v)) (h : zlv lv n = some (.long g)) (k : xz v0 xs u Q mi (pc + 1) lv (.long g :: st) f) : xz v0 xs u Q mi pc lv st f := x_f (q := ((pc + 1), lv, (.long g :: st))) hc (by simp only [za, h]) k
theorem x_lload {g : Int64} {n : Nat} (hc : zcd (zt v0) mi pc = some (.lload n, a, b, c, v)) (h : zlv lv n = some (.long g)) (k : xz v0 xs u Q mi (pc + 2) lv (.long g :: st) f) : xz v0 xs u Q mi pc lv st f := x_f (q := ((pc + 2), lv, (.long g :: st))) hc (by simp only [za, h]) k
theorem x_istore_n {n : Fin 4} (hc : zcd (zt v0) mi pc = some (.istore_n n, a, b, c, v)) (h : (n : Nat) < znl (zt v0) mi) (k : xz v0 xs u Q mi (pc + 1) (xst n (xi x) lv) r f) : xz v0 xs u Q mi pc lv (xi x :: r) f := x_f (q := ((pc + 1), (xst n (xi x) lv), r)) hc (by simp only [za]; exact if_pos h) k
theorem x_istore {n : Nat} (hc : zcd (zt v0) mi pc = some (.istore n, a, b, c, v)) (h : (n : Nat) < znl (zt v0) mi) (k : xz v0 xs u Q mi (pc + 2) (xst n (xi x) lv) r f) : xz v0 xs u Q mi pc lv (xi x :: r) f := x_f (q := ((pc + 2), (xst n (xi x) lv), r)) hc (by simp only [za]; exact if_pos h) k
theorem x_astore_n {p : Nat} {n : Fin 4} (hc : zcd (zt v0) mi pc = some (.astore_n n, a, b, c, v)) (h : (n : Nat) < znl (zt v0) mi) (k : xz v0 xs u Q mi (pc + 1) (xst n (.ref p) lv) r f) : xz v0 xs u Q mi pc lv (.ref p :: r) f := x_f (q := ((pc + 1), (xst n (.ref p) lv), r)) hc (by simp only [za]; exact if_pos h) k
theorem x_astore {p : Nat} {n : Nat} (hc : zcd (zt v0) mi pc = some (.astore n, a, b, c, v)) (h : (n : Nat) < znl (zt v0) mi) (k : xz v0 xs u Q mi (pc + 2) (xst n (.ref p) lv) r f) : xz v0 xs u Q mi pc lv (.ref p :: r) f := x_f (q := ((pc + 2), (xst n (.ref p) lv), r)) hc (by simp only [za]; exact if_pos h) k
theorem x_lstore_n {g : Int64} {n : Fin 4} (hc : zcd (zt v0) mi pc = some (.lstore_n n, a, b, c, v)) (h : (n : Nat) + 1 < znl (zt v0) mi) (k : xz v0 xs u Q mi (pc + 1) (xst2 n (.long g) lv) r f) : xz v0 xs u Q mi pc lv (.long g :: r) f := x_f (q := ((pc + 1), (xst2 n (.long g) lv), r)) hc (by simp only [za]; exact if_pos h) k
theorem x_lstore {g : Int64} {n : Nat} (hc : zcd (zt v0) mi pc = some (.lstore n, a, b, c, v)) (h : (n : Nat) + 1 < znl (zt v0) mi) (k : xz v0 xs u Q mi (pc + 2) (xst2 n (.long g) lv) r f) : xz v0 xs u Q mi pc lv (.long g :: r) f := x_f (q := ((pc + 2), (xst2 n (.long g) lv), r)) hc (by simp only [za]; exact if_pos h) k
theorem x_iinc {n : Nat} (hc : zcd (zt v0) mi pc = some (.iinc n y, a, b, c, v)) (h : zlv lv n = some (xi x)) (hn : n < znl (zt v0) mi) (k : xz v0 xs u Q mi (pc + 3) (xst n (xi (x + y)) lv) st f) : xz v0 xs u Q mi pc lv st f := x_f (q := ((pc + 3), (xst n (xi (x + y)) lv), st)) hc (by simp only [za, h]; rw [if_pos hn, ← Int32.ofInt_add]; rfl) k
theorem x_ldc {p n : Nat} (hc : zcd (zt v0) mi pc = some (.ldc n, a, b, c, .ref p)) (k : xz v0 xs u Q mi (pc + 2) lv (.ref p :: st) f) : xz v0 xs u Q mi pc lv st f := x_f hc rfl k
theorem x_ldc2 {g : Int64} {n : Nat} (hc : zcd (zt v0) mi pc = some (.ldc2_w n, a, b, c, .long g)) (k : xz v0 xs u Q mi (pc + 3) lv (.long g :: st) f) : xz v0 xs u Q mi pc lv st f := x_f hc rfl k
theorem x_lconst {n : Fin 2} (hc : zcd (zt v0) mi pc = some (.lconst n, a, b, c, v))  (k : xz v0 xs u Q mi (pc + 1) lv (.long (Int64.ofNat (n : Nat)) :: st) f) : xz v0 xs u Q mi pc lv st f := x_f (q := ((pc + 1), lv, (.long (Int64.ofNat (n : Nat)) :: st))) hc rfl k
theorem x_i2l (hc : zcd (zt v0) mi pc = some (.i2l, a, b, c, v))  (k : xz v0 xs u Q mi (pc + 1) lv (.long (Int32.ofInt x).toInt64 :: r) f) : xz v0 xs u Q mi pc lv (xi x :: r) f := x_f (q := ((pc + 1), lv, (.long (Int32.ofInt x).toInt64 :: r))) hc rfl k
theorem x_l2i {g : Int64} (hc : zcd (zt v0) mi pc = some (.l2i, a, b, c, v))  (k : xz v0 xs u Q mi (pc + 1) lv (.int g.toInt32 :: r) f) : xz v0 xs u Q mi pc lv (.long g :: r) f := x_f (q := ((pc + 1), lv, (.int g.toInt32 :: r))) hc rfl k
theorem x_char {x : Int} (h1 : 0 ≤ x) (h2 : x < 65536) : ((Int32.ofInt x).toUInt32 % 65536).toInt32 = Int32.ofInt x := by
  obtain ⟨n, rfl⟩ := Int.eq_ofNat_of_zero_le h1
  have hn : n < 65536 := by omega
  have e1 : Int32.ofInt ((n : Nat) : Int) = Int32.ofNat n := rfl
  have e2 : (Int32.ofNat n).toUInt32 = UInt32.ofNat n := rfl
  have e3 : UInt32.ofNat n % 65536 = UInt32.ofNat n := by
    apply UInt32.toNat_inj.mp
    simp [UInt32.toNat_mod]
    omega
  rw [e1, e2, e3]
  rfl
theorem x_i2c (hc : zcd (zt v0) mi pc = some (.i2c, a, b, c, v)) (hx : 0 ≤ x ∧ x < 65536) (k : xz v0 xs u Q mi (pc + 1) lv (xi x :: r) f) : xz v0 xs u Q mi pc lv (xi x :: r) f := x_f (q := ((pc + 1), lv, (xi x :: r))) hc (by simp only [za, x_char hx.1 hx.2]) k
theorem x_lushr {g : Int64} (hc : zcd (zt v0) mi pc = some (.lushr, a, b, c, v))  (k : xz v0 xs u Q mi (pc + 1) lv (.long (g.toUInt64 >>> ((Int32.ofInt x).toInt64.toUInt64 &&& Int64.toUInt64 63)).toInt64 :: r) f) : xz v0 xs u Q mi pc lv (xi x :: .long g :: r) f := x_f (q := ((pc + 1), lv, (.long (g.toUInt64 >>> ((Int32.ofInt x).toInt64.toUInt64 &&& Int64.toUInt64 63)).toInt64 :: r))) hc rfl k
theorem x_lshl {g : Int64} (hc : zcd (zt v0) mi pc = some (.lshl, a, b, c, v))  (k : xz v0 xs u Q mi (pc + 1) lv (.long (g <<< ((Int32.ofInt x).toInt64 &&& 63)) :: r) f) : xz v0 xs u Q mi pc lv (xi x :: .long g :: r) f := x_f (q := ((pc + 1), lv, (.long (g <<< ((Int32.ofInt x).toInt64 &&& 63)) :: r))) hc rfl k
theorem x_lcmp {g h : Int64} (hc : zcd (zt v0) mi pc = some (.lcmp, a, b, c, v))  (k : xz v0 xs u Q mi (pc + 1) lv (.int (lg_cmp g h) :: r) f) : xz v0 xs u Q mi pc lv (.long h :: .long g :: r) f := x_f (q := ((pc + 1), lv, (.int (lg_cmp g h) :: r))) hc rfl k
theorem x_dup {p : Nat} (hc : zcd (zt v0) mi pc = some (.dup, a, b, c, v))  (k : xz v0 xs u Q mi (pc + 1) lv (.ref p :: .ref p :: r) f) : xz v0 xs u Q mi pc lv (.ref p :: r) f := x_f (q := ((pc + 1), lv, (.ref p :: .ref p :: r))) hc rfl k
theorem x_dupi (hc : zcd (zt v0) mi pc = some (.dup, a, b, c, v))  (k : xz v0 xs u Q mi (pc + 1) lv (xi x :: xi x :: r) f) : xz v0 xs u Q mi pc lv (xi x :: r) f := x_f (q := ((pc + 1), lv, (xi x :: xi x :: r))) hc rfl k
theorem x_dup2 {p : Nat} (hc : zcd (zt v0) mi pc = some (.dup2, a, b, c, v))  (k : xz v0 xs u Q mi (pc + 1) lv (xi x :: .ref p :: xi x :: .ref p :: r) f) : xz v0 xs u Q mi pc lv (xi x :: .ref p :: r) f := x_f (q := ((pc + 1), lv, (xi x :: .ref p :: xi x :: .ref p :: r))) hc rfl k
theorem x_pop (hc : zcd (zt v0) mi pc = some (.pop, a, b, c, v))  (k : xz v0 xs u Q mi (pc + 1) lv r f) : xz v0 xs u Q mi pc lv (xi x :: r) f := x_f (q := ((pc + 1), lv, r)) hc rfl k
theorem x_popr {p : Nat} (hc : zcd (zt v0) mi pc = some (.pop, a, b, c, v))  (k : xz v0 xs u Q mi (pc + 1) lv r f) : xz v0 xs u Q mi pc lv (.ref p :: r) f := x_f (q := ((pc + 1), lv, r)) hc rfl k
theorem x_goto {t : Nat} (hc : zcd (zt v0) mi pc = some (.goto x, a, b, c, v)) (ht : ztgt pc x = some t) (k : xz v0 xs u Q mi t lv st f) : xz v0 xs u Q mi pc lv st f := x_f (q := (t, lv, st)) hc (by simp only [za, ht]) k
theorem x_iadd (hc : zcd (zt v0) mi pc = some (.iadd, a, b, c, v))  (k : xz v0 xs u Q mi (pc + 1) lv (xi (x + y) :: r) f) : xz v0 xs u Q mi pc lv (xi y :: xi x :: r) f := x_f (q := ((pc + 1), lv, (xi (x + y) :: r))) hc (by simp only [za, zo2, ← Int32.ofInt_add]) k
theorem x_isub (hc : zcd (zt v0) mi pc = some (.isub, a, b, c, v))  (k : xz v0 xs u Q mi (pc + 1) lv (xi (x - y) :: r) f) : xz v0 xs u Q mi pc lv (xi y :: xi x :: r) f := x_f (q := ((pc + 1), lv, (xi (x - y) :: r))) hc (by simp only [za, zo2, ← Int32.ofInt_sub]) k
theorem x_imul (hc : zcd (zt v0) mi pc = some (.imul, a, b, c, v))  (k : xz v0 xs u Q mi (pc + 1) lv (xi (x * y) :: r) f) : xz v0 xs u Q mi pc lv (xi y :: xi x :: r) f := x_f (q := ((pc + 1), lv, (xi (x * y) :: r))) hc (by simp only [za, zo2, ← Int32.ofInt_mul]) k
theorem x_iand (hc : zcd (zt v0) mi pc = some (.iand, a, b, c, v))  (k : xz v0 xs u Q mi (pc + 1) lv (.int (Int32.ofInt x &&& Int32.ofInt y) :: r) f) : xz v0 xs u Q mi pc lv (xi y :: xi x :: r) f := x_f (q := ((pc + 1), lv, (.int (Int32.ofInt x &&& Int32.ofInt y) :: r))) hc rfl k
theorem x_ior (hc : zcd (zt v0) mi pc = some (.ior, a, b, c, v))  (k : xz v0 xs u Q mi (pc + 1) lv (.int (Int32.ofInt x ||| Int32.ofInt y) :: r) f) : xz v0 xs u Q mi pc lv (xi y :: xi x :: r) f := x_f (q := ((pc + 1), lv, (.int (Int32.ofInt x ||| Int32.ofInt y) :: r))) hc rfl k
theorem x_ixor (hc : zcd (zt v0) mi pc = some (.ixor, a, b, c, v))  (k : xz v0 xs u Q mi (pc + 1) lv (.int (Int32.ofInt x ^^^ Int32.ofInt y) :: r) f) : xz v0 xs u Q mi pc lv (xi y :: xi x :: r) f := x_f (q := ((pc + 1), lv, (.int (Int32.ofInt x ^^^ Int32.ofInt y) :: r))) hc rfl k
theorem x_iandg {h : Int32} (hc : zcd (zt v0) mi pc = some (.iand, a, b, c, v))  (k : xz v0 xs u Q mi (pc + 1) lv (.int (h &&& Int32.ofInt y) :: r) f) : xz v0 xs u Q mi pc lv (xi y :: .int h :: r) f := x_f (q := ((pc + 1), lv, (.int (h &&& Int32.ofInt y) :: r))) hc rfl k
theorem xi_of (h : Int32) : (Value.int h) = xi h.toInt := by rw [xi, Int32.ofInt_toInt]
theorem x_l2iz {g : Int64} (hc : zcd (zt v0) mi pc = some (.l2i, a, b, c, v))  (k : xz v0 xs u Q mi (pc + 1) lv (xi g.toInt32.toInt :: r) f) : xz v0 xs u Q mi pc lv (.long g :: r) f := by
  refine x_l2i hc ?_
  rw [xi_of]
  exact k
theorem x_iandz (hc : zcd (zt v0) mi pc = some (.iand, a, b, c, v))  (k : xz v0 xs u Q mi (pc + 1) lv (xi (Int32.ofInt x &&& Int32.ofInt y).toInt :: r) f) : xz v0 xs u Q mi pc lv (xi y :: xi x :: r) f := by
  refine x_iand hc ?_
  rw [xi_of]
  exact k
theorem x_iorz (hc : zcd (zt v0) mi pc = some (.ior, a, b, c, v))  (k : xz v0 xs u Q mi (pc + 1) lv (xi (Int32.ofInt x ||| Int32.ofInt y).toInt :: r) f) : xz v0 xs u Q mi pc lv (xi y :: xi x :: r) f := by
  refine x_ior hc ?_
  rw [xi_of]
  exact k
theorem x_ixorz (hc : zcd (zt v0) mi pc = some (.ixor, a, b, c, v))  (k : xz v0 xs u Q mi (pc + 1) lv (xi (Int32.ofInt x ^^^ Int32.ofInt y).toInt :: r) f) : xz v0 xs u Q mi pc lv (xi y :: xi x :: r) f := by
  refine x_ixor hc ?_
  rw [xi_of]
  exact k
theorem x_ladd {g h : Int64} (hc : zcd (zt v0) mi pc = some (.ladd, a, b, c, v))  (k : xz v0 xs u Q mi (pc + 1) lv (.long (g + h) :: r) f) : xz v0 xs u Q mi pc lv (.long h :: .long g :: r) f := x_f (q := ((pc + 1), lv, (.long (g + h) :: r))) hc rfl k
theorem x_lmul {g h : Int64} (hc : zcd (zt v0) mi pc = some (.lmul, a, b, c, v))  (k : xz v0 xs u Q mi (pc + 1) lv (.long (g * h) :: r) f) : xz v0 xs u Q mi pc lv (.long h :: .long g :: r) f := x_f (q := ((pc + 1), lv, (.long (g * h) :: r))) hc rfl k
theorem x_land {g h : Int64} (hc : zcd (zt v0) mi pc = some (.land, a, b, c, v))  (k : xz v0 xs u Q mi (pc + 1) lv (.long (g &&& h) :: r) f) : xz v0 xs u Q mi pc lv (.long h :: .long g :: r) f := x_f (q := ((pc + 1), lv, (.long (g &&& h) :: r))) hc rfl k
theorem x_lor {g h : Int64} (hc : zcd (zt v0) mi pc = some (.lor, a, b, c, v))  (k : xz v0 xs u Q mi (pc + 1) lv (.long (g ||| h) :: r) f) : xz v0 xs u Q mi pc lv (.long h :: .long g :: r) f := x_f (q := ((pc + 1), lv, (.long (g ||| h) :: r))) hc rfl k
theorem x_ifeq {t : Nat} {e : Int} (hc : zcd (zt v0) mi pc = some (.ifCond .eq e, a, b, c, v)) (ht : ztgt pc e = some t) (hx : -2147483648 ≤ x ∧ x ≤ 2147483647) (k1 : x = 0 → xz v0 xs u Q mi t lv r f) (k2 : x ≠ 0 → xz v0 xs u Q mi (pc + 3) lv r f) : xz v0 xs u Q mi pc lv (xi x :: r) f := by
  by_cases hk : x = 0
  · exact x_f (q := (t, lv, r)) hc (by simp only [za, ht, zc1, x0, xi_eq hx xr0]; rw [if_pos (by simpa using hk)]) (k1 hk)
  · exact x_f (q := (pc + 3, lv, r)) hc (by simp only [za, ht, zc1, x0, xi_eq hx xr0]; rw [if_neg (by simpa using hk)]) (k2 (by omega))
theorem x_ifne {t : Nat} {e : Int} (hc : zcd (zt v0) mi pc = some (.ifCond .ne e, a, b, c, v)) (ht : ztgt pc e = some t) (hx : -2147483648 ≤ x ∧ x ≤ 2147483647) (k1 : x ≠ 0 → xz v0 xs u Q mi t lv r f) (k2 : x = 0 → xz v0 xs u Q mi (pc + 3) lv r f) : xz v0 xs u Q mi pc lv (xi x :: r) f := by
  by_cases hk : x ≠ 0
  · exact x_f (q := (t, lv, r)) hc (by simp only [za, ht, zc1, x0, xi_eq hx xr0]; rw [if_pos (by simpa using hk)]) (k1 hk)
  · exact x_f (q := (pc + 3, lv, r)) hc (by simp only [za, ht, zc1, x0, xi_eq hx xr0]; rw [if_neg (by simpa using hk)]) (k2 (by omega))
theorem x_iflt {t : Nat} {e : Int} (hc : zcd (zt v0) mi pc = some (.ifCond .lt e, a, b, c, v)) (ht : ztgt pc e = some t) (hx : -2147483648 ≤ x ∧ x ≤ 2147483647) (k1 : x < 0 → xz v0 xs u Q mi t lv r f) (k2 : 0 ≤ x → xz v0 xs u Q mi (pc + 3) lv r f) : xz v0 xs u Q mi pc lv (xi x :: r) f := by
  by_cases hk : x < 0
  · exact x_f (q := (t, lv, r)) hc (by simp only [za, ht, zc1, x0, xi_lt hx xr0]; rw [if_pos (by simpa using hk)]) (k1 hk)
  · exact x_f (q := (pc + 3, lv, r)) hc (by simp only [za, ht, zc1, x0, xi_lt hx xr0]; rw [if_neg (by simpa using hk)]) (k2 (by omega))
theorem x_ifge {t : Nat} {e : Int} (hc : zcd (zt v0) mi pc = some (.ifCond .ge e, a, b, c, v)) (ht : ztgt pc e = some t) (hx : -2147483648 ≤ x ∧ x ≤ 2147483647) (k1 : 0 ≤ x → xz v0 xs u Q mi t lv r f) (k2 : x < 0 → xz v0 xs u Q mi (pc + 3) lv r f) : xz v0 xs u Q mi pc lv (xi x :: r) f := by
  by_cases hk : 0 ≤ x
  · exact x_f (q := (t, lv, r)) hc (by simp only [za, ht, zc1, x0, xi_le xr0 hx]; rw [if_pos (by simpa using hk)]) (k1 hk)
  · exact x_f (q := (pc + 3, lv, r)) hc (by simp only [za, ht, zc1, x0, xi_le xr0 hx]; rw [if_neg (by simpa using hk)]) (k2 (by omega))
theorem x_ifgt {t : Nat} {e : Int} (hc : zcd (zt v0) mi pc = some (.ifCond .gt e, a, b, c, v)) (ht : ztgt pc e = some t) (hx : -2147483648 ≤ x ∧ x ≤ 2147483647) (k1 : 0 < x → xz v0 xs u Q mi t lv r f) (k2 : x ≤ 0 → xz v0 xs u Q mi (pc + 3) lv r f) : xz v0 xs u Q mi pc lv (xi x :: r) f := by
  by_cases hk : 0 < x
  · exact x_f (q := (t, lv, r)) hc (by simp only [za, ht, zc1, x0, xi_lt xr0 hx]; rw [if_pos (by simpa using hk)]) (k1 hk)
  · exact x_f (q := (pc + 3, lv, r)) hc (by simp only [za, ht, zc1, x0, xi_lt xr0 hx]; rw [if_neg (by simpa using hk)]) (k2 (by omega))
theorem x_ifle {t : Nat} {e : Int} (hc : zcd (zt v0) mi pc = some (.ifCond .le e, a, b, c, v)) (ht : ztgt pc e = some t) (hx : -2147483648 ≤ x ∧ x ≤ 2147483647) (k1 : x ≤ 0 → xz v0 xs u Q mi t lv r f) (k2 : 0 < x → xz v0 xs u Q mi (pc + 3) lv r f) : xz v0 xs u Q mi pc lv (xi x :: r) f := by
  by_cases hk : x ≤ 0
  · exact x_f (q := (t, lv, r)) hc (by simp only [za, ht, zc1, x0, xi_le hx xr0]; rw [if_pos (by simpa using hk)]) (k1 hk)
  · exact x_f (q := (pc + 3, lv, r)) hc (by simp only [za, ht, zc1, x0, xi_le hx xr0]; rw [if_neg (by simpa using hk)]) (k2 (by omega))
theorem x_ceq {t : Nat} {e : Int} (hc : zcd (zt v0) mi pc = some (.if_icmp .eq e, a, b, c, v)) (ht : ztgt pc e = some t) (hx : -2147483648 ≤ x ∧ x ≤ 2147483647) (hy : -2147483648 ≤ y ∧ y ≤ 2147483647) (k1 : x = y → xz v0 xs u Q mi t lv r f) (k2 : x ≠ y → xz v0 xs u Q mi (pc + 3) lv r f) : xz v0 xs u Q mi pc lv (xi y :: xi x :: r) f := by
  by_cases hk : x = y
  · exact x_f (q := (t, lv, r)) hc (by simp only [za, ht, zc2, xi_eq hx hy]; rw [if_pos (by simpa using hk)]) (k1 hk)
  · exact x_f (q := (pc + 3, lv, r)) hc (by simp only [za, ht, zc2, xi_eq hx hy]; rw [if_neg (by simpa using hk)]) (k2 (by omega))
theorem x_cne {t : Nat} {e : Int} (hc : zcd (zt v0) mi pc = some (.if_icmp .ne e, a, b, c, v)) (ht : ztgt pc e = some t) (hx : -2147483648 ≤ x ∧ x ≤ 2147483647) (hy : -2147483648 ≤ y ∧ y ≤ 2147483647) (k1 : x ≠ y → xz v0 xs u Q mi t lv r f) (k2 : x = y → xz v0 xs u Q mi (pc + 3) lv r f) : xz v0 xs u Q mi pc lv (xi y :: xi x :: r) f := by
  by_cases hk : x ≠ y
  · exact x_f (q := (t, lv, r)) hc (by simp only [za, ht, zc2, xi_eq hx hy]; rw [if_pos (by simpa using hk)]) (k1 hk)
  · exact x_f (q := (pc + 3, lv, r)) hc (by simp only [za, ht, zc2, xi_eq hx hy]; rw [if_neg (by simpa using hk)]) (k2 (by omega))
theorem x_clt {t : Nat} {e : Int} (hc : zcd (zt v0) mi pc = some (.if_icmp .lt e, a, b, c, v)) (ht : ztgt pc e = some t) (hx : -2147483648 ≤ x ∧ x ≤ 2147483647) (hy : -2147483648 ≤ y ∧ y ≤ 2147483647) (k1 : x < y → xz v0 xs u Q mi t lv r f) (k2 : y ≤ x → xz v0 xs u Q mi (pc + 3) lv r f) : xz v0 xs u Q mi pc lv (xi y :: xi x :: r) f := by
  by_cases hk : x < y
  · exact x_f (q := (t, lv, r)) hc (by simp only [za, ht, zc2, xi_lt hx hy]; rw [if_pos (by simpa using hk)]) (k1 hk)
  · exact x_f (q := (pc + 3, lv, r)) hc (by simp only [za, ht, zc2, xi_lt hx hy]; rw [if_neg (by simpa using hk)]) (k2 (by omega))
theorem x_cge {t : Nat} {e : Int} (hc : zcd (zt v0) mi pc = some (.if_icmp .ge e, a, b, c, v)) (ht : ztgt pc e = some t) (hx : -2147483648 ≤ x ∧ x ≤ 2147483647) (hy : -2147483648 ≤ y ∧ y ≤ 2147483647) (k1 : y ≤ x → xz v0 xs u Q mi t lv r f) (k2 : x < y → xz v0 xs u Q mi (pc + 3) lv r f) : xz v0 xs u Q mi pc lv (xi y :: xi x :: r) f := by
  by_cases hk : y ≤ x
  · exact x_f (q := (t, lv, r)) hc (by simp only [za, ht, zc2, xi_le hy hx]; rw [if_pos (by simpa using hk)]) (k1 hk)
  · exact x_f (q := (pc + 3, lv, r)) hc (by simp only [za, ht, zc2, xi_le hy hx]; rw [if_neg (by simpa using hk)]) (k2 (by omega))
theorem x_cgt {t : Nat} {e : Int} (hc : zcd (zt v0) mi pc = some (.if_icmp .gt e, a, b, c, v)) (ht : ztgt pc e = some t) (hx : -2147483648 ≤ x ∧ x ≤ 2147483647) (hy : -2147483648 ≤ y ∧ y ≤ 2147483647) (k1 : y < x → xz v0 xs u Q mi t lv r f) (k2 : x ≤ y → xz v0 xs u Q mi (pc + 3) lv r f) : xz v0 xs u Q mi pc lv (xi y :: xi x :: r) f := by
  by_cases hk : y < x
  · exact x_f (q := (t, lv, r)) hc (by simp only [za, ht, zc2, xi_lt hy hx]; rw [if_pos (by simpa using hk)]) (k1 hk)
  · exact x_f (q := (pc + 3, lv, r)) hc (by simp only [za, ht, zc2, xi_lt hy hx]; rw [if_neg (by simpa using hk)]) (k2 (by omega))
theorem x_cle {t : Nat} {e : Int} (hc : zcd (zt v0) mi pc = some (.if_icmp .le e, a, b, c, v)) (ht : ztgt pc e = some t) (hx : -2147483648 ≤ x ∧ x ≤ 2147483647) (hy : -2147483648 ≤ y ∧ y ≤ 2147483647) (k1 : x ≤ y → xz v0 xs u Q mi t lv r f) (k2 : y < x → xz v0 xs u Q mi (pc + 3) lv r f) : xz v0 xs u Q mi pc lv (xi y :: xi x :: r) f := by
  by_cases hk : x ≤ y
  · exact x_f (q := (t, lv, r)) hc (by simp only [za, ht, zc2, xi_le hx hy]; rw [if_pos (by simpa using hk)]) (k1 hk)
  · exact x_f (q := (pc + 3, lv, r)) hc (by simp only [za, ht, zc2, xi_le hx hy]; rw [if_neg (by simpa using hk)]) (k2 (by omega))
theorem lg_eq {g h : Int64} : lg_cmp g h = 0 ↔ g = h := by
  unfold lg_cmp
  constructor
  · intro e
    split at e
    · exact absurd e (by decide)
    · split at e
      · assumption
      · exact absurd e (by decide)
  · intro e
    subst e
    rw [if_neg (by simp [GT.gt, Int64.lt_irrefl]), if_pos rfl]
theorem lg_lt {g h : Int64} : lg_cmp g h < 0 ↔ g < h := by
  unfold lg_cmp
  constructor
  · intro e
    split at e
    · exact absurd e (by decide)
    · split at e
      · exact absurd e (by decide)
      · rename_i h1 h2
        have h1' : ¬ h < g := h1
        rw [Int64.lt_iff_toInt_lt] at h1' ⊢
        have : g.toInt ≠ h.toInt := fun e => h2 (Int64.toInt_inj.mp e)
        omega
  · intro e
    have h1 : ¬ g > h := by
      show ¬ h < g
      rw [Int64.lt_iff_toInt_lt] at e ⊢
      omega
    have h2 : ¬ g = h := by
      intro h2
      subst h2
      exact absurd e (by rw [Int64.lt_iff_toInt_lt]; omega)
    rw [if_neg h1, if_neg h2]
    decide
theorem x_leq {g h : Int64} {t : Nat} {e : Int} (hc : zcd (zt v0) mi pc = some (.ifCond .eq e, a, b, c, v)) (ht : ztgt pc e = some t) (k1 : g = h → xz v0 xs u Q mi t lv r f) (k2 : ¬ g = h → xz v0 xs u Q mi (pc + 3) lv r f) : xz v0 xs u Q mi pc lv (.int (lg_cmp g h) :: r) f := by
  by_cases hk : g = h
  · exact x_f (q := (t, lv, r)) hc (by simp only [za, ht, zc1, lg_eq]; rw [if_pos (by simpa using hk)]) (k1 hk)
  · exact x_f (q := (pc + 3, lv, r)) hc (by simp only [za, ht, zc1, lg_eq]; rw [if_neg (by simpa using hk)]) (k2 hk)
theorem x_lne {g h : Int64} {t : Nat} {e : Int} (hc : zcd (zt v0) mi pc = some (.ifCond .ne e, a, b, c, v)) (ht : ztgt pc e = some t) (k1 : ¬ g = h → xz v0 xs u Q mi t lv r f) (k2 : g = h → xz v0 xs u Q mi (pc + 3) lv r f) : xz v0 xs u Q mi pc lv (.int (lg_cmp g h) :: r) f := by
  by_cases hk : ¬ g = h
  · exact x_f (q := (t, lv, r)) hc (by simp only [za, ht, zc1, lg_eq]; rw [if_pos (by simpa using hk)]) (k1 hk)
  · exact x_f (q := (pc + 3, lv, r)) hc (by simp only [za, ht, zc1, lg_eq]; rw [if_neg (by simpa using hk)]) (k2 (Decidable.not_not.mp hk))
theorem x_llt {g h : Int64} {t : Nat} {e : Int} (hc : zcd (zt v0) mi pc = some (.ifCond .lt e, a, b, c, v)) (ht : ztgt pc e = some t) (k1 : g < h → xz v0 xs u Q mi t lv r f) (k2 : ¬ g < h → xz v0 xs u Q mi (pc + 3) lv r f) : xz v0 xs u Q mi pc lv (.int (lg_cmp g h) :: r) f := by
  by_cases hk : g < h
  · exact x_f (q := (t, lv, r)) hc (by simp only [za, ht, zc1, lg_lt]; rw [if_pos (by simpa using hk)]) (k1 hk)
  · exact x_f (q := (pc + 3, lv, r)) hc (by simp only [za, ht, zc1, lg_lt]; rw [if_neg (by simpa using hk)]) (k2 hk)
theorem x_lge {g h : Int64} {t : Nat} {e : Int} (hc : zcd (zt v0) mi pc = some (.ifCond .ge e, a, b, c, v)) (ht : ztgt pc e = some t) (k1 : ¬ g < h → xz v0 xs u Q mi t lv r f) (k2 : g < h → xz v0 xs u Q mi (pc + 3) lv r f) : xz v0 xs u Q mi pc lv (.int (lg_cmp g h) :: r) f := by
  by_cases hk : ¬ g < h
  · exact x_f (q := (t, lv, r)) hc (by simp only [za, ht, zc1, ← Int32.not_lt, lg_lt]; rw [if_pos (by simpa using hk)]) (k1 hk)
  · exact x_f (q := (pc + 3, lv, r)) hc (by simp only [za, ht, zc1, ← Int32.not_lt, lg_lt]; rw [if_neg (by simpa using hk)]) (k2 (Decidable.not_not.mp hk))
theorem x_sw {t : Nat} {d lo hi e : Int} {os : Array Int} (hc : zcd (zt v0) mi pc = some (.tableswitch d lo hi os, a, b, c, v)) (hx : -2147483648 ≤ x ∧ x ≤ 2147483647) (ho : (if x < lo ∨ hi < x then some d else os[(x - lo).toNat]?) = some e) (ht : ztgt pc e = some t) (k : xz v0 xs u Q mi t lv r f) : xz v0 xs u Q mi pc lv (xi x :: r) f := by
  refine x_f (q := (t, lv, r)) hc ?_ k
  simp only [za, xi_toInt hx.1 hx.2, ho, ht]
theorem x_getfield {n p : Nat} {fs : List Value} (hc : zcd (zt v0) mi pc = some (.getfield n, a, b, c, v)) (hp : 50 ≤ p ∧ p < 204) (h : f p = .inl (a, fs)) (hw : fs[b]? = some w) (k : xz v0 xs u Q mi (pc + 3) lv (w :: r) f) : xz v0 xs u Q mi pc lv (.ref p :: r) f := by
  refine x_b (q := (3, w :: r)) hc ?_ k
  simp only [zb, x_rd hp.1 hp.2, h, if_true, hw]
theorem x_putfield {n p : Nat} {fs : List Value} (hc : zcd (zt v0) mi pc = some (.putfield n, a, b, c, v)) (hp : 50 ≤ p ∧ p < 204) (h : f p = .inl (a, fs)) (hb : b < fs.length) (hw : zfit c w = true) (k : xz v0 xs u Q mi (pc + 3) lv r (xu f p (.inl (a, fs.set b w)))) : xz v0 xs u Q mi pc lv (w :: .ref p :: r) f := by
  refine x_c (q := (3, r, zput (xh f, u) p (.inl (a, fs.set b w)))) hc ?_ ?_ k
  · simp only [zc]
    rw [if_neg (Nat.not_lt.mpr hp.1)]
    simp only [xh_at hp.1 hp.2, h]
    rw [if_pos ⟨trivial, hb, hw⟩]
  · show ((xh f).set (p - 50) _, u) = _
    rw [xh_set hp.1]
theorem x_getD {l : List Int} {z : Int} (h1 : 0 ≤ z) (h2 : z ≤ 2147483647) : (l.map Int32.ofInt).getD (Int32.ofInt z).toNatClampNeg 0 = Int32.ofInt (l.getD z.toNat 0) := by
  rw [(xi_clamp h1 h2).2, List.getD_eq_getElem?_getD, List.getD_eq_getElem?_getD, List.getElem?_map]
  cases l[z.toNat]? <;> rfl
theorem x_iaload {p : Nat} {l : List Int} (hc : zcd (zt v0) mi pc = some (.iaload, a, b, c, v)) (hp : 50 ≤ p ∧ p < 204) (h : f p = xr 0 l) (hz : 0 ≤ z ∧ z < l.length) (hl : l.length ≤ 5000) (k : xz v0 xs u Q mi (pc + 1) lv (xi (l.getD z.toNat 0) :: r) f) : xz v0 xs u Q mi pc lv (xi z :: .ref p :: r) f := by
  refine x_b (q := (1, xi (l.getD z.toNat 0) :: r)) hc ?_ k
  simp only [zb, x_rd hp.1 hp.2, h]
  rw [if_pos (xin hz.1 (by rw [List.length_map]; exact hz.2) (by rw [List.length_map]; omega)), x_getD hz.1 (by omega)]
theorem x_caload {p : Nat} {l : List Int} (hc : zcd (zt v0) mi pc = some (.caload, a, b, c, v)) (hp : 50 ≤ p ∧ p < 204) (h : f p = xr 1 l) (hz : 0 ≤ z ∧ z < l.length) (hl : l.length ≤ 5000) (k : xz v0 xs u Q mi (pc + 1) lv (xi (l.getD z.toNat 0) :: r) f) : xz v0 xs u Q mi pc lv (xi z :: .ref p :: r) f := by
  refine x_b (q := (1, xi (l.getD z.toNat 0) :: r)) hc ?_ k
  simp only [zb, x_rd hp.1 hp.2, h]
  rw [if_pos (xin hz.1 (by rw [List.length_map]; exact hz.2) (by rw [List.length_map]; omega)), x_getD hz.1 (by omega)]
theorem x_baload {p : Nat} {l : List Int} (hc : zcd (zt v0) mi pc = some (.baload, a, b, c, v)) (hp : 50 ≤ p ∧ p < 204) (h : f p = xr 2 l) (hz : 0 ≤ z ∧ z < l.length) (hl : l.length ≤ 5000) (k : xz v0 xs u Q mi (pc + 1) lv (xi (l.getD z.toNat 0) :: r) f) : xz v0 xs u Q mi pc lv (xi z :: .ref p :: r) f := by
  refine x_b (q := (1, xi (l.getD z.toNat 0) :: r)) hc ?_ k
  simp only [zb, x_rd hp.1 hp.2, h]
  rw [if_pos (xin hz.1 (by rw [List.length_map]; exact hz.2) (by rw [List.length_map]; omega)), x_getD hz.1 (by omega)]
theorem x_set {l : List Int} {z x : Int} (h1 : 0 ≤ z) (h2 : z ≤ 2147483647) : (l.map Int32.ofInt).set (Int32.ofInt z).toNatClampNeg (Int32.ofInt x) = (l.set z.toNat x).map Int32.ofInt := by
  rw [(xi_clamp h1 h2).2, List.map_set]
theorem x_iastore {p : Nat} {l : List Int} (hc : zcd (zt v0) mi pc = some (.iastore, a, b, c, v)) (hp : 50 ≤ p ∧ p < 204) (h : f p = xr 0 l) (hz : 0 ≤ z ∧ z < l.length) (hl : l.length ≤ 5000) (k : xz v0 xs u Q mi (pc + 1) lv r (xu f p (xr 0 (l.set z.toNat x)))) : xz v0 xs u Q mi pc lv (xi x :: xi z :: .ref p :: r) f := by
  refine x_c (q := (1, r, zput (xh f, u) p (xr 0 (l.set z.toNat x)))) hc ?_ ?_ k
  · simp only [zc]
    rw [if_neg (Nat.not_lt.mpr hp.1)]
    simp only [xh_at hp.1 hp.2, h]
    rw [if_pos (xin hz.1 (by rw [List.length_map]; exact hz.2) (by rw [List.length_map]; omega)), x_set hz.1 (by omega)]
  · show ((xh f).set (p - 50) _, u) = _
    rw [xh_set hp.1]
theorem x_castore {p : Nat} {l : List Int} (hc : zcd (zt v0) mi pc = some (.castore, a, b, c, v)) (hp : 50 ≤ p ∧ p < 204) (h : f p = xr 1 l) (hz : 0 ≤ z ∧ z < l.length) (hl : l.length ≤ 5000) (hv : vp_nar .char (Int32.ofInt x) = Int32.ofInt x) (k : xz v0 xs u Q mi (pc + 1) lv r (xu f p (xr 1 (l.set z.toNat x)))) : xz v0 xs u Q mi pc lv (xi x :: xi z :: .ref p :: r) f := by
  refine x_c (q := (1, r, zput (xh f, u) p (xr 1 (l.set z.toNat x)))) hc ?_ ?_ k
  · simp only [zc]
    rw [if_neg (Nat.not_lt.mpr hp.1)]
    simp only [xh_at hp.1 hp.2, h, hv]
    rw [if_pos (xin hz.1 (by rw [List.length_map]; exact hz.2) (by rw [List.length_map]; omega)), x_set hz.1 (by omega)]
  · show ((xh f).set (p - 50) _, u) = _
    rw [xh_set hp.1]
theorem x_bastore {p : Nat} {l : List Int} (hc : zcd (zt v0) mi pc = some (.bastore, a, b, c, v)) (hp : 50 ≤ p ∧ p < 204) (h : f p = xr 2 l) (hz : 0 ≤ z ∧ z < l.length) (hl : l.length ≤ 5000) (hv : vp_nar .boolean (Int32.ofInt x) = Int32.ofInt x) (k : xz v0 xs u Q mi (pc + 1) lv r (xu f p (xr 2 (l.set z.toNat x)))) : xz v0 xs u Q mi pc lv (xi x :: xi z :: .ref p :: r) f := by
  refine x_c (q := (1, r, zput (xh f, u) p (xr 2 (l.set z.toNat x)))) hc ?_ ?_ k
  · simp only [zc]
    rw [if_neg (Nat.not_lt.mpr hp.1)]
    simp only [xh_at hp.1 hp.2, h, hv]
    rw [if_pos (xin hz.1 (by rw [List.length_map]; exact hz.2) (by rw [List.length_map]; omega)), x_set hz.1 (by omega)]
  · show ((xh f).set (p - 50) _, u) = _
    rw [xh_set hp.1]
theorem x_laload {p : Nat} {l : List Int64} (hc : zcd (zt v0) mi pc = some (.laload, a, b, c, v)) (hp : 50 ≤ p ∧ p < 204) (h : f p = .inr (.inr (.inl l))) (hz : 0 ≤ z ∧ z < l.length) (hl : l.length ≤ 5000) (k : xz v0 xs u Q mi (pc + 1) lv (.long (l.getD z.toNat 0) :: r) f) : xz v0 xs u Q mi pc lv (xi z :: .ref p :: r) f := by
  refine x_b (q := (1, .long (l.getD z.toNat 0) :: r)) hc ?_ k
  simp only [zb, x_rd hp.1 hp.2, h]
  rw [if_pos (xin hz.1 hz.2 (by omega)), (xi_clamp hz.1 (by omega)).2]
theorem x_lastore {p : Nat} {g : Int64} {l : List Int64} (hc : zcd (zt v0) mi pc = some (.lastore, a, b, c, v)) (hp : 50 ≤ p ∧ p < 204) (h : f p = .inr (.inr (.inl l))) (hz : 0 ≤ z ∧ z < l.length) (hl : l.length ≤ 5000) (k : xz v0 xs u Q mi (pc + 1) lv r (xu f p (.inr (.inr (.inl (l.set z.toNat g)))))) : xz v0 xs u Q mi pc lv (.long g :: xi z :: .ref p :: r) f := by
  refine x_c (q := (1, r, zput (xh f, u) p (.inr (.inr (.inl (l.set z.toNat g)))))) hc ?_ ?_ k
  · simp only [zc]
    rw [if_neg (Nat.not_lt.mpr hp.1)]
    simp only [xh_at hp.1 hp.2, h]
    rw [if_pos (xin hz.1 hz.2 (by omega)), (xi_clamp hz.1 (by omega)).2]
  · show ((xh f).set (p - 50) _, u) = _
    rw [xh_set hp.1]
theorem x_aaload {p o : Nat} {l : List (Option Nat)} (hc : zcd (zt v0) mi pc = some (.aaload, a, b, c, v)) (hp : 50 ≤ p ∧ p < 204) (h : f p = .inr (.inr (.inr (a, l)))) (hz : 0 ≤ z ∧ z < l.length) (hl : l.length ≤ 5000) (ho : l.getD z.toNat none = some o) (k : xz v0 xs u Q mi (pc + 1) lv (.ref o :: r) f) : xz v0 xs u Q mi pc lv (xi z :: .ref p :: r) f := by
  refine x_b (q := (1, .ref o :: r)) hc ?_ k
  simp only [zb, x_rd hp.1 hp.2, h]
  rw [if_pos ⟨trivial, xin hz.1 hz.2 (by omega)⟩, (xi_clamp hz.1 (by omega)).2, ho]
theorem x_len {p : Nat} {l : List Int} (hc : zcd (zt v0) mi pc = some (.arraylength, a, b, c, v)) (hp : 50 ≤ p ∧ p < 204) (h : f p = xr 0 l) (k : xz v0 xs u Q mi (pc + 1) lv (xi l.length :: r) f) : xz v0 xs u Q mi pc lv (.ref p :: r) f := by
  refine x_b (q := (1, xi l.length :: r)) hc ?_ k
  simp only [zb, x_rd hp.1 hp.2, h]
  rw [if_pos (Or.inr trivial), List.length_map]
  rfl
theorem x_ireturn (hc : zcd (zt v0) mi pc = some (.ireturn, a, b, c, v)) (ha : a = 0 ∨ (a = 1 ∧ (Int32.ofInt z = 0 ∨ Int32.ofInt z = 1)) ∨ (a = 2 ∧ ((Int32.ofInt z).toUInt32 % 65536).toInt32 = Int32.ofInt z) ∨ (a = 3 ∧ (Int32.ofInt z).toInt8.toInt32 = Int32.ofInt z)) (k : Q (.inl (some (xi z))) (xh f, u)) : xz v0 xs u Q mi pc lv [xi z] f := by
  refine zwp_ret ⟨hc, rfl, rfl, rfl⟩ (r := some (xi z)) ?_ k
  simp only [zret]
  rw [if_pos ha]
theorem x_lreturn {g : Int64} (hc : zcd (zt v0) mi pc = some (.lreturn, a, b, c, v)) (k : Q (.inl (some (.long g))) (xh f, u)) : xz v0 xs u Q mi pc lv [.long g] f := zwp_ret ⟨hc, rfl, rfl, rfl⟩ (r := some (.long g)) rfl k
theorem x_areturn {p : Nat} (hc : zcd (zt v0) mi pc = some (.areturn, a, b, c, v)) (k : Q (.inl (some (.ref p))) (xh f, u)) : xz v0 xs u Q mi pc lv [.ref p] f := zwp_ret ⟨hc, rfl, rfl, rfl⟩ (r := some (.ref p)) rfl k
theorem x_return (hc : zcd (zt v0) mi pc = some (.return_, a, b, c, v)) (k : Q (.inl none) (xh f, u)) : xz v0 xs u Q mi pc lv [] f := zwp_ret ⟨hc, rfl, rfl, rfl⟩ (r := none) rfl k
theorem x_rcv {ci p : Nat} {fs as : List Value} (hp : 50 ≤ p ∧ p < 204) (h : f p = .inl (ci, fs)) : zrcv (zG xs) (xh f, u) (.ref ci) ((.ref p : Value) :: as) = true := by
  unfold zrcv
  simp only [x_rd hp.1 hp.2, h, decide_true]
theorem x_call {i : Instr} {P : Option Value → (Nat → zE) → Prop} (as : List Value) (hc : zcd (zt v0) mi pc = some (i, 0, b, as.length, v)) (hki : zki i = 2) (h8 : zcat r ≤ 8) (hn : zcat as ≤ znl (zt v0) b) (hrc : zrcv (zG xs) (xh f, u) v as.reverse = true) (hs : xq v0 xs u b (lv_args 0 as.reverse) f P) (k : ∀ r' f', P r' f' → xz v0 xs u Q mi (pc + 3) lv (r'.toList ++ r) f') : xz v0 xs u Q mi pc lv (as ++ r) f := by
  obtain ⟨z1, z2, z3, z4, z5⟩ := zk_za (G := zG xs) (df := zdf (zt v0)) (a := 0) (b := b) (c := as.length) (v := v) (nL := znl (zt v0) mi) (pc := pc) (lv := lv) (st := as ++ r) (X := (xh f, u)) hki
  have e1 : (as ++ r).take as.length = as := List.take_left
  have e2 : (as ++ r).drop as.length = r := List.drop_left
  refine zwp_call ⟨hc, z1, z2, z3⟩ z4 hki ⟨rfl, by simp, by rw [e2]; exact h8, by rw [e1]; exact hn, by rw [e1]; exact hrc⟩ ?_
  rw [e1, e2]
  refine zwp_mono hs fun o X' hq => ?_
  obtain ⟨r', f', rfl, rfl, hP⟩ := hq
  exact k r' f' hP
end xS
theorem xq_mono {v0 : Value} {xs : List Int32} {u : Nat × Nat} {mi : Nat} {lv : zL} {f : Nat → zE} {P P' : Option Value → (Nat → zE) → Prop} (h : xq v0 xs u mi lv f P) (hp : ∀ r f', P r f' → P' r f') : xq v0 xs u mi lv f P' := zwp_mono h fun o X' hq => by
  obtain ⟨r, f', h1, h2, h3⟩ := hq
  exact ⟨r, f', h1, h2, hp r f' h3⟩
end
section
/-! The text: write and wipe, of both. -/
/-- the byte i of a long, as the class takes it -/
def xby (g : Int64) (i : Int) : Int := (Int32.ofInt ((g.toUInt64 >>> ((Int32.ofInt (8 * i)).toInt64.toUInt64 &&& Int64.toUInt64 63)).toInt64.toInt32.toInt) &&& Int32.ofInt 255).toInt
theorem xby_rg (g : Int64) (i : Int) : 0 ≤ xby g i ∧ xby g i ≤ 255 := y_and 8 255 255 rfl rfl rfl rfl (by decide)
/-- the same byte, as the model takes it -/
theorem xby_m (g : Int64) (i : Int) : ((g.toUInt64 >>> ((Int32.ofInt (8 * i)).toInt64.toUInt64 &&& Int64.toUInt64 63)).toInt64 &&& 255).toInt32.toInt = xby g i := by
  unfold xby
  rw [Int32.ofInt_toInt, Int64.toInt32_and]
  rfl
/-- how many bytes below k are no 0 -/
def xcn (g : Int64) : Nat → Int
  | 0 => 0
  | k + 1 => xcn g k + (if xby g (k : Nat) = 0 then 0 else 1)
theorem xcn_rg (g : Int64) : ∀ k, 0 ≤ xcn g k ∧ xcn g k ≤ (k : Nat) := by
  intro k
  induction k with
  | zero => exact ⟨Int.le_refl _, Int.le_refl _⟩
  | succ k ih =>
    simp only [xcn]
    split <;> omega
theorem xcn_mono (g : Int64) : ∀ (d k : Nat), xcn g k ≤ xcn g (k + d) := by
  intro d
  induction d with
  | zero => intro k; exact Int.le_refl _
  | succ d ih =>
    intro k
    have := ih k
    have e : k + (d + 1) = (k + d) + 1 := by omega
    rw [e]
    simp only [xcn]
    split <;> omega
def xok (g : Int64) (k : Nat) : Prop := ∀ j : Nat, j < k → xby g (j : Nat) = 0 ∨ (32 ≤ xby g (j : Nat) ∧ xby g (j : Nat) ≤ 126)
/-- what a write takes: every byte is 0 or of 32 .. 126, and there is room -/
def xfits (g : Int64) (n : Int) : Prop := xok g 8 ∧ n + xcn g 8 ≤ 100
theorem xok_s {g : Int64} {k : Nat} (h : xok g k) (hk : xby g (k : Nat) = 0 ∨ (32 ≤ xby g (k : Nat) ∧ xby g (k : Nat) ≤ 126)) : xok g (k + 1) := by
  intro j hj
  by_cases e : j = k
  · subst e; exact hk
  · exact h j (by omega)
/-- the text behind the bytes below k -/
def xwr (g : Int64) (n : Int) (cs : List Int) : Nat → List Int
  | 0 => cs
  | k + 1 => if xby g (k : Nat) = 0 then xwr g n cs k else (xwr g n cs k).set (n + xcn g k).toNat (xby g (k : Nat))
theorem xwr_len (g : Int64) (n : Int) (cs : List Int) : ∀ k, (xwr g n cs k).length = cs.length := by
  intro k
  induction k with
  | zero => rfl
  | succ k ih =>
    simp only [xwr]
    split
    · exact ih
    · rw [List.length_set]; exact ih
theorem xs_17 {v0 : Value} {xs : List Int32} {u : Nat × Nat} {f : Nat → zE} {g : Int64} {i : Int} : xq v0 xs u 17 [(0, .long g), (2, xi i)] f (fun r f' => (r, f') = (some (xi (xby g i)), f)) := by
  unfold xq
  refine x_lload_n rfl rfl ?_
  refine x_bipush rfl (by decide) ?_
  refine x_iload_n rfl rfl ?_
  refine x_imul rfl ?_
  refine x_lushr rfl ?_
  refine x_l2iz rfl ?_
  refine x_sipush rfl (by decide) ?_
  refine x_iandz rfl ?_
  refine x_ireturn rfl (Or.inl rfl) ⟨_, _, rfl, rfl, ?_⟩
  exact rfl
theorem xs_18l {v0 : Value} {xs : List Int32} {u : Nat × Nat} {f : Nat → zE} {g : Int64} {n : Int} (h51 : f 51 = .inl (1, [.ref 52, xi n])) (hn : 0 ≤ n ∧ n ≤ 100) : ∀ (d k : Nat) (lv : zL), d + k = 8 → zlv lv 0 = some (.ref 51) → zlv lv 1 = some (.long g) → zlv lv 4 = some (xi (k : Nat)) → zlv lv 3 = some (xi (xcn g k)) → xok g k → xz v0 xs u (fun o X => ∃ r f', o = .inl r ∧ X = (xh f', u) ∧ (fun r f' => f' = f ∧ ((r = some (xi 1) ∧ xfits g n) ∨ (r = some (xi 0) ∧ ¬ xfits g n))) r f') 18 5 lv [] f := by
  intro d
  induction d with
  | zero =>
    intro k lv hd h0 h1 h4 h3 hok
    have hcg := xcn_rg g k
    refine x_iload rfl h4 ?_
    refine x_bipush rfl (by decide) ?_
    refine x_cge (t := 50) rfl rfl ⟨by omega, by omega⟩ ⟨by omega, by omega⟩ (fun hb9 => ?_) (fun hb9 => ?_)
    · have hk8 : k = 8 := by omega
      refine x_aload_n rfl h0 ?_
      refine x_getfield rfl (by decide) h51 rfl ?_
      refine x_iload_n rfl h3 ?_
      refine x_iadd rfl ?_
      refine x_bipush rfl (by decide) ?_
      refine x_cgt (t := 65) rfl rfl ⟨by omega, by omega⟩ ⟨by omega, by omega⟩ (fun hb58 => ?_) (fun hb58 => ?_)
      · refine x_iconst rfl ?_
        refine x_ireturn rfl (Or.inr (Or.inl ⟨rfl, by decide⟩)) ⟨_, _, rfl, rfl, ?_⟩
        exact ⟨rfl, Or.inr ⟨rfl, fun hx => by have h1 := hx.2; rw [hk8] at hb58; omega⟩⟩
      · refine x_iconst rfl ?_
        refine x_goto (t := 66) rfl rfl ?_
        refine x_ireturn rfl (Or.inr (Or.inl ⟨rfl, by decide⟩)) ⟨_, _, rfl, rfl, ?_⟩
        refine ⟨rfl, Or.inl ⟨rfl, ?_, ?_⟩⟩
        · rw [← hk8]; exact hok
        · rw [← hk8]; omega
    · exfalso; omega
  | succ d ih =>
    intro k lv hd h0 h1 h4 h3 hok
    have hcg := xcn_rg g k
    refine x_iload rfl h4 ?_
    refine x_bipush rfl (by decide) ?_
    refine x_cge (t := 50) rfl rfl ⟨by omega, by omega⟩ ⟨by omega, by omega⟩ (fun hb9 => ?_) (fun hb9 => ?_)
    · exfalso; omega
    · refine x_lload_n rfl h1 ?_
      refine x_iload rfl h4 ?_
      refine x_call [_, _] rfl rfl (show (0 : Nat) ≤ 8 from by decide) (show (3 : Nat) ≤ 3 from by decide) rfl xs_17 (fun r' f' hP => ?_)
      obtain ⟨rfl, rfl⟩ := Prod.mk.inj hP
      have hby := xby_rg g (k : Nat)
      refine x_istore rfl (show (5 : Nat) < 6 from by decide) ?_
      refine x_iload rfl xst_eq ?_
      refine x_ifeq (t := 44) rfl rfl ⟨by omega, by omega⟩ (fun hb22 => ?_) (fun hb22 => ?_)
      · refine x_iinc rfl (xst_ne (by decide) h4 (Or.inl rfl)) (show (4 : Nat) < 6 from by decide) ?_
        refine x_goto (t := 5) rfl rfl ?_
        have hcn : xcn g (k + 1) = xcn g k := by simp only [xcn]; rw [if_pos hb22]; omega
        refine ih (k + 1) _ (by omega) (xst_ne (by decide) (xst_ne (by decide) h0 (Or.inl rfl)) (Or.inl rfl)) (xst_ne (by decide) (xst_ne (by decide) h1 (Or.inr (by decide))) (Or.inr (by decide))) ?_ (by rw [hcn]; exact (xst_ne (by decide) (xst_ne (by decide) h3 (Or.inl rfl)) (Or.inl rfl))) (xok_s hok (by omega))
        exact xst_eq
      · refine x_iload rfl xst_eq ?_
        refine x_bipush rfl (by decide) ?_
        refine x_clt (t := 39) rfl rfl ⟨by omega, by omega⟩ ⟨by omega, by omega⟩ (fun hb29 => ?_) (fun hb29 => ?_)
        · refine x_iconst rfl ?_
          refine x_ireturn rfl (Or.inr (Or.inl ⟨rfl, by decide⟩)) ⟨_, _, rfl, rfl, ?_⟩
          exact ⟨rfl, Or.inr ⟨rfl, fun hx => by have h1 := hx.1 k (by omega); omega⟩⟩
        · refine x_iload rfl xst_eq ?_
          refine x_bipush rfl (by decide) ?_
          refine x_cle (t := 41) rfl rfl ⟨by omega, by omega⟩ ⟨by omega, by omega⟩ (fun hb36 => ?_) (fun hb36 => ?_)
          · refine x_iinc rfl (xst_ne (by decide) h3 (Or.inl rfl)) (show (3 : Nat) < 6 from by decide) ?_
            refine x_iinc rfl (xst_ne (by decide) (xst_ne (by decide) h4 (Or.inl rfl)) (Or.inl rfl)) (show (4 : Nat) < 6 from by decide) ?_
            refine x_goto (t := 5) rfl rfl ?_
            have hcn : xcn g (k + 1) = xcn g k + 1 := by simp only [xcn]; rw [if_neg hb22]
            refine ih (k + 1) _ (by omega) (xst_ne (by decide) (xst_ne (by decide) (xst_ne (by decide) h0 (Or.inl rfl)) (Or.inl rfl)) (Or.inl rfl)) (xst_ne (by decide) (xst_ne (by decide) (xst_ne (by decide) h1 (Or.inr (by decide))) (Or.inr (by decide))) (Or.inr (by decide))) ?_ (by rw [hcn]; exact (xst_ne (by decide) xst_eq (Or.inl rfl))) (xok_s hok (by omega))
            exact xst_eq
          · refine x_iconst rfl ?_
            refine x_ireturn rfl (Or.inr (Or.inl ⟨rfl, by decide⟩)) ⟨_, _, rfl, rfl, ?_⟩
            exact ⟨rfl, Or.inr ⟨rfl, fun hx => by have h1 := hx.1 k (by omega); omega⟩⟩
theorem xs_18 {v0 : Value} {xs : List Int32} {u : Nat × Nat} {f : Nat → zE} {g : Int64} {n : Int} (h51 : f 51 = .inl (1, [.ref 52, xi n])) (hn : 0 ≤ n ∧ n ≤ 100) : xq v0 xs u 18 [(0, .ref 51), (1, .long g)] f (fun r f' => f' = f ∧ ((r = some (xi 1) ∧ xfits g n) ∨ (r = some (xi 0) ∧ ¬ xfits g n))) := by
  unfold xq
  refine x_iconst rfl ?_
  refine x_istore_n rfl (show (3 : Nat) < 6 from by decide) ?_
  refine x_iconst rfl ?_
  refine x_istore rfl (show (4 : Nat) < 6 from by decide) ?_
  exact xs_18l h51 hn 8 0 _ rfl (xst_ne (by decide) (xst_ne (by decide) rfl (Or.inl rfl)) (Or.inl rfl)) (xst_ne (by decide) (xst_ne (by decide) rfl (Or.inr (by decide))) (Or.inr (by decide))) xst_eq (xst_ne (by decide) xst_eq (Or.inl rfl)) (fun j hj => absurd hj (Nat.not_lt_zero j))
theorem xnar {x : Int} (h1 : 0 ≤ x) (h2 : x < 65536) : vp_nar .char (Int32.ofInt x) = Int32.ofInt x := by
  obtain ⟨n, rfl⟩ := Int.eq_ofNat_of_zero_le h1
  have hn : n < 65536 := by omega
  show ((UInt32.ofNat n).toUInt16.toUInt32).toInt32 = Int32.ofNat n
  have e : (UInt32.ofNat n).toUInt16.toUInt32 = UInt32.ofNat n := by
    apply UInt32.toNat_inj.mp
    simp
    omega
  rw [e]
  rfl
theorem xs_19l {v0 : Value} {xs : List Int32} {u : Nat × Nat} {f0 : Nat → zE} {g : Int64} {n : Int} {cs : List Int} (hn : 0 ≤ n ∧ n ≤ 100) (hl : cs.length = 100) (hfit : xfits g n) : ∀ (d k : Nat) (lv : zL) (f : Nat → zE), d + k = 8 → zlv lv 0 = some (.ref 51) → zlv lv 1 = some (.long g) → zlv lv 3 = some (xi (k : Nat)) → f 51 = .inl (1, [.ref 52, xi (n + xcn g k)]) → f 52 = xr 1 (xwr g n cs k) → (∀ p, p ≠ 51 → p ≠ 52 → f p = f0 p) → xz v0 xs u (fun o X => ∃ r f', o = .inl r ∧ X = (xh f', u) ∧ (fun r f' => (r = some (xi 0) ∧ ¬ xfits g n ∧ f' = f0) ∨ (r = some (xi 1) ∧ xfits g n ∧ f' 51 = .inl (1, [.ref 52, xi (n + xcn g 8)]) ∧ f' 52 = xr 1 (xwr g n cs 8) ∧ ∀ p, p ≠ 51 → p ≠ 52 → f' p = f0 p)) r f') 19 12 lv [] f := by
  intro d
  induction d with
  | zero =>
    intro k lv f hd h0 h1 h3 h51 h52 hfr
    have hcg := xcn_rg g k
    have hwl : (xwr g n cs k).length = 100 := by rw [xwr_len]; exact hl
    refine x_iload_n rfl h3 ?_
    refine x_bipush rfl (by decide) ?_
    refine x_cge (t := 67) rfl rfl ⟨by omega, by omega⟩ ⟨by omega, by omega⟩ (fun hb15 => ?_) (fun hb15 => ?_)
    · refine x_iconst rfl ?_
      refine x_ireturn rfl (Or.inr (Or.inl ⟨rfl, by decide⟩)) ⟨_, _, rfl, rfl, ?_⟩
      have hk8 : k = 8 := by omega
      subst hk8
      exact Or.inr ⟨rfl, hfit, h51, h52, hfr⟩
    · exfalso; omega
  | succ d ih =>
    intro k lv f hd h0 h1 h3 h51 h52 hfr
    have hcg := xcn_rg g k
    have hwl : (xwr g n cs k).length = 100 := by rw [xwr_len]; exact hl
    refine x_iload_n rfl h3 ?_
    refine x_bipush rfl (by decide) ?_
    refine x_cge (t := 67) rfl rfl ⟨by omega, by omega⟩ ⟨by omega, by omega⟩ (fun hb15 => ?_) (fun hb15 => ?_)
    · exfalso; omega
    · refine x_lload_n rfl h1 ?_
      refine x_iload_n rfl h3 ?_
      refine x_call [_, _] rfl rfl (show (0 : Nat) ≤ 8 from by decide) (show (3 : Nat) ≤ 3 from by decide) rfl xs_17 (fun r' f' hP => ?_)
      obtain ⟨rfl, rfl⟩ := Prod.mk.inj hP
      have hby := xby_rg g (k : Nat)
      refine x_istore rfl (show (4 : Nat) < 5 from by decide) ?_
      have hm : xcn g (k + 1) ≤ xcn g 8 := by have := xcn_mono g (8 - (k + 1)) (k + 1); rw [show k + 1 + (8 - (k + 1)) = 8 by omega] at this; exact this
      refine x_iload rfl xst_eq ?_
      refine x_ifeq (t := 61) rfl rfl ⟨by omega, by omega⟩ (fun hb27 => ?_) (fun hb27 => ?_)
      · refine x_iinc rfl (xst_ne (by decide) h3 (Or.inl rfl)) (show (3 : Nat) < 5 from by decide) ?_
        refine x_goto (t := 12) rfl rfl ?_
        have hcn : xcn g (k + 1) = xcn g k := by simp only [xcn]; rw [if_pos hb27]; omega
        have hwr : xwr g n cs (k + 1) = xwr g n cs k := by simp only [xwr]; rw [if_pos hb27]
        exact ih (k + 1) _ _ (by omega) (xst_ne (by decide) (xst_ne (by decide) h0 (Or.inl rfl)) (Or.inl rfl)) (xst_ne (by decide) (xst_ne (by decide) h1 (Or.inr (by decide))) (Or.inr (by decide))) xst_eq (by rw [hcn]; exact h51) (by rw [hwr]; exact h52) hfr
      · refine x_aload_n rfl (xst_ne (by decide) h0 (Or.inl rfl)) ?_
        refine x_getfield rfl (by decide) h51 rfl ?_
        refine x_bipush rfl (by decide) ?_
        have hcn1 : xcn g (k + 1) = xcn g k + 1 := by simp only [xcn]; rw [if_neg hb27]
        have hf2 := hfit.2
        refine x_cge (t := 61) rfl rfl ⟨by omega, by omega⟩ ⟨by omega, by omega⟩ (fun hb36 => ?_) (fun hb36 => ?_)
        · exfalso; omega
        · refine x_aload_n rfl (xst_ne (by decide) h0 (Or.inl rfl)) ?_
          refine x_getfield rfl (by decide) h51 rfl ?_
          refine x_aload_n rfl (xst_ne (by decide) h0 (Or.inl rfl)) ?_
          refine x_getfield rfl (by decide) h51 rfl ?_
          refine x_iload rfl xst_eq ?_
          refine x_i2c rfl ⟨by omega, by omega⟩ ?_
          refine x_castore rfl (by decide) h52 ⟨by omega, by omega⟩ (by omega) (xnar (by omega) (by omega)) ?_
          refine x_aload_n rfl (xst_ne (by decide) h0 (Or.inl rfl)) ?_
          refine x_dup rfl ?_
          refine x_getfield rfl (by decide) (xu_ne (by decide) h51) rfl ?_
          refine x_iconst rfl ?_
          refine x_iadd rfl ?_
          refine x_putfield rfl (by decide) (xu_ne (by decide) h51) (show (1 : Nat) < 2 from by decide) rfl ?_
          refine x_iinc rfl (xst_ne (by decide) h3 (Or.inl rfl)) (show (3 : Nat) < 5 from by decide) ?_
          refine x_goto (t := 12) rfl rfl ?_
          have hcn : xcn g (k + 1) = xcn g k + 1 := by simp only [xcn]; rw [if_neg hb27]
          have hwr : xwr g n cs (k + 1) = (xwr g n cs k).set (n + xcn g k).toNat (xby g (k : Nat)) := by simp only [xwr]; rw [if_neg hb27]
          refine ih (k + 1) _ _ (by omega) (xst_ne (by decide) (xst_ne (by decide) h0 (Or.inl rfl)) (Or.inl rfl)) (xst_ne (by decide) (xst_ne (by decide) h1 (Or.inr (by decide))) (Or.inr (by decide))) xst_eq ?_ ?_ ?_
          · rw [hcn, ← Int.add_assoc]; exact xu_eq
          · rw [hwr]; exact (xu_ne (by decide) xu_eq)
          · intro p p1 p2; exact xu_ne p1 (xu_ne p2 (hfr p p1 p2))
theorem xs_19 {v0 : Value} {xs : List Int32} {u : Nat × Nat} {f : Nat → zE} {g : Int64} {n : Int} {cs : List Int} (h51 : f 51 = .inl (1, [.ref 52, xi n])) (h52 : f 52 = xr 1 cs) (hn : 0 ≤ n ∧ n ≤ 100) (hl : cs.length = 100) : xq v0 xs u 19 [(0, .ref 51), (1, .long g)] f (fun r f' => (r = some (xi 0) ∧ ¬ xfits g n ∧ f' = f) ∨ (r = some (xi 1) ∧ xfits g n ∧ f' 51 = .inl (1, [.ref 52, xi (n + xcn g 8)]) ∧ f' 52 = xr 1 (xwr g n cs 8) ∧ ∀ p, p ≠ 51 → p ≠ 52 → f' p = f p)) := by
  unfold xq
  refine x_aload_n rfl rfl ?_
  refine x_lload_n rfl rfl ?_
  refine x_call [_, _] rfl rfl (show (0 : Nat) ≤ 8 from by decide) (show (3 : Nat) ≤ 6 from by decide) (x_rcv (by decide) h51) (xs_18 h51 hn) (fun r' f' hP => ?_)
  obtain ⟨rfl, hP⟩ := hP
  rcases hP with ⟨rfl, hfit⟩ | ⟨rfl, hfit⟩
  · refine x_ifne (t := 10) rfl rfl ⟨by omega, by omega⟩ (fun _ => ?_) (fun h => absurd h (by decide))
    refine x_iconst rfl ?_
    refine x_istore_n rfl (show (3 : Nat) < 5 from by decide) ?_
    exact xs_19l hn hl hfit 8 0 _ _ rfl (xst_ne (by decide) rfl (Or.inl rfl)) (xst_ne (by decide) rfl (Or.inr (by decide))) xst_eq (by simpa [xcn] using h51) h52 (fun p _ _ => rfl)
  · refine x_ifne (t := 10) rfl rfl ⟨by omega, by omega⟩ (fun h => absurd rfl h) (fun _ => ?_)
    refine x_iconst rfl ?_
    refine x_ireturn rfl (Or.inr (Or.inl ⟨rfl, by decide⟩)) ⟨_, _, rfl, rfl, ?_⟩
    exact Or.inl ⟨rfl, hfit, rfl⟩
abbrev xfc (d lf lc : Value) : zE := .inl (0, [.ref 51, .ref 53, .ref 109, .ref 113, .ref 117, .ref 122, .ref 171, .ref 173, .ref 175, .ref 176, d, lf, lc])
theorem xs_20 {v0 : Value} {xs : List Int32} {u : Nat × Nat} {f : Nat → zE} {g : Int64} {n : Int} {cs : List Int} {d lf lc : Value} (h50 : f 50 = xfc d lf lc) (h51 : f 51 = .inl (1, [.ref 52, xi n])) (h52 : f 52 = xr 1 cs) (hn : 0 ≤ n ∧ n ≤ 100) (hl : cs.length = 100) : xq v0 xs u 20 [(0, .ref 50), (1, .long g)] f (fun r f' => (r = some (xi 0) ∧ ¬ xfits g n ∧ f' = f) ∨ (r = some (xi 1) ∧ xfits g n ∧ f' 51 = .inl (1, [.ref 52, xi (n + xcn g 8)]) ∧ f' 52 = xr 1 (xwr g n cs 8) ∧ ∀ p, p ≠ 51 → p ≠ 52 → f' p = f p)) := by
  unfold xq
  refine x_aload_n rfl rfl ?_
  refine x_getfield rfl (by decide) h50 rfl ?_
  refine x_lload_n rfl rfl ?_
  refine x_call [_, _] rfl rfl (show (0 : Nat) ≤ 8 from by decide) (show (3 : Nat) ≤ 5 from by decide) (x_rcv (by decide) h51) (xs_19 h51 h52 hn hl) (fun r' f' hP => ?_)
  rcases hP with ⟨rfl, h1, h2⟩ | ⟨rfl, h1, h2⟩
  · refine x_ireturn rfl (Or.inr (Or.inl ⟨rfl, by decide⟩)) ⟨_, _, rfl, rfl, ?_⟩
    exact Or.inl ⟨rfl, h1, h2⟩
  · refine x_ireturn rfl (Or.inr (Or.inl ⟨rfl, by decide⟩)) ⟨_, _, rfl, rfl, ?_⟩
    exact Or.inr ⟨rfl, h1, h2⟩
theorem xs_22 {v0 : Value} {xs : List Int32} {u : Nat × Nat} {f : Nat → zE} {n : Int} (h51 : f 51 = .inl (1, [.ref 52, xi n])) : xq v0 xs u 22 [(0, .ref 51)] f (fun r f' => r = some (xi n) ∧ f' = xu f 51 (.inl (1, [.ref 52, xi 0]))) := by
  unfold xq
  refine x_aload_n rfl rfl ?_
  refine x_getfield rfl (by decide) h51 rfl ?_
  refine x_istore_n rfl (show (1 : Nat) < 2 from by decide) ?_
  refine x_aload_n rfl (xst_ne (by decide) rfl (Or.inl rfl)) ?_
  refine x_iconst rfl ?_
  refine x_putfield rfl (by decide) h51 (show (1 : Nat) < 2 from by decide) rfl ?_
  refine x_iload_n rfl xst_eq ?_
  refine x_ireturn rfl (Or.inl rfl) ⟨_, _, rfl, rfl, ?_⟩
  exact ⟨rfl, rfl⟩
theorem xs_23 {v0 : Value} {xs : List Int32} {u : Nat × Nat} {f : Nat → zE} {n : Int} {d lf lc : Value} (h50 : f 50 = xfc d lf lc) (h51 : f 51 = .inl (1, [.ref 52, xi n])) : xq v0 xs u 23 [(0, .ref 50)] f (fun r f' => r = some (xi n) ∧ f' = xu f 51 (.inl (1, [.ref 52, xi 0]))) := by
  unfold xq
  refine x_aload_n rfl rfl ?_
  refine x_getfield rfl (by decide) h50 rfl ?_
  refine x_call [_] rfl rfl (show (0 : Nat) ≤ 8 from by decide) (show (1 : Nat) ≤ 2 from by decide) (x_rcv (by decide) h51) (xs_22 h51) (fun r' f' hP => ?_)
  obtain ⟨rfl, rfl⟩ := hP
  refine x_ireturn rfl (Or.inl rfl) ⟨_, _, rfl, rfl, ?_⟩
  exact ⟨rfl, rfl⟩
/-- the model's object -/
abbrev xmo (cd ty fa ki be en : Int) (wo : Int64) (nu ca pa op : Int) (q : Nat → Value) : zE := .inl (10, [xi cd, xi ty, .ref 178, xi fa, xi ki, xi be, xi en, .long wo, xi nu, xi ca, .ref 179, .ref 180, .ref 181, .ref 182, .ref 183, .ref 184, xi pa, .ref 185, .ref 186, xi op, .ref 187, .ref 188, .ref 189, .ref 190, .ref 191, .ref 192, .ref 193, .ref 194, q 0, q 1, q 2, q 3, .ref 195, .ref 196, .ref 197, .ref 198, q 4, .ref 199, .ref 200, .ref 201, .ref 202])
theorem xs_24 {v0 : Value} {xs : List Int32} {u : Nat × Nat} {f : Nat → zE} {cd n fa ki be en nu ca pa op : Int} {wo : Int64} {q : Nat → Value} (h177 : f 177 = xmo cd n fa ki be en wo nu ca pa op q) : xq v0 xs u 24 [(0, .ref 177)] f (fun r f' => r = some (xi n) ∧ f' 177 = xmo 0 0 fa ki be en wo nu ca pa op q ∧ ∀ p, p ≠ 177 → f' p = f p) := by
  unfold xq
  refine x_aload_n rfl rfl ?_
  refine x_iconst rfl ?_
  refine x_putfield rfl (by decide) h177 (show (0 : Nat) < 41 from by decide) rfl ?_
  refine x_aload_n rfl rfl ?_
  refine x_getfield rfl (by decide) xu_eq rfl ?_
  refine x_istore_n rfl (show (1 : Nat) < 2 from by decide) ?_
  refine x_aload_n rfl (xst_ne (by decide) rfl (Or.inl rfl)) ?_
  refine x_iconst rfl ?_
  refine x_putfield rfl (by decide) xu_eq (show (1 : Nat) < 41 from by decide) rfl ?_
  refine x_iload_n rfl xst_eq ?_
  refine x_ireturn rfl (Or.inl rfl) ⟨_, _, rfl, rfl, ?_⟩
  exact ⟨rfl, xu_eq, fun p hp => xu_ne hp (xu_ne hp rfl)⟩
theorem xs_21m {v0 : Value} {xs : List Int32} {u : Nat × Nat} {f0 : Nat → zE} {g : Int64} {cs : List Int} {n fa ki be en nu ca pa op : Int} {wo : Int64} {q : Nat → Value} (hn : 0 ≤ n ∧ n ≤ 100) (hl : cs.length = 100) (hfit : xfits g n) : ∀ (d k : Nat) (lv : zL) (f : Nat → zE), d + k = 8 → zlv lv 0 = some (.ref 177) → zlv lv 1 = some (.long g) → zlv lv 4 = some (xi (k : Nat)) → f 177 = xmo 0 (n + xcn g k) fa ki be en wo nu ca pa op q → f 178 = xr 1 (xwr g n cs k) → (∀ p, p ≠ 177 → p ≠ 178 → f p = f0 p) → xz v0 xs u (fun o X => ∃ r f', o = .inl r ∧ X = (xh f', u) ∧ (fun r f' => (r = some (xi 0) ∧ ¬ xfits g n ∧ f' 177 = xmo 0 n fa ki be en wo nu ca pa op q ∧ ∀ p, p ≠ 177 → f' p = f0 p) ∨ (r = some (xi 1) ∧ xfits g n ∧ f' 177 = xmo 0 (n + xcn g 8) fa ki be en wo nu ca pa op q ∧ f' 178 = xr 1 (xwr g n cs 8) ∧ ∀ p, p ≠ 177 → p ≠ 178 → f' p = f0 p)) r f') 21 87 lv [] f := by
  intro d
  induction d with
  | zero =>
    intro k lv f hd h0 h1 h4 h177 h178 hfr
    have hcg := xcn_rg g k
    have hwl : (xwr g n cs k).length = 100 := by rw [xwr_len]; exact hl
    refine x_iload rfl h4 ?_
    refine x_bipush rfl (by decide) ?_
    refine x_cge (t := 141) rfl rfl ⟨by omega, by omega⟩ ⟨by omega, by omega⟩ (fun hb91 => ?_) (fun hb91 => ?_)
    · refine x_iconst rfl ?_
      refine x_ireturn rfl (Or.inr (Or.inl ⟨rfl, by decide⟩)) ⟨_, _, rfl, rfl, ?_⟩
      have hk8 : k = 8 := by omega
      subst hk8
      exact Or.inr ⟨rfl, hfit, h177, h178, hfr⟩
    · exfalso; omega
  | succ d ih =>
    intro k lv f hd h0 h1 h4 h177 h178 hfr
    have hcg := xcn_rg g k
    have hwl : (xwr g n cs k).length = 100 := by rw [xwr_len]; exact hl
    refine x_iload rfl h4 ?_
    refine x_bipush rfl (by decide) ?_
    refine x_cge (t := 141) rfl rfl ⟨by omega, by omega⟩ ⟨by omega, by omega⟩ (fun hb91 => ?_) (fun hb91 => ?_)
    · exfalso; omega
    · refine x_lload_n rfl h1 ?_
      refine x_bipush rfl (by decide) ?_
      refine x_iload rfl h4 ?_
      refine x_imul rfl ?_
      refine x_lushr rfl ?_
      refine x_ldc2 rfl ?_
      refine x_land rfl ?_
      refine x_l2iz rfl ?_
      rw [xby_m]
      have hby := xby_rg g (k : Nat)
      refine x_istore rfl (show (5 : Nat) < 6 from by decide) ?_
      have hm : xcn g (k + 1) ≤ xcn g 8 := by have := xcn_mono g (8 - (k + 1)) (k + 1); rw [show k + 1 + (8 - (k + 1)) = 8 by omega] at this; exact this
      refine x_iload rfl xst_eq ?_
      refine x_ifeq (t := 135) rfl rfl ⟨by omega, by omega⟩ (fun hb110 => ?_) (fun hb110 => ?_)
      · refine x_iinc rfl (xst_ne (by decide) h4 (Or.inl rfl)) (show (4 : Nat) < 6 from by decide) ?_
        refine x_goto (t := 87) rfl rfl ?_
        have hcn : xcn g (k + 1) = xcn g k := by simp only [xcn]; rw [if_pos hb110]; omega
        have hwr : xwr g n cs (k + 1) = xwr g n cs k := by simp only [xwr]; rw [if_pos hb110]
        exact ih (k + 1) _ _ (by omega) (xst_ne (by decide) (xst_ne (by decide) h0 (Or.inl rfl)) (Or.inl rfl)) (xst_ne (by decide) (xst_ne (by decide) h1 (Or.inr (by decide))) (Or.inr (by decide))) xst_eq (by rw [hcn]; exact h177) (by rw [hwr]; exact h178) hfr
      · have hcn1 : xcn g (k + 1) = xcn g k + 1 := by simp only [xcn]; rw [if_neg hb110]
        have hf2 := hfit.2
        refine x_aload_n rfl (xst_ne (by decide) h0 (Or.inl rfl)) ?_
        refine x_getfield rfl (by decide) h177 rfl ?_
        refine x_aload_n rfl (xst_ne (by decide) h0 (Or.inl rfl)) ?_
        refine x_getfield rfl (by decide) h177 rfl ?_
        refine x_iload rfl xst_eq ?_
        refine x_i2c rfl ⟨by omega, by omega⟩ ?_
        refine x_castore rfl (by decide) h178 ⟨by omega, by omega⟩ (by omega) (xnar (by omega) (by omega)) ?_
        refine x_aload_n rfl (xst_ne (by decide) h0 (Or.inl rfl)) ?_
        refine x_dup rfl ?_
        refine x_getfield rfl (by decide) (xu_ne (by decide) h177) rfl ?_
        refine x_iconst rfl ?_
        refine x_iadd rfl ?_
        refine x_putfield rfl (by decide) (xu_ne (by decide) h177) (show (1 : Nat) < 41 from by decide) rfl ?_
        refine x_iinc rfl (xst_ne (by decide) h4 (Or.inl rfl)) (show (4 : Nat) < 6 from by decide) ?_
        refine x_goto (t := 87) rfl rfl ?_
        have hcn : xcn g (k + 1) = xcn g k + 1 := by simp only [xcn]; rw [if_neg hb110]
        have hwr : xwr g n cs (k + 1) = (xwr g n cs k).set (n + xcn g k).toNat (xby g (k : Nat)) := by simp only [xwr]; rw [if_neg hb110]
        refine ih (k + 1) _ _ (by omega) (xst_ne (by decide) (xst_ne (by decide) h0 (Or.inl rfl)) (Or.inl rfl)) (xst_ne (by decide) (xst_ne (by decide) h1 (Or.inr (by decide))) (Or.inr (by decide))) xst_eq ?_ ?_ ?_
        · rw [hcn, ← Int.add_assoc]; exact xu_eq
        · rw [hwr]; exact (xu_ne (by decide) xu_eq)
        · intro p p1 p2; exact xu_ne p1 (xu_ne p2 (hfr p p1 p2))
theorem xs_21a {v0 : Value} {xs : List Int32} {u : Nat × Nat} {f f0 : Nat → zE} {g : Int64} {cs : List Int} {n fa ki be en nu ca pa op : Int} {wo : Int64} {q : Nat → Value} (hn : 0 ≤ n ∧ n ≤ 100) (hl : cs.length = 100) (h177 : f 177 = xmo 0 n fa ki be en wo nu ca pa op q) (h178 : f0 178 = xr 1 cs) (hfr : ∀ p, p ≠ 177 → f p = f0 p) : ∀ (d k : Nat) (lv : zL), d + k = 8 → zlv lv 0 = some (.ref 177) → zlv lv 1 = some (.long g) → zlv lv 4 = some (xi (k : Nat)) → zlv lv 3 = some (xi (xcn g k)) → xok g k → xz v0 xs u (fun o X => ∃ r f', o = .inl r ∧ X = (xh f', u) ∧ (fun r f' => (r = some (xi 0) ∧ ¬ xfits g n ∧ f' 177 = xmo 0 n fa ki be en wo nu ca pa op q ∧ ∀ p, p ≠ 177 → f' p = f0 p) ∨ (r = some (xi 1) ∧ xfits g n ∧ f' 177 = xmo 0 (n + xcn g 8) fa ki be en wo nu ca pa op q ∧ f' 178 = xr 1 (xwr g n cs 8) ∧ ∀ p, p ≠ 177 → p ≠ 178 → f' p = f0 p)) r f') 21 10 lv [] f := by
  intro d
  induction d with
  | zero =>
    intro k lv hd h0 h1 h4 h3 hok
    have hcg := xcn_rg g k
    refine x_iload rfl h4 ?_
    refine x_bipush rfl (by decide) ?_
    refine x_cge (t := 71) rfl rfl ⟨by omega, by omega⟩ ⟨by omega, by omega⟩ (fun hb14 => ?_) (fun hb14 => ?_)
    · have hk8 : k = 8 := by omega
      refine x_aload_n rfl h0 ?_
      refine x_getfield rfl (by decide) h177 rfl ?_
      refine x_iload_n rfl h3 ?_
      refine x_iadd rfl ?_
      refine x_bipush rfl (by decide) ?_
      refine x_cle (t := 84) rfl rfl ⟨by omega, by omega⟩ ⟨by omega, by omega⟩ (fun hb79 => ?_) (fun hb79 => ?_)
      · refine x_iconst rfl ?_
        refine x_istore rfl (show (4 : Nat) < 6 from by decide) ?_
        refine xs_21m hn hl ⟨by rw [← hk8]; exact hok, by rw [← hk8]; omega⟩ 8 0 _ _ rfl (xst_ne (by decide) h0 (Or.inl rfl)) (xst_ne (by decide) h1 (Or.inr (by decide))) xst_eq (by simpa [xcn] using h177) (by rw [hfr 178 (by decide)]; exact h178) (fun p p1 _ => hfr p p1)
      · refine x_iconst rfl ?_
        refine x_ireturn rfl (Or.inr (Or.inl ⟨rfl, by decide⟩)) ⟨_, _, rfl, rfl, ?_⟩
        exact Or.inl ⟨rfl, fun hx => by have h1 := hx.2; rw [hk8] at hb79; omega, h177, hfr⟩
    · exfalso; omega
  | succ d ih =>
    intro k lv hd h0 h1 h4 h3 hok
    have hcg := xcn_rg g k
    refine x_iload rfl h4 ?_
    refine x_bipush rfl (by decide) ?_
    refine x_cge (t := 71) rfl rfl ⟨by omega, by omega⟩ ⟨by omega, by omega⟩ (fun hb14 => ?_) (fun hb14 => ?_)
    · exfalso; omega
    · refine x_lload_n rfl h1 ?_
      refine x_bipush rfl (by decide) ?_
      refine x_iload rfl h4 ?_
      refine x_imul rfl ?_
      refine x_lushr rfl ?_
      refine x_ldc2 rfl ?_
      refine x_land rfl ?_
      refine x_l2iz rfl ?_
      rw [xby_m]
      have hby := xby_rg g (k : Nat)
      refine x_istore rfl (show (5 : Nat) < 6 from by decide) ?_
      refine x_iload rfl xst_eq ?_
      refine x_ifeq (t := 52) rfl rfl ⟨by omega, by omega⟩ (fun hb33 => ?_) (fun hb33 => ?_)
      · refine x_iload_n rfl (xst_ne (by decide) h3 (Or.inl rfl)) ?_
        refine x_iload rfl xst_eq ?_
        refine x_ifne (t := 62) rfl rfl ⟨by omega, by omega⟩ (fun hb55 => ?_) (fun hb55 => ?_)
        · exfalso; omega
        · refine x_iconst rfl ?_
          refine x_goto (t := 63) rfl rfl ?_
          refine x_iadd rfl ?_
          refine x_istore_n rfl (show (3 : Nat) < 6 from by decide) ?_
          refine x_iinc rfl (xst_ne (by decide) (xst_ne (by decide) h4 (Or.inl rfl)) (Or.inl rfl)) (show (4 : Nat) < 6 from by decide) ?_
          refine x_goto (t := 10) rfl rfl ?_
          have hcn : xcn g (k + 1) = xcn g k + 0 := by simp only [xcn]; rw [if_pos hb55]
          exact ih (k + 1) _ (by omega) (xst_ne (by decide) (xst_ne (by decide) (xst_ne (by decide) h0 (Or.inl rfl)) (Or.inl rfl)) (Or.inl rfl)) (xst_ne (by decide) (xst_ne (by decide) (xst_ne (by decide) h1 (Or.inr (by decide))) (Or.inr (by decide))) (Or.inr (by decide))) xst_eq (by rw [hcn]; exact (xst_ne (by decide) xst_eq (Or.inl rfl))) (xok_s hok (by omega))
      · refine x_iload rfl xst_eq ?_
        refine x_bipush rfl (by decide) ?_
        refine x_clt (t := 50) rfl rfl ⟨by omega, by omega⟩ ⟨by omega, by omega⟩ (fun hb40 => ?_) (fun hb40 => ?_)
        · refine x_iconst rfl ?_
          refine x_ireturn rfl (Or.inr (Or.inl ⟨rfl, by decide⟩)) ⟨_, _, rfl, rfl, ?_⟩
          exact Or.inl ⟨rfl, fun hx => by have h1 := hx.1 k (by omega); omega, h177, hfr⟩
        · refine x_iload rfl xst_eq ?_
          refine x_bipush rfl (by decide) ?_
          refine x_cle (t := 52) rfl rfl ⟨by omega, by omega⟩ ⟨by omega, by omega⟩ (fun hb47 => ?_) (fun hb47 => ?_)
          · refine x_iload_n rfl (xst_ne (by decide) h3 (Or.inl rfl)) ?_
            refine x_iload rfl xst_eq ?_
            refine x_ifne (t := 62) rfl rfl ⟨by omega, by omega⟩ (fun hb55 => ?_) (fun hb55 => ?_)
            · refine x_iconst rfl ?_
              refine x_iadd rfl ?_
              refine x_istore_n rfl (show (3 : Nat) < 6 from by decide) ?_
              refine x_iinc rfl (xst_ne (by decide) (xst_ne (by decide) h4 (Or.inl rfl)) (Or.inl rfl)) (show (4 : Nat) < 6 from by decide) ?_
              refine x_goto (t := 10) rfl rfl ?_
              have hcn : xcn g (k + 1) = xcn g k + 1 := by simp only [xcn]; rw [if_neg hb55]
              exact ih (k + 1) _ (by omega) (xst_ne (by decide) (xst_ne (by decide) (xst_ne (by decide) h0 (Or.inl rfl)) (Or.inl rfl)) (Or.inl rfl)) (xst_ne (by decide) (xst_ne (by decide) (xst_ne (by decide) h1 (Or.inr (by decide))) (Or.inr (by decide))) (Or.inr (by decide))) xst_eq (by rw [hcn]; exact (xst_ne (by decide) xst_eq (Or.inl rfl))) (xok_s hok (by omega))
            · exfalso; omega
          · refine x_iconst rfl ?_
            refine x_ireturn rfl (Or.inr (Or.inl ⟨rfl, by decide⟩)) ⟨_, _, rfl, rfl, ?_⟩
            exact Or.inl ⟨rfl, fun hx => by have h1 := hx.1 k (by omega); omega, h177, hfr⟩
theorem xs_21 {v0 : Value} {xs : List Int32} {u : Nat × Nat} {f : Nat → zE} {g : Int64} {cs : List Int} {cd n fa ki be en nu ca pa op : Int} {wo : Int64} {q : Nat → Value} (hn : 0 ≤ n ∧ n ≤ 100) (hl : cs.length = 100) (h177 : f 177 = xmo cd n fa ki be en wo nu ca pa op q) (h178 : f 178 = xr 1 cs) : xq v0 xs u 21 [(0, .ref 177), (1, .long g)] f (fun r f' => (r = some (xi 0) ∧ ¬ xfits g n ∧ f' 177 = xmo 0 n fa ki be en wo nu ca pa op q ∧ ∀ p, p ≠ 177 → f' p = f p) ∨ (r = some (xi 1) ∧ xfits g n ∧ f' 177 = xmo 0 (n + xcn g 8) fa ki be en wo nu ca pa op q ∧ f' 178 = xr 1 (xwr g n cs 8) ∧ ∀ p, p ≠ 177 → p ≠ 178 → f' p = f p)) := by
  unfold xq
  refine x_aload_n rfl rfl ?_
  refine x_iconst rfl ?_
  refine x_putfield rfl (by decide) h177 (show (0 : Nat) < 41 from by decide) rfl ?_
  refine x_iconst rfl ?_
  refine x_istore_n rfl (show (3 : Nat) < 6 from by decide) ?_
  refine x_iconst rfl ?_
  refine x_istore rfl (show (4 : Nat) < 6 from by decide) ?_
  exact xs_21a hn hl xu_eq h178 (fun p hp => xu_ne hp rfl) 8 0 _ rfl (xst_ne (by decide) (xst_ne (by decide) rfl (Or.inl rfl)) (Or.inl rfl)) (xst_ne (by decide) (xst_ne (by decide) rfl (Or.inr (by decide))) (Or.inr (by decide))) xst_eq (xst_ne (by decide) xst_eq (Or.inl rfl)) (fun j hj => absurd hj (Nat.not_lt_zero j))
end
section
/-! Tokens: what both take from the text, and the class's way to it. -/
def xsk (P : Int → Bool) (cs : List Int) (n : Nat) : Nat → Nat → Nat
  | 0, p => p
  | d + 1, p => if p < n ∧ P (cs.getD p 0) = true then xsk P cs n d (p + 1) else p
/-- the first place from p on that is not of P, or the end -/
def xskip (P : Int → Bool) (cs : List Int) (n p : Nat) : Nat := xsk P cs n (n - p) p
theorem xskip_s {P : Int → Bool} {cs : List Int} {n p : Nat} (h : p < n) (hp : P (cs.getD p 0) = true) : xskip P cs n p = xskip P cs n (p + 1) := by
  unfold xskip
  obtain ⟨d, hd⟩ : ∃ d, n - p = d + 1 := ⟨n - p - 1, by omega⟩
  have hd2 : n - (p + 1) = d := by omega
  rw [hd, hd2, xsk, if_pos ⟨h, hp⟩]
theorem xskip_e {P : Int → Bool} {cs : List Int} {n p : Nat} (h : ¬ (p < n ∧ P (cs.getD p 0) = true)) : xskip P cs n p = p := by
  unfold xskip
  cases hd : n - p with
  | zero => rfl
  | succ d => rw [xsk, if_neg h]
theorem xsk_rg {P : Int → Bool} {cs : List Int} {n : Nat} : ∀ (d p : Nat), p ≤ xsk P cs n d p ∧ (p ≤ n → xsk P cs n d p ≤ n) ∧ (∀ j, p ≤ j → j < xsk P cs n d p → P (cs.getD j 0) = true) ∧ (n ≤ p + d → xsk P cs n d p < n → P (cs.getD (xsk P cs n d p) 0) = false) := by
  intro d
  induction d with
  | zero => intro p; exact ⟨Nat.le_refl _, fun h => h, fun j h1 h2 => by simp only [xsk] at h2; omega, fun h1 h2 => by simp only [xsk] at h2; omega⟩
  | succ d ih =>
    intro p
    simp only [xsk]
    split
    · rename_i h
      obtain ⟨h1, h2, h3, h4⟩ := ih (p + 1)
      refine ⟨by omega, fun _ => h2 (by omega), fun j j1 j2 => ?_, fun k1 k2 => h4 (by omega) k2⟩
      by_cases e : j = p
      · subst e; exact h.2
      · exact h3 j (by omega) j2
    · rename_i h
      refine ⟨Nat.le_refl _, fun h => h, fun j h1 h2 => by omega, fun _ h2 => ?_⟩
      cases hb : P (cs.getD p 0) with
      | false => rfl
      | true => exact absurd ⟨h2, hb⟩ h
theorem xskip_ge {P : Int → Bool} {cs : List Int} {n p : Nat} : p ≤ xskip P cs n p := (xsk_rg _ _).1
theorem xskip_le {P : Int → Bool} {cs : List Int} {n p : Nat} (h : p ≤ n) : xskip P cs n p ≤ n := (xsk_rg _ _).2.1 h
theorem xskip_in {P : Int → Bool} {cs : List Int} {n p j : Nat} (h1 : p ≤ j) (h2 : j < xskip P cs n p) : P (cs.getD j 0) = true := (xsk_rg _ _).2.2.1 j h1 h2
theorem xskip_stop {P : Int → Bool} {cs : List Int} {n p : Nat} (h2 : xskip P cs n p < n) : P (cs.getD (xskip P cs n p) 0) = false := (xsk_rg _ _).2.2.2 (by omega) h2
def xbl (c : Int) : Bool := decide (c = 32)
def xlt (c : Int) : Bool := decide (97 ≤ c ∧ c ≤ 122)
def xdg (c : Int) : Bool := decide (48 ≤ c ∧ c ≤ 57)
theorem xlt_iff {c : Int} : xlt c = true ↔ 97 ≤ c ∧ c ≤ 122 := by simp [xlt]
theorem xdg_iff {c : Int} : xdg c = true ↔ 48 ≤ c ∧ c ≤ 57 := by simp [xdg]
theorem xbl_iff {c : Int} : xbl c = true ↔ c = 32 := by simp [xbl]
/-- letters packed as the class packs them -/
def xpk (cs : List Int) (s : Nat) : Nat → Int
  | 0 => 0
  | k + 1 => 32 * xpk cs s k + (cs.getD (s + k) 0 - 96)
def xTK (cs : List Int) (n p : Nat) (ki : Int) (s e : Nat) : Prop := s = xskip xbl cs n p ∧ ((s = n ∧ ki = 0 ∧ e = n) ∨ (s < n ∧ xlt (cs.getD s 0) = true ∧ ki = 1 ∧ e = xskip xlt cs n s) ∨ (s < n ∧ xlt (cs.getD s 0) = false ∧ xdg (cs.getD s 0) = true ∧ ki = 2 ∧ e = xskip xdg cs n s) ∨ (s < n ∧ xlt (cs.getD s 0) = false ∧ xdg (cs.getD s 0) = false ∧ ki = 3 ∧ e = s + 1))
/-- what the class knows of a token -/
def xTC (cs : List Int) (ki : Int) (s e : Nat) (wo : Int64) (di sg : Int) : Prop := (ki = 1 → wo = Int64.ofInt (if e - s > 8 then 0 else xpk cs s (e - s))) ∧ (ki = 2 → di = (if e - s > 1 then -1 else cs.getD s 0 - 48)) ∧ (ki = 3 → sg = cs.getD s 0)
abbrev xtk (ki st en : Int) (wo : Int64) (di sg : Int) : zE := .inl (5, [.ref 51, xi ki, xi st, xi en, .long wo, xi di, xi sg])
theorem xi_l {x : Int} (h1 : -2147483648 ≤ x) (h2 : x ≤ 2147483647) : (Int32.ofInt x).toInt64 = Int64.ofInt x := by
  apply Int64.toInt_inj.mp
  rw [Int32.toInt_toInt64, xi_toInt h1 h2, Int64.toInt_ofInt_of_le (by omega) (by omega)]
theorem xs_25 {v0 : Value} {xs : List Int32} {u : Nat × Nat} {f : Nat → zE} {ki st en : Int} {wo : Int64} {di sg : Int} (h112 : f 112 = xtk ki st en wo di sg) : xq v0 xs u 25 [(0, .ref 112)] f (fun r f' => r = none ∧ f' = xu f 112 (xtk ki st 0 wo di sg)) := by
  unfold xq
  refine x_aload_n rfl rfl ?_
  refine x_iconst rfl ?_
  refine x_putfield rfl (by decide) h112 (show (3 : Nat) < 7 from by decide) rfl ?_
  refine x_return rfl ⟨_, _, rfl, rfl, ?_⟩
  exact ⟨rfl, rfl⟩
theorem xs_26 {v0 : Value} {xs : List Int32} {u : Nat × Nat} {f : Nat → zE} {n : Nat} {cs : List Int} {p : Nat} {lo hi : Int} {ki st : Int} {wo : Int64} {di sg : Int} (h51 : f 51 = .inl (1, [.ref 52, xi (n : Nat)])) (h52 : f 52 = xr 1 cs) (hn : n ≤ 100) (hl : cs.length = 100) (hcs : ∀ j : Nat, 0 ≤ cs.getD j 0 ∧ cs.getD j 0 ≤ 126) (hp : p < 100) (hlo : 0 ≤ lo ∧ lo ≤ 1000) (hhi : 0 ≤ hi ∧ hi ≤ 1000) (h112 : f 112 = xtk ki st (p : Nat) wo di sg) : xq v0 xs u 26 [(0, .ref 112), (1, xi lo), (2, xi hi)] f (fun r f' => r = some (xi (if lo ≤ cs.getD p 0 ∧ cs.getD p 0 ≤ hi then 1 else 0)) ∧ f' = f) := by
  unfold xq
  have hc := hcs p
  refine x_aload_n rfl rfl ?_
  refine x_getfield rfl (by decide) h112 rfl ?_
  refine x_getfield rfl (by decide) h51 rfl ?_
  refine x_aload_n rfl rfl ?_
  refine x_getfield rfl (by decide) h112 rfl ?_
  refine x_caload rfl (by decide) h52 ⟨by omega, by rw [hl]; omega⟩ (by omega) ?_
  rw [Int.toNat_natCast]
  refine x_iload_n rfl rfl ?_
  refine x_clt (t := 36) rfl rfl ⟨by omega, by omega⟩ ⟨by omega, by omega⟩ (fun hb13 => ?_) (fun hb13 => ?_)
  · refine x_iconst rfl ?_
    refine x_ireturn rfl (Or.inr (Or.inl ⟨rfl, by decide⟩)) ⟨_, _, rfl, rfl, ?_⟩
    exact ⟨by rw [if_neg (by omega)], rfl⟩
  · refine x_aload_n rfl rfl ?_
    refine x_getfield rfl (by decide) h112 rfl ?_
    refine x_getfield rfl (by decide) h51 rfl ?_
    refine x_aload_n rfl rfl ?_
    refine x_getfield rfl (by decide) h112 rfl ?_
    refine x_caload rfl (by decide) h52 ⟨by omega, by rw [hl]; omega⟩ (by omega) ?_
    rw [Int.toNat_natCast]
    refine x_iload_n rfl rfl ?_
    refine x_cgt (t := 36) rfl rfl ⟨by omega, by omega⟩ ⟨by omega, by omega⟩ (fun hb29 => ?_) (fun hb29 => ?_)
    · refine x_iconst rfl ?_
      refine x_ireturn rfl (Or.inr (Or.inl ⟨rfl, by decide⟩)) ⟨_, _, rfl, rfl, ?_⟩
      exact ⟨by rw [if_neg (by omega)], rfl⟩
    · refine x_iconst rfl ?_
      refine x_goto (t := 37) rfl rfl ?_
      refine x_ireturn rfl (Or.inr (Or.inl ⟨rfl, by decide⟩)) ⟨_, _, rfl, rfl, ?_⟩
      exact ⟨by rw [if_pos (by omega)], rfl⟩
theorem xs_27 {v0 : Value} {xs : List Int32} {u : Nat × Nat} {f : Nat → zE} {z c : Int} (hc : 0 ≤ c ∧ c ≤ 1000) : xq v0 xs u 27 [(0, .long (Int64.ofInt z)), (2, xi c)] f (fun r f' => r = some (.long (Int64.ofInt (32 * z + (c - 96)))) ∧ f' = f) := by
  unfold xq
  refine x_ldc2 rfl ?_
  refine x_lload_n rfl rfl ?_
  refine x_lmul rfl ?_
  refine x_iload_n rfl rfl ?_
  refine x_bipush rfl (by decide) ?_
  refine x_isub rfl ?_
  refine x_iconst rfl ?_
  refine x_iadd rfl ?_
  refine x_i2l rfl ?_
  refine x_ladd rfl ?_
  refine x_lreturn rfl ⟨_, _, rfl, rfl, ?_⟩
  refine ⟨?_, rfl⟩
  rw [xi_l (by omega) (by omega), show c - 96 = c - 97 + 1 by omega, Int64.ofInt_add (32 * z) (c - 97 + 1), Int64.ofInt_mul]
  rfl
theorem xs_28l {v0 : Value} {xs : List Int32} {u : Nat × Nat} {f0 : Nat → zE} {s n : Nat} {cs : List Int} {di sg : Int} (hn : n ≤ 100) (hl : cs.length = 100) (hcs : ∀ j : Nat, 0 ≤ cs.getD j 0 ∧ cs.getD j 0 ≤ 126) {lv : zL} (h0 : zlv lv 0 = some (.ref 112)) : ∀ (d j : Nat) (f : Nat → zE), d + j = n → s ≤ j → j ≤ n → f 51 = .inl (1, [.ref 52, xi (n : Nat)]) → f 52 = xr 1 cs → f 112 = xtk 1 (s : Nat) (j : Nat) (Int64.ofInt (xpk cs s (min (j - s) 8))) di sg → xskip xlt cs n j = xskip xlt cs n s → (∀ p, p ≠ 112 → f p = f0 p) → xz v0 xs u (fun o X => ∃ r f', o = .inl r ∧ X = (xh f', u) ∧ (fun r f' => r = none ∧ f' 112 = xtk 1 (s : Nat) (xskip xlt cs n s : Nat) (Int64.ofInt (if xskip xlt cs n s - s > 8 then 0 else xpk cs s (xskip xlt cs n s - s))) di sg ∧ ∀ p, p ≠ 112 → f' p = f0 p) r f') 28 10 lv [] f := by
  intro d
  induction d with
  | zero =>
    intro j f hd hj hjn h51 h52 h112 hsk hfr
    refine x_aload_n rfl h0 ?_
    refine x_getfield rfl (by decide) h112 rfl ?_
    refine x_aload_n rfl h0 ?_
    refine x_getfield rfl (by decide) h112 rfl ?_
    refine x_getfield rfl (by decide) h51 rfl ?_
    refine x_cge (t := 85) rfl rfl ⟨by omega, by omega⟩ ⟨by omega, by omega⟩ (fun hb21 => ?_) (fun hb21 => ?_)
    · refine x_aload_n rfl h0 ?_
      refine x_getfield rfl (by decide) h112 rfl ?_
      refine x_aload_n rfl h0 ?_
      refine x_getfield rfl (by decide) h112 rfl ?_
      refine x_isub rfl ?_
      refine x_bipush rfl (by decide) ?_
      refine x_cle (t := 104) rfl rfl ⟨by omega, by omega⟩ ⟨by omega, by omega⟩ (fun hb96 => ?_) (fun hb96 => ?_)
      · refine x_return rfl ⟨_, _, rfl, rfl, ?_⟩
        have hse : xskip xlt cs n s = j := by rw [← hsk]; exact xskip_e (fun h => by have h1 := xlt_iff.mp h.2; omega)
        rw [hse]
        refine ⟨rfl, ?_, ?_⟩
        · rw [if_neg (by omega), show j - s = min (j - s) 8 by omega]; exact h112
        · exact hfr
      · refine x_aload_n rfl h0 ?_
        refine x_lconst rfl ?_
        refine x_putfield rfl (by decide) h112 (show (4 : Nat) < 7 from by decide) rfl ?_
        refine x_return rfl ⟨_, _, rfl, rfl, ?_⟩
        have hse : xskip xlt cs n s = j := by rw [← hsk]; exact xskip_e (fun h => by have h1 := xlt_iff.mp h.2; omega)
        rw [hse]
        refine ⟨rfl, ?_, ?_⟩
        · rw [if_pos (by omega)]; exact xu_eq
        · intro p hp; exact xu_ne hp (hfr p hp)
    · exfalso; omega
  | succ d ih =>
    intro j f hd hj hjn h51 h52 h112 hsk hfr
    refine x_aload_n rfl h0 ?_
    refine x_getfield rfl (by decide) h112 rfl ?_
    refine x_aload_n rfl h0 ?_
    refine x_getfield rfl (by decide) h112 rfl ?_
    refine x_getfield rfl (by decide) h51 rfl ?_
    refine x_cge (t := 85) rfl rfl ⟨by omega, by omega⟩ ⟨by omega, by omega⟩ (fun hb21 => ?_) (fun hb21 => ?_)
    · refine x_aload_n rfl h0 ?_
      refine x_getfield rfl (by decide) h112 rfl ?_
      refine x_aload_n rfl h0 ?_
      refine x_getfield rfl (by decide) h112 rfl ?_
      refine x_isub rfl ?_
      refine x_bipush rfl (by decide) ?_
      refine x_cle (t := 104) rfl rfl ⟨by omega, by omega⟩ ⟨by omega, by omega⟩ (fun hb96 => ?_) (fun hb96 => ?_)
      · refine x_return rfl ⟨_, _, rfl, rfl, ?_⟩
        have hse : xskip xlt cs n s = j := by rw [← hsk]; exact xskip_e (fun h => by have h1 := xlt_iff.mp h.2; omega)
        rw [hse]
        refine ⟨rfl, ?_, ?_⟩
        · rw [if_neg (by omega), show j - s = min (j - s) 8 by omega]; exact h112
        · exact hfr
      · refine x_aload_n rfl h0 ?_
        refine x_lconst rfl ?_
        refine x_putfield rfl (by decide) h112 (show (4 : Nat) < 7 from by decide) rfl ?_
        refine x_return rfl ⟨_, _, rfl, rfl, ?_⟩
        have hse : xskip xlt cs n s = j := by rw [← hsk]; exact xskip_e (fun h => by have h1 := xlt_iff.mp h.2; omega)
        rw [hse]
        refine ⟨rfl, ?_, ?_⟩
        · rw [if_pos (by omega)]; exact xu_eq
        · intro p hp; exact xu_ne hp (hfr p hp)
    · refine x_aload_n rfl h0 ?_
      refine x_bipush rfl (by decide) ?_
      refine x_bipush rfl (by decide) ?_
      refine x_call [_, _, _] rfl rfl (show (0 : Nat) ≤ 8 from by decide) (show (3 : Nat) ≤ 3 from by decide) (x_rcv (by decide) h112) (xs_26 h51 h52 hn hl hcs (p := j) (by omega) (by decide) (by decide) h112) (fun r' f' hP => ?_)
      obtain ⟨rfl, rfl⟩ := hP
      have hc := hcs j
      refine x_ifeq (t := 85) rfl rfl (by split <;> decide) (fun hb32 => ?_) (fun hb32 => ?_)
      · refine x_aload_n rfl h0 ?_
        refine x_getfield rfl (by decide) h112 rfl ?_
        refine x_aload_n rfl h0 ?_
        refine x_getfield rfl (by decide) h112 rfl ?_
        refine x_isub rfl ?_
        refine x_bipush rfl (by decide) ?_
        refine x_cle (t := 104) rfl rfl ⟨by omega, by omega⟩ ⟨by omega, by omega⟩ (fun hb96 => ?_) (fun hb96 => ?_)
        · refine x_return rfl ⟨_, _, rfl, rfl, ?_⟩
          have hse : xskip xlt cs n s = j := by rw [← hsk]; exact xskip_e (fun h => by have h1 := xlt_iff.mp h.2; rw [if_pos ⟨h1.1, h1.2⟩] at hb32; omega)
          rw [hse]
          refine ⟨rfl, ?_, ?_⟩
          · rw [if_neg (by omega), show j - s = min (j - s) 8 by omega]; exact h112
          · exact hfr
        · refine x_aload_n rfl h0 ?_
          refine x_lconst rfl ?_
          refine x_putfield rfl (by decide) h112 (show (4 : Nat) < 7 from by decide) rfl ?_
          refine x_return rfl ⟨_, _, rfl, rfl, ?_⟩
          have hse : xskip xlt cs n s = j := by rw [← hsk]; exact xskip_e (fun h => by have h1 := xlt_iff.mp h.2; rw [if_pos ⟨h1.1, h1.2⟩] at hb32; omega)
          rw [hse]
          refine ⟨rfl, ?_, ?_⟩
          · rw [if_pos (by omega)]; exact xu_eq
          · intro p hp; exact xu_ne hp (hfr p hp)
      · have hlt : 97 ≤ cs.getD j 0 ∧ cs.getD j 0 ≤ 122 := by
          by_cases hx : 97 ≤ cs.getD j 0 ∧ cs.getD j 0 ≤ 122
          · exact hx
          · rw [if_neg hx] at hb32; exact absurd rfl hb32
        refine x_aload_n rfl h0 ?_
        refine x_getfield rfl (by decide) h112 rfl ?_
        refine x_aload_n rfl h0 ?_
        refine x_getfield rfl (by decide) h112 rfl ?_
        refine x_isub rfl ?_
        refine x_bipush rfl (by decide) ?_
        refine x_cge (t := 72) rfl rfl ⟨by omega, by omega⟩ ⟨by omega, by omega⟩ (fun hb46 => ?_) (fun hb46 => ?_)
        · refine x_aload_n rfl h0 ?_
          refine x_dup rfl ?_
          refine x_getfield rfl (by decide) h112 rfl ?_
          refine x_iconst rfl ?_
          refine x_iadd rfl ?_
          refine x_putfield rfl (by decide) h112 (show (3 : Nat) < 7 from by decide) rfl ?_
          refine x_goto (t := 10) rfl rfl ?_
          refine ih (j + 1) _ (by omega) (by omega) (by omega) ?_ ?_ ?_ ?_ ?_
          · exact (xu_ne (by decide) h51)
          · exact (xu_ne (by decide) h52)
          · rw [show min (j + 1 - s) 8 = min (j - s) 8 by omega]; exact xu_eq
          · rw [← xskip_s (by omega) (xlt_iff.mpr (by omega))]; exact hsk
          · intro p hp; exact xu_ne hp (hfr p hp)
        · refine x_aload_n rfl h0 ?_
          refine x_aload_n rfl h0 ?_
          refine x_getfield rfl (by decide) h112 rfl ?_
          refine x_aload_n rfl h0 ?_
          refine x_getfield rfl (by decide) h112 rfl ?_
          refine x_getfield rfl (by decide) h51 rfl ?_
          refine x_aload_n rfl h0 ?_
          refine x_getfield rfl (by decide) h112 rfl ?_
          refine x_caload rfl (by decide) h52 ⟨by omega, by rw [hl]; omega⟩ (by omega) ?_
          rw [Int.toNat_natCast]
          refine x_call [_, _] rfl rfl (show (1 : Nat) ≤ 8 from by decide) (show (3 : Nat) ≤ 3 from by decide) rfl (xs_27 (by omega)) (fun r' f' hP => ?_)
          obtain ⟨rfl, rfl⟩ := hP
          refine x_putfield rfl (by decide) h112 (show (4 : Nat) < 7 from by decide) rfl ?_
          refine x_aload_n rfl h0 ?_
          refine x_dup rfl ?_
          refine x_getfield rfl (by decide) xu_eq rfl ?_
          refine x_iconst rfl ?_
          refine x_iadd rfl ?_
          refine x_putfield rfl (by decide) xu_eq (show (3 : Nat) < 7 from by decide) rfl ?_
          refine x_goto (t := 10) rfl rfl ?_
          refine ih (j + 1) _ (by omega) (by omega) (by omega) ?_ ?_ ?_ ?_ ?_
          · exact (xu_ne (by decide) (xu_ne (by decide) h51))
          · exact (xu_ne (by decide) (xu_ne (by decide) h52))
          · rw [show min (j + 1 - s) 8 = min (j - s) 8 + 1 by omega, xpk, show s + min (j - s) 8 = j by omega]; exact xu_eq
          · rw [← xskip_s (by omega) (xlt_iff.mpr (by omega))]; exact hsk
          · intro p hp; exact xu_ne hp (xu_ne hp (hfr p hp))
theorem xs_28 {v0 : Value} {xs : List Int32} {u : Nat × Nat} {f : Nat → zE} {n : Nat} {cs : List Int} {s : Nat} {ki : Int} {wo : Int64} {di sg : Int} (h51 : f 51 = .inl (1, [.ref 52, xi (n : Nat)])) (h52 : f 52 = xr 1 cs) (hn : n ≤ 100) (hl : cs.length = 100) (hcs : ∀ j : Nat, 0 ≤ cs.getD j 0 ∧ cs.getD j 0 ≤ 126) (hs : s ≤ n) (h112 : f 112 = xtk ki (s : Nat) (s : Nat) wo di sg) : xq v0 xs u 28 [(0, .ref 112)] f (fun r f' => r = none ∧ f' 112 = xtk 1 (s : Nat) (xskip xlt cs n s : Nat) (Int64.ofInt (if xskip xlt cs n s - s > 8 then 0 else xpk cs s (xskip xlt cs n s - s))) di sg ∧ ∀ p, p ≠ 112 → f' p = f p) := by
  unfold xq
  refine x_aload_n rfl rfl ?_
  refine x_iconst rfl ?_
  refine x_putfield rfl (by decide) h112 (show (1 : Nat) < 7 from by decide) rfl ?_
  refine x_aload_n rfl rfl ?_
  refine x_lconst rfl ?_
  refine x_putfield rfl (by decide) xu_eq (show (4 : Nat) < 7 from by decide) rfl ?_
  exact xs_28l hn hl hcs rfl (n - s) s _ (by omega) (Nat.le_refl _) hs (xu_ne (by decide) (xu_ne (by decide) h51)) (xu_ne (by decide) (xu_ne (by decide) h52)) (by rw [Nat.sub_self]; exact xu_eq) rfl (fun p hp => xu_ne hp (xu_ne hp rfl))
theorem xs_29l {v0 : Value} {xs : List Int32} {u : Nat × Nat} {f0 : Nat → zE} {s n : Nat} {cs : List Int} {wo : Int64} {sg : Int} (hn : n ≤ 100) (hl : cs.length = 100) (hcs : ∀ j : Nat, 0 ≤ cs.getD j 0 ∧ cs.getD j 0 ≤ 126) {lv : zL} (h0 : zlv lv 0 = some (.ref 112)) : ∀ (d j : Nat) (f : Nat → zE), d + j = n → s ≤ j → j ≤ n → f 51 = .inl (1, [.ref 52, xi (n : Nat)]) → f 52 = xr 1 cs → f 112 = xtk 2 (s : Nat) (j : Nat) wo (cs.getD s 0 - 48) sg → xskip xdg cs n j = xskip xdg cs n s → (∀ p, p ≠ 112 → f p = f0 p) → xz v0 xs u (fun o X => ∃ r f', o = .inl r ∧ X = (xh f', u) ∧ (fun r f' => r = none ∧ f' 112 = xtk 2 (s : Nat) (xskip xdg cs n s : Nat) wo (if xskip xdg cs n s - s > 1 then -1 else cs.getD s 0 - 48) sg ∧ ∀ p, p ≠ 112 → f' p = f0 p) r f') 29 24 lv [] f := by
  intro d
  induction d with
  | zero =>
    intro j f hd hj hjn h51 h52 h112 hsk hfr
    refine x_aload_n rfl h0 ?_
    refine x_getfield rfl (by decide) h112 rfl ?_
    refine x_aload_n rfl h0 ?_
    refine x_getfield rfl (by decide) h112 rfl ?_
    refine x_getfield rfl (by decide) h51 rfl ?_
    refine x_cge (t := 62) rfl rfl ⟨by omega, by omega⟩ ⟨by omega, by omega⟩ (fun hb35 => ?_) (fun hb35 => ?_)
    · refine x_aload_n rfl h0 ?_
      refine x_getfield rfl (by decide) h112 rfl ?_
      refine x_aload_n rfl h0 ?_
      refine x_getfield rfl (by decide) h112 rfl ?_
      refine x_isub rfl ?_
      refine x_iconst rfl ?_
      refine x_cle (t := 80) rfl rfl ⟨by omega, by omega⟩ ⟨by omega, by omega⟩ (fun hb72 => ?_) (fun hb72 => ?_)
      · refine x_return rfl ⟨_, _, rfl, rfl, ?_⟩
        have hse : xskip xdg cs n s = j := by rw [← hsk]; exact xskip_e (fun h => by have h1 := xdg_iff.mp h.2; omega)
        rw [hse]
        refine ⟨rfl, ?_, ?_⟩
        · rw [if_neg (by omega)]; exact h112
        · exact hfr
      · refine x_aload_n rfl h0 ?_
        refine x_iconst rfl ?_
        refine x_putfield rfl (by decide) h112 (show (5 : Nat) < 7 from by decide) rfl ?_
        refine x_return rfl ⟨_, _, rfl, rfl, ?_⟩
        have hse : xskip xdg cs n s = j := by rw [← hsk]; exact xskip_e (fun h => by have h1 := xdg_iff.mp h.2; omega)
        rw [hse]
        refine ⟨rfl, ?_, ?_⟩
        · rw [if_pos (by omega)]; exact xu_eq
        · intro p hp; exact xu_ne hp (hfr p hp)
    · exfalso; omega
  | succ d ih =>
    intro j f hd hj hjn h51 h52 h112 hsk hfr
    refine x_aload_n rfl h0 ?_
    refine x_getfield rfl (by decide) h112 rfl ?_
    refine x_aload_n rfl h0 ?_
    refine x_getfield rfl (by decide) h112 rfl ?_
    refine x_getfield rfl (by decide) h51 rfl ?_
    refine x_cge (t := 62) rfl rfl ⟨by omega, by omega⟩ ⟨by omega, by omega⟩ (fun hb35 => ?_) (fun hb35 => ?_)
    · refine x_aload_n rfl h0 ?_
      refine x_getfield rfl (by decide) h112 rfl ?_
      refine x_aload_n rfl h0 ?_
      refine x_getfield rfl (by decide) h112 rfl ?_
      refine x_isub rfl ?_
      refine x_iconst rfl ?_
      refine x_cle (t := 80) rfl rfl ⟨by omega, by omega⟩ ⟨by omega, by omega⟩ (fun hb72 => ?_) (fun hb72 => ?_)
      · refine x_return rfl ⟨_, _, rfl, rfl, ?_⟩
        have hse : xskip xdg cs n s = j := by rw [← hsk]; exact xskip_e (fun h => by have h1 := xdg_iff.mp h.2; omega)
        rw [hse]
        refine ⟨rfl, ?_, ?_⟩
        · rw [if_neg (by omega)]; exact h112
        · exact hfr
      · refine x_aload_n rfl h0 ?_
        refine x_iconst rfl ?_
        refine x_putfield rfl (by decide) h112 (show (5 : Nat) < 7 from by decide) rfl ?_
        refine x_return rfl ⟨_, _, rfl, rfl, ?_⟩
        have hse : xskip xdg cs n s = j := by rw [← hsk]; exact xskip_e (fun h => by have h1 := xdg_iff.mp h.2; omega)
        rw [hse]
        refine ⟨rfl, ?_, ?_⟩
        · rw [if_pos (by omega)]; exact xu_eq
        · intro p hp; exact xu_ne hp (hfr p hp)
    · refine x_aload_n rfl h0 ?_
      refine x_bipush rfl (by decide) ?_
      refine x_bipush rfl (by decide) ?_
      refine x_call [_, _, _] rfl rfl (show (0 : Nat) ≤ 8 from by decide) (show (3 : Nat) ≤ 3 from by decide) (x_rcv (by decide) h112) (xs_26 h51 h52 hn hl hcs (p := j) (by omega) (by decide) (by decide) h112) (fun r' f' hP => ?_)
      obtain ⟨rfl, rfl⟩ := hP
      have hc := hcs j
      refine x_ifeq (t := 62) rfl rfl (by split <;> decide) (fun hb46 => ?_) (fun hb46 => ?_)
      · refine x_aload_n rfl h0 ?_
        refine x_getfield rfl (by decide) h112 rfl ?_
        refine x_aload_n rfl h0 ?_
        refine x_getfield rfl (by decide) h112 rfl ?_
        refine x_isub rfl ?_
        refine x_iconst rfl ?_
        refine x_cle (t := 80) rfl rfl ⟨by omega, by omega⟩ ⟨by omega, by omega⟩ (fun hb72 => ?_) (fun hb72 => ?_)
        · refine x_return rfl ⟨_, _, rfl, rfl, ?_⟩
          have hse : xskip xdg cs n s = j := by rw [← hsk]; exact xskip_e (fun h => by have h1 := xdg_iff.mp h.2; rw [if_pos ⟨h1.1, h1.2⟩] at hb46; omega)
          rw [hse]
          refine ⟨rfl, ?_, ?_⟩
          · rw [if_neg (by omega)]; exact h112
          · exact hfr
        · refine x_aload_n rfl h0 ?_
          refine x_iconst rfl ?_
          refine x_putfield rfl (by decide) h112 (show (5 : Nat) < 7 from by decide) rfl ?_
          refine x_return rfl ⟨_, _, rfl, rfl, ?_⟩
          have hse : xskip xdg cs n s = j := by rw [← hsk]; exact xskip_e (fun h => by have h1 := xdg_iff.mp h.2; rw [if_pos ⟨h1.1, h1.2⟩] at hb46; omega)
          rw [hse]
          refine ⟨rfl, ?_, ?_⟩
          · rw [if_pos (by omega)]; exact xu_eq
          · intro p hp; exact xu_ne hp (hfr p hp)
      · have hlt : 48 ≤ cs.getD j 0 ∧ cs.getD j 0 ≤ 57 := by
          by_cases hx : 48 ≤ cs.getD j 0 ∧ cs.getD j 0 ≤ 57
          · exact hx
          · rw [if_neg hx] at hb46; exact absurd rfl hb46
        refine x_aload_n rfl h0 ?_
        refine x_dup rfl ?_
        refine x_getfield rfl (by decide) h112 rfl ?_
        refine x_iconst rfl ?_
        refine x_iadd rfl ?_
        refine x_putfield rfl (by decide) h112 (show (3 : Nat) < 7 from by decide) rfl ?_
        refine x_goto (t := 24) rfl rfl ?_
        refine ih (j + 1) _ (by omega) (by omega) (by omega) ?_ ?_ ?_ ?_ ?_
        · exact (xu_ne (by decide) h51)
        · exact (xu_ne (by decide) h52)
        · exact xu_eq
        · rw [← xskip_s (by omega) (xdg_iff.mpr (by omega))]; exact hsk
        · intro p hp; exact xu_ne hp (hfr p hp)
theorem xs_29 {v0 : Value} {xs : List Int32} {u : Nat × Nat} {f : Nat → zE} {n : Nat} {cs : List Int} {s : Nat} {ki : Int} {wo : Int64} {di sg : Int} (h51 : f 51 = .inl (1, [.ref 52, xi (n : Nat)])) (h52 : f 52 = xr 1 cs) (hn : n ≤ 100) (hl : cs.length = 100) (hcs : ∀ j : Nat, 0 ≤ cs.getD j 0 ∧ cs.getD j 0 ≤ 126) (hs : s < n) (h112 : f 112 = xtk ki (s : Nat) (s : Nat) wo di sg) : xq v0 xs u 29 [(0, .ref 112)] f (fun r f' => r = none ∧ f' 112 = xtk 2 (s : Nat) (xskip xdg cs n s : Nat) wo (if xskip xdg cs n s - s > 1 then -1 else cs.getD s 0 - 48) sg ∧ ∀ p, p ≠ 112 → f' p = f p) := by
  unfold xq
  have hc := hcs s
  refine x_aload_n rfl rfl ?_
  refine x_iconst rfl ?_
  refine x_putfield rfl (by decide) h112 (show (1 : Nat) < 7 from by decide) rfl ?_
  refine x_aload_n rfl rfl ?_
  refine x_aload_n rfl rfl ?_
  refine x_getfield rfl (by decide) xu_eq rfl ?_
  refine x_getfield rfl (by decide) (xu_ne (by decide) h51) rfl ?_
  refine x_aload_n rfl rfl ?_
  refine x_getfield rfl (by decide) xu_eq rfl ?_
  refine x_caload rfl (by decide) (xu_ne (by decide) h52) ⟨by omega, by rw [hl]; omega⟩ (by omega) ?_
  rw [Int.toNat_natCast]
  refine x_bipush rfl (by decide) ?_
  refine x_isub rfl ?_
  refine x_putfield rfl (by decide) xu_eq (show (5 : Nat) < 7 from by decide) rfl ?_
  exact xs_29l hn hl hcs rfl (n - s) s _ (by omega) (Nat.le_refl _) (by omega) (xu_ne (by decide) (xu_ne (by decide) h51)) (xu_ne (by decide) (xu_ne (by decide) h52)) xu_eq rfl (fun p hp => xu_ne hp (xu_ne hp rfl))
theorem xs_30l {v0 : Value} {xs : List Int32} {u : Nat × Nat} {f0 : Nat → zE} {p0 n : Nat} {cs : List Int} {ki en di sg : Int} {wo : Int64} (hn : n ≤ 100) (hl : cs.length = 100) (hcs : ∀ j : Nat, 0 ≤ cs.getD j 0 ∧ cs.getD j 0 ≤ 126) {lv : zL} (h0 : zlv lv 0 = some (.ref 112)) : ∀ (d j : Nat) (f : Nat → zE), d + j = n → j ≤ n → f 51 = .inl (1, [.ref 52, xi (n : Nat)]) → f 52 = xr 1 cs → f 112 = xtk ki (j : Nat) en wo di sg → xskip xbl cs n j = xskip xbl cs n p0 → (∀ p, p ≠ 112 → f p = f0 p) → xz v0 xs u (fun o X => ∃ r f', o = .inl r ∧ X = (xh f', u) ∧ (fun r f' => r = none ∧ (∃ (ki : Int) (s e : Nat) (wo : Int64) (di sg : Int), f' 112 = xtk ki (s : Nat) (e : Nat) wo di sg ∧ xTK cs n p0 ki s e ∧ xTC cs ki s e wo di sg) ∧ ∀ p, p ≠ 112 → f' p = f0 p) r f') 30 8 lv [] f := by
  intro d
  induction d with
  | zero =>
    intro j f hd hjn h51 h52 h112 hsk hfr
    refine x_aload_n rfl h0 ?_
    refine x_getfield rfl (by decide) h112 rfl ?_
    refine x_aload_n rfl h0 ?_
    refine x_getfield rfl (by decide) h112 rfl ?_
    refine x_getfield rfl (by decide) h51 rfl ?_
    refine x_cge (t := 52) rfl rfl ⟨by omega, by omega⟩ ⟨by omega, by omega⟩ (fun hb19 => ?_) (fun hb19 => ?_)
    · have hse : xskip xbl cs n p0 = j := by rw [← hsk]; exact xskip_e (fun h => by have h1 := xbl_iff.mp h.2; omega)
      refine x_aload_n rfl h0 ?_
      refine x_aload_n rfl h0 ?_
      refine x_getfield rfl (by decide) h112 rfl ?_
      refine x_putfield rfl (by decide) h112 (show (3 : Nat) < 7 from by decide) rfl ?_
      refine x_aload_n rfl h0 ?_
      refine x_getfield rfl (by decide) xu_eq rfl ?_
      refine x_aload_n rfl h0 ?_
      refine x_getfield rfl (by decide) xu_eq rfl ?_
      refine x_getfield rfl (by decide) (xu_ne (by decide) h51) rfl ?_
      refine x_cne (t := 82) rfl rfl ⟨by omega, by omega⟩ ⟨by omega, by omega⟩ (fun hb71 => ?_) (fun hb71 => ?_)
      · exfalso; omega
      · refine x_aload_n rfl h0 ?_
        refine x_iconst rfl ?_
        refine x_putfield rfl (by decide) xu_eq (show (1 : Nat) < 7 from by decide) rfl ?_
        refine x_goto (t := 149) rfl rfl ?_
        refine x_return rfl ⟨_, _, rfl, rfl, ?_⟩
        exact ⟨rfl, ⟨0, j, j, wo, di, sg, xu_eq, ⟨hse.symm, Or.inl ⟨by omega, rfl, by omega⟩⟩, ⟨fun h => absurd h (by decide), fun h => absurd h (by decide), fun h => absurd h (by decide)⟩⟩, fun p hp => xu_ne hp (xu_ne hp (hfr p hp))⟩
    · exfalso; omega
  | succ d ih =>
    intro j f hd hjn h51 h52 h112 hsk hfr
    refine x_aload_n rfl h0 ?_
    refine x_getfield rfl (by decide) h112 rfl ?_
    refine x_aload_n rfl h0 ?_
    refine x_getfield rfl (by decide) h112 rfl ?_
    refine x_getfield rfl (by decide) h51 rfl ?_
    refine x_cge (t := 52) rfl rfl ⟨by omega, by omega⟩ ⟨by omega, by omega⟩ (fun hb19 => ?_) (fun hb19 => ?_)
    · have hse : xskip xbl cs n p0 = j := by rw [← hsk]; exact xskip_e (fun h => by have h1 := xbl_iff.mp h.2; omega)
      refine x_aload_n rfl h0 ?_
      refine x_aload_n rfl h0 ?_
      refine x_getfield rfl (by decide) h112 rfl ?_
      refine x_putfield rfl (by decide) h112 (show (3 : Nat) < 7 from by decide) rfl ?_
      refine x_aload_n rfl h0 ?_
      refine x_getfield rfl (by decide) xu_eq rfl ?_
      refine x_aload_n rfl h0 ?_
      refine x_getfield rfl (by decide) xu_eq rfl ?_
      refine x_getfield rfl (by decide) (xu_ne (by decide) h51) rfl ?_
      refine x_cne (t := 82) rfl rfl ⟨by omega, by omega⟩ ⟨by omega, by omega⟩ (fun hb71 => ?_) (fun hb71 => ?_)
      · exfalso; omega
      · refine x_aload_n rfl h0 ?_
        refine x_iconst rfl ?_
        refine x_putfield rfl (by decide) xu_eq (show (1 : Nat) < 7 from by decide) rfl ?_
        refine x_goto (t := 149) rfl rfl ?_
        refine x_return rfl ⟨_, _, rfl, rfl, ?_⟩
        exact ⟨rfl, ⟨0, j, j, wo, di, sg, xu_eq, ⟨hse.symm, Or.inl ⟨by omega, rfl, by omega⟩⟩, ⟨fun h => absurd h (by decide), fun h => absurd h (by decide), fun h => absurd h (by decide)⟩⟩, fun p hp => xu_ne hp (xu_ne hp (hfr p hp))⟩
    · refine x_aload_n rfl h0 ?_
      refine x_getfield rfl (by decide) h112 rfl ?_
      refine x_getfield rfl (by decide) h51 rfl ?_
      refine x_aload_n rfl h0 ?_
      refine x_getfield rfl (by decide) h112 rfl ?_
      refine x_caload rfl (by decide) h52 ⟨by omega, by rw [hl]; omega⟩ (by omega) ?_
      rw [Int.toNat_natCast]
      have hc0 := hcs j
      refine x_bipush rfl (by decide) ?_
      refine x_cne (t := 52) rfl rfl ⟨by omega, by omega⟩ ⟨by omega, by omega⟩ (fun hb36 => ?_) (fun hb36 => ?_)
      · have hse : xskip xbl cs n p0 = j := by rw [← hsk]; exact xskip_e (fun h => by have h1 := xbl_iff.mp h.2; exact hb36 h1)
        refine x_aload_n rfl h0 ?_
        refine x_aload_n rfl h0 ?_
        refine x_getfield rfl (by decide) h112 rfl ?_
        refine x_putfield rfl (by decide) h112 (show (3 : Nat) < 7 from by decide) rfl ?_
        refine x_aload_n rfl h0 ?_
        refine x_getfield rfl (by decide) xu_eq rfl ?_
        refine x_aload_n rfl h0 ?_
        refine x_getfield rfl (by decide) xu_eq rfl ?_
        refine x_getfield rfl (by decide) (xu_ne (by decide) h51) rfl ?_
        refine x_cne (t := 82) rfl rfl ⟨by omega, by omega⟩ ⟨by omega, by omega⟩ (fun hb71 => ?_) (fun hb71 => ?_)
        · refine x_aload_n rfl h0 ?_
          refine x_bipush rfl (by decide) ?_
          refine x_bipush rfl (by decide) ?_
          refine x_call [_, _, _] rfl rfl (show (0 : Nat) ≤ 8 from by decide) (show (3 : Nat) ≤ 3 from by decide) (x_rcv (by decide) xu_eq) (xs_26 (xu_ne (by decide) h51) (xu_ne (by decide) h52) hn hl hcs (p := j) (by omega) (by decide) (by decide) xu_eq) (fun r' f' hP => ?_)
          obtain ⟨rfl, rfl⟩ := hP
          have hc := hcs j
          refine x_ifeq (t := 100) rfl rfl (by split <;> decide) (fun hb90 => ?_) (fun hb90 => ?_)
          · have hnl : xlt (cs.getD j 0) = false := by
              cases hx : xlt (cs.getD j 0) with
              | false => rfl
              | true => rw [if_pos (xlt_iff.mp hx)] at hb90; exact absurd hb90 (by decide)
            refine x_aload_n rfl h0 ?_
            refine x_bipush rfl (by decide) ?_
            refine x_bipush rfl (by decide) ?_
            refine x_call [_, _, _] rfl rfl (show (0 : Nat) ≤ 8 from by decide) (show (3 : Nat) ≤ 3 from by decide) (x_rcv (by decide) xu_eq) (xs_26 (xu_ne (by decide) h51) (xu_ne (by decide) h52) hn hl hcs (p := j) (by omega) (by decide) (by decide) xu_eq) (fun r' f' hP => ?_)
            obtain ⟨rfl, rfl⟩ := hP
            refine x_ifeq (t := 118) rfl rfl (by split <;> decide) (fun hb108 => ?_) (fun hb108 => ?_)
            · have hnd : xdg (cs.getD j 0) = false := by
                cases hx : xdg (cs.getD j 0) with
                | false => rfl
                | true => rw [if_pos (xdg_iff.mp hx)] at hb108; exact absurd hb108 (by decide)
              refine x_aload_n rfl h0 ?_
              refine x_iconst rfl ?_
              refine x_putfield rfl (by decide) xu_eq (show (1 : Nat) < 7 from by decide) rfl ?_
              refine x_aload_n rfl h0 ?_
              refine x_aload_n rfl h0 ?_
              refine x_getfield rfl (by decide) xu_eq rfl ?_
              refine x_getfield rfl (by decide) (xu_ne (by decide) (xu_ne (by decide) h51)) rfl ?_
              refine x_aload_n rfl h0 ?_
              refine x_getfield rfl (by decide) xu_eq rfl ?_
              refine x_caload rfl (by decide) (xu_ne (by decide) (xu_ne (by decide) h52)) ⟨by omega, by rw [hl]; omega⟩ (by omega) ?_
              rw [Int.toNat_natCast]
              refine x_putfield rfl (by decide) xu_eq (show (6 : Nat) < 7 from by decide) (by simp only [zfit, decide_eq_true_eq]; exact x_char (by omega) (by omega)) ?_
              refine x_aload_n rfl h0 ?_
              refine x_dup rfl ?_
              refine x_getfield rfl (by decide) xu_eq rfl ?_
              refine x_iconst rfl ?_
              refine x_iadd rfl ?_
              refine x_putfield rfl (by decide) xu_eq (show (3 : Nat) < 7 from by decide) rfl ?_
              refine x_return rfl ⟨_, _, rfl, rfl, ?_⟩
              exact ⟨rfl, ⟨3, j, j + 1, wo, di, cs.getD j 0, xu_eq, ⟨hse.symm, Or.inr (Or.inr (Or.inr ⟨by omega, hnl, hnd, rfl, rfl⟩))⟩, ⟨fun h => absurd h (by decide), fun h => absurd h (by decide), fun _ => rfl⟩⟩, fun p hp => xu_ne hp (xu_ne hp (xu_ne hp (xu_ne hp (hfr p hp))))⟩
            · have hdg : 48 ≤ cs.getD j 0 ∧ cs.getD j 0 ≤ 57 := by
                by_cases hx : 48 ≤ cs.getD j 0 ∧ cs.getD j 0 ≤ 57
                · exact hx
                · rw [if_neg hx] at hb108; exact absurd rfl hb108
              refine x_aload_n rfl h0 ?_
              refine x_call [_] rfl rfl (show (0 : Nat) ≤ 8 from by decide) (show (1 : Nat) ≤ 1 from by decide) (x_rcv (by decide) xu_eq) (xs_29 (xu_ne (by decide) h51) (xu_ne (by decide) h52) hn hl hcs (s := j) (by omega) xu_eq) (fun r' f' hP => ?_)
              obtain ⟨rfl, hw1, hw2⟩ := hP
              refine x_goto (t := 149) rfl rfl ?_
              refine x_return rfl ⟨_, _, rfl, rfl, ?_⟩
              exact ⟨rfl, ⟨2, j, _, wo, _, sg, hw1, ⟨hse.symm, Or.inr (Or.inr (Or.inl ⟨by omega, hnl, xdg_iff.mpr hdg, rfl, rfl⟩))⟩, ⟨fun h => absurd h (by decide), fun _ => rfl, fun h => absurd h (by decide)⟩⟩, fun p hp => (hw2 p hp).trans (xu_ne hp (hfr p hp))⟩
          · have hlt : 97 ≤ cs.getD j 0 ∧ cs.getD j 0 ≤ 122 := by
              by_cases hx : 97 ≤ cs.getD j 0 ∧ cs.getD j 0 ≤ 122
              · exact hx
              · rw [if_neg hx] at hb90; exact absurd rfl hb90
            refine x_aload_n rfl h0 ?_
            refine x_call [_] rfl rfl (show (0 : Nat) ≤ 8 from by decide) (show (1 : Nat) ≤ 1 from by decide) (x_rcv (by decide) xu_eq) (xs_28 (xu_ne (by decide) h51) (xu_ne (by decide) h52) hn hl hcs (s := j) (by omega) xu_eq) (fun r' f' hP => ?_)
            obtain ⟨rfl, hw1, hw2⟩ := hP
            refine x_goto (t := 149) rfl rfl ?_
            refine x_return rfl ⟨_, _, rfl, rfl, ?_⟩
            exact ⟨rfl, ⟨1, j, _, _, di, sg, hw1, ⟨hse.symm, Or.inr (Or.inl ⟨by omega, xlt_iff.mpr hlt, rfl, rfl⟩)⟩, ⟨fun _ => rfl, fun h => absurd h (by decide), fun h => absurd h (by decide)⟩⟩, fun p hp => (hw2 p hp).trans (xu_ne hp (hfr p hp))⟩
        · exfalso; omega
      · refine x_aload_n rfl h0 ?_
        refine x_dup rfl ?_
        refine x_getfield rfl (by decide) h112 rfl ?_
        refine x_iconst rfl ?_
        refine x_iadd rfl ?_
        refine x_putfield rfl (by decide) h112 (show (2 : Nat) < 7 from by decide) rfl ?_
        refine x_goto (t := 8) rfl rfl ?_
        refine ih (j + 1) _ (by omega) (by omega) ?_ ?_ ?_ ?_ ?_
        · exact (xu_ne (by decide) h51)
        · exact (xu_ne (by decide) h52)
        · exact xu_eq
        · rw [← xskip_s (by omega) (xbl_iff.mpr hb36)]; exact hsk
        · intro p hp; exact xu_ne hp (hfr p hp)
theorem xs_30 {v0 : Value} {xs : List Int32} {u : Nat × Nat} {f : Nat → zE} {n : Nat} {cs : List Int} {p0 : Nat} {ki st : Int} {wo : Int64} {di sg : Int} (h51 : f 51 = .inl (1, [.ref 52, xi (n : Nat)])) (h52 : f 52 = xr 1 cs) (hn : n ≤ 100) (hl : cs.length = 100) (hcs : ∀ j : Nat, 0 ≤ cs.getD j 0 ∧ cs.getD j 0 ≤ 126) (hp0 : p0 ≤ n) (h112 : f 112 = xtk ki st (p0 : Nat) wo di sg) : xq v0 xs u 30 [(0, .ref 112)] f (fun r f' => r = none ∧ (∃ (ki : Int) (s e : Nat) (wo : Int64) (di sg : Int), f' 112 = xtk ki (s : Nat) (e : Nat) wo di sg ∧ xTK cs n p0 ki s e ∧ xTC cs ki s e wo di sg) ∧ ∀ p, p ≠ 112 → f' p = f p) := by
  unfold xq
  refine x_aload_n rfl rfl ?_
  refine x_aload_n rfl rfl ?_
  refine x_getfield rfl (by decide) h112 rfl ?_
  refine x_putfield rfl (by decide) h112 (show (2 : Nat) < 7 from by decide) rfl ?_
  exact xs_30l hn hl hcs rfl (n - p0) p0 _ (by omega) hp0 (xu_ne (by decide) h51) (xu_ne (by decide) h52) xu_eq rfl (fun p hp => xu_ne hp rfl)
theorem xs_41 {v0 : Value} {xs : List Int32} {u : Nat × Nat} {f : Nat → zE} {ki st en : Int} {wo : Int64} {di sg w : Int} (hk : 0 ≤ ki ∧ ki ≤ 9) (hs : ki = 3 → 0 ≤ sg ∧ sg ≤ 65535) (hw : 0 ≤ w ∧ w ≤ 65535) (h112 : f 112 = xtk ki st en wo di sg) : xq v0 xs u 41 [(0, .ref 112), (1, xi w)] f (fun r f' => r = some (xi (if ki = 3 ∧ sg = w then 1 else 0)) ∧ f' = f) := by
  unfold xq
  refine x_aload_n rfl rfl ?_
  refine x_getfield rfl (by decide) h112 rfl ?_
  refine x_iconst rfl ?_
  refine x_cne (t := 20) rfl rfl ⟨by omega, by omega⟩ ⟨by omega, by omega⟩ (fun hb5 => ?_) (fun hb5 => ?_)
  · refine x_iconst rfl ?_
    refine x_ireturn rfl (Or.inr (Or.inl ⟨rfl, by decide⟩)) ⟨_, _, rfl, rfl, ?_⟩
    exact ⟨by rw [if_neg (by omega)], rfl⟩
  · refine x_aload_n rfl rfl ?_
    refine x_getfield rfl (by decide) h112 rfl ?_
    have hs := hs (by omega)
    refine x_iload_n rfl rfl ?_
    refine x_cne (t := 20) rfl rfl ⟨by omega, by omega⟩ ⟨by omega, by omega⟩ (fun hb13 => ?_) (fun hb13 => ?_)
    · refine x_iconst rfl ?_
      refine x_ireturn rfl (Or.inr (Or.inl ⟨rfl, by decide⟩)) ⟨_, _, rfl, rfl, ?_⟩
      exact ⟨by rw [if_neg (by omega)], rfl⟩
    · refine x_iconst rfl ?_
      refine x_goto (t := 21) rfl rfl ?_
      refine x_ireturn rfl (Or.inr (Or.inl ⟨rfl, by decide⟩)) ⟨_, _, rfl, rfl, ?_⟩
      exact ⟨by rw [if_pos (by omega)], rfl⟩
end
section
/-! The given texts; the words. -/
def zi5 : List Int := [97, 108, 108, 32, 108, 101, 97, 100, 115, 32, 102, 111, 108, 108, 111, 119, 115, 32, 104, 101, 97, 100, 115, 32, 115, 105, 100, 101, 115, 32, 110, 111, 114, 116, 104, 32, 101, 97, 115, 116, 32, 115, 111, 117, 116, 104, 32, 119, 101, 115, 116, 32, 99, 101, 110, 116, 114, 101, 115, 32, 101, 110, 100, 115, 32, 102, 114, 111, 110, 116, 32, 114, 101, 97, 114]
def zi6 : List Int := [115, 116, 97, 121, 32, 102, 119, 100, 32, 98, 97, 99, 107, 32, 108, 101, 102, 116, 32, 114, 105, 103, 104, 116, 32, 116, 108, 32, 116, 114]
theorem zi5_eq : zg5 = zi5.map Int32.ofInt := by decide +kernel
theorem zi6_eq : zg6 = zi6.map Int32.ofInt := by decide +kernel
/-- the two texts, by the place of the object: its bytes' place, its characters -/
def xgt (p : Nat) : Nat × List Int := if p = 5 then (7, zi5) else (8, zi6)
theorem xgt_o {xs : List Int32} {p : Nat} (h : p = 5 ∨ p = 6) : (zG xs)[p]? = some (.inl (99, [.ref (xgt p).1, xi 0])) := by
  rcases h with rfl | rfl <;> rfl
theorem xgt_b {xs : List Int32} {p : Nat} (h : p = 5 ∨ p = 6) : (zG xs)[(xgt p).1]? = some (.inr (.inl (3, (xgt p).2.map Int32.ofInt))) := by
  rcases h with rfl | rfl
  · show some (Sum.inr (Sum.inl (3, zg5)) : zE) = _
    rw [zi5_eq]
    rfl
  · show some (Sum.inr (Sum.inl (3, zg6)) : zE) = _
    rw [zi6_eq]
    rfl
theorem xgt_p {p : Nat} (h : p = 5 ∨ p = 6) : (xgt p).1 < 50 := by
  rcases h with rfl | rfl <;> decide
theorem xgt_l {p : Nat} (h : p = 5 ∨ p = 6) : (xgt p).2.length ≤ 75 := by
  rcases h with rfl | rfl <;> decide
theorem xgt_c {p : Nat} (h : p = 5 ∨ p = 6) : ∀ j : Nat, 0 ≤ (xgt p).2.getD j 0 ∧ (xgt p).2.getD j 0 ≤ 122 := by
  have key : ∀ l : List Int, (l.all fun c => decide (0 ≤ c) && decide (c ≤ 122)) = true → ∀ j : Nat, 0 ≤ l.getD j 0 ∧ l.getD j 0 ≤ 122 := by
    intro l hl j
    rw [List.getD_eq_getElem?_getD]
    cases hj : l[j]? with
    | none => exact ⟨by decide, by decide⟩
    | some c =>
      have := List.all_eq_true.mp hl c (List.mem_of_getElem? hj)
      simpa using this
  rcases h with rfl | rfl
  · exact key _ (by decide +kernel)
  · exact key _ (by decide +kernel)
section xG
variable {v0 : Value} {xs : List Int32} {u : Nat × Nat} {Q : zO → zX → Prop} {mi pc : Nat} {lv : zL} {st : List Value} {f : Nat → zE} {a b c : Nat} {v w : Value} {r : List Value} {x y z : Int}
theorem x_getfieldG {n p : Nat} {fs : List Value} (hc : zcd (zt v0) mi pc = some (.getfield n, a, b, c, v)) (hp : p < 50) (h : (zG xs)[p]? = some (.inl (a, fs))) (hw : fs[b]? = some w) (k : xz v0 xs u Q mi (pc + 3) lv (w :: r) f) : xz v0 xs u Q mi pc lv (.ref p :: r) f := by
  refine x_b (q := (3, w :: r)) hc ?_ k
  simp only [zb, zrd]
  rw [if_pos hp]
  simp only [h, if_true, hw]
theorem x_lenG {p kd : Nat} {l : List Int} (hc : zcd (zt v0) mi pc = some (.arraylength, a, b, c, v)) (hp : p < 50) (h : (zG xs)[p]? = some (.inr (.inl (kd, l.map Int32.ofInt)))) (k : xz v0 xs u Q mi (pc + 1) lv (xi l.length :: r) f) : xz v0 xs u Q mi pc lv (.ref p :: r) f := by
  refine x_b (q := (1, xi l.length :: r)) hc ?_ k
  simp only [zb, zrd]
  rw [if_pos hp]
  simp only [h]
  rw [if_pos (Or.inl hp), List.length_map]
  rfl
theorem x_baloadG {p : Nat} {l : List Int} (hc : zcd (zt v0) mi pc = some (.baload, a, b, c, v)) (hp : p < 50) (h : (zG xs)[p]? = some (.inr (.inl (3, l.map Int32.ofInt)))) (hz : 0 ≤ z ∧ z < l.length) (hl : l.length ≤ 5000) (k : xz v0 xs u Q mi (pc + 1) lv (xi (l.getD z.toNat 0) :: r) f) : xz v0 xs u Q mi pc lv (xi z :: .ref p :: r) f := by
  refine x_b (q := (1, xi (l.getD z.toNat 0) :: r)) hc ?_ k
  simp only [zb, zrd]
  rw [if_pos hp]
  simp only [h]
  rw [if_pos ⟨hp, xin hz.1 (by rw [List.length_map]; exact hz.2) (by rw [List.length_map]; omega)⟩, x_getD hz.1 (by omega)]
theorem x_rcvG {ci p : Nat} {fs as : List Value} (hp : p < 50) (h : (zG xs)[p]? = some (.inl (ci, fs))) : zrcv (zG xs) (xh f, u) (.ref ci) ((.ref p : Value) :: as) = true := by
  unfold zrcv zrd
  simp only [if_pos hp, h, decide_true]
theorem x_getstaticI {n : Nat} {g : Int32} (hc : zcd (zt v0) mi pc = some (.getstatic n, a, b, c, .int g)) (hg : g = Int32.ofInt x) (k : xz v0 xs u Q mi (pc + 3) lv (xi x :: st) f) : xz v0 xs u Q mi pc lv st f := x_f (q := (pc + 3, lv, xi x :: st)) hc (by simp only [za, hg]) k
theorem x_ishr0 (hc : zcd (zt v0) mi pc = some (.ishr, a, b, c, v)) (k : xz v0 xs u Q mi (pc + 1) lv (xi x :: r) f) : xz v0 xs u Q mi pc lv (xi 0 :: xi x :: r) f := by
  refine x_f (q := (pc + 1, lv, xi x :: r)) hc ?_ k
  have e : Int32.ofInt x >>> (Int32.ofInt 0 &&& 31) = Int32.ofInt x := by
    rw [show (Int32.ofInt 0 &&& 31) = (0 : Int32) by decide, Int32.shiftRight_zero]
  simp only [za, zo2, e]
theorem x_iand255 (hc : zcd (zt v0) mi pc = some (.iand, a, b, c, v)) (hx : 0 ≤ x ∧ x ≤ 255) (k : xz v0 xs u Q mi (pc + 1) lv (xi x :: r) f) : xz v0 xs u Q mi pc lv (xi 255 :: xi x :: r) f := by
  refine x_iand hc ?_
  have e : Int32.ofInt x &&& Int32.ofInt 255 = Int32.ofInt x := by
    obtain ⟨n, rfl⟩ := Int.eq_ofNat_of_zero_le hx.1
    have hn : n < 256 := by omega
    have key : ∀ m : Nat, m < 256 → Int32.ofInt (m : Nat) &&& Int32.ofInt 255 = Int32.ofInt (m : Nat) := by decide +kernel
    exact key n hn
  rw [e]
  exact k
end xG
theorem xs_32 {v0 : Value} {xs : List Int32} {u : Nat × Nat} {f : Nat → zE} {p : Nat} (hp : p = 5 ∨ p = 6) : xq v0 xs u 32 [(0, .ref p)] f (fun r f' => r = some (xi 0) ∧ f' = f) := by
  unfold xq
  refine x_getstaticI (x := 1) rfl rfl ?_
  refine x_ifeq (t := 13) rfl rfl (by decide) (fun h => absurd h (by decide)) (fun _ => ?_)
  refine x_aload_n rfl rfl ?_
  refine x_getfieldG rfl (by omega) (xgt_o hp) rfl ?_
  refine x_goto (t := 14) rfl rfl ?_
  exact x_ireturn rfl (Or.inr (Or.inr (Or.inr ⟨rfl, by decide⟩))) ⟨_, _, rfl, rfl, rfl, rfl⟩
theorem xs_33 {v0 : Value} {xs : List Int32} {u : Nat × Nat} {f : Nat → zE} {p : Nat} (hp : p = 5 ∨ p = 6) : xq v0 xs u 33 [(0, .ref p)] f (fun r f' => r = some (xi (xgt p).2.length) ∧ f' = f) := by
  unfold xq
  refine x_aload_n rfl rfl ?_
  refine x_getfieldG rfl (by omega) (xgt_o hp) rfl ?_
  refine x_lenG rfl (xgt_p hp) (xgt_b hp) ?_
  refine x_aload_n rfl rfl ?_
  refine x_call [_] rfl rfl (show (1 : Nat) ≤ 8 from by decide) (show (1 : Nat) ≤ 1 from by decide) (x_rcvG (by omega) (xgt_o hp)) (xs_32 hp) (fun r' f' hP => ?_)
  obtain ⟨rfl, rfl⟩ := hP
  refine x_ishr0 rfl ?_
  exact x_ireturn rfl (Or.inl rfl) ⟨_, _, rfl, rfl, rfl, rfl⟩
theorem xs_34 {v0 : Value} {xs : List Int32} {u : Nat × Nat} {f : Nat → zE} {p : Nat} (hp : p = 5 ∨ p = 6) : xq v0 xs u 34 [(0, .ref p)] f (fun r f' => r = some (xi 1) ∧ f' = f) := by
  unfold xq
  refine x_getstaticI (x := 1) rfl rfl ?_
  refine x_ifeq (t := 17) rfl rfl (by decide) (fun h => absurd h (by decide)) (fun _ => ?_)
  refine x_aload_n rfl rfl ?_
  refine x_getfieldG rfl (by omega) (xgt_o hp) rfl ?_
  refine x_ifne (t := 17) rfl rfl (by decide) (fun h => absurd rfl h) (fun _ => ?_)
  refine x_iconst rfl ?_
  refine x_goto (t := 18) rfl rfl ?_
  exact x_ireturn rfl (Or.inr (Or.inl ⟨rfl, by decide⟩)) ⟨_, _, rfl, rfl, rfl, rfl⟩
theorem xs_35 {v0 : Value} {xs : List Int32} {u : Nat × Nat} {f : Nat → zE} {i n : Int} {w : Value} (hi : 0 ≤ i ∧ i < n) (hn : n ≤ 5000) : xq v0 xs u 35 [(0, xi i), (1, xi n), (2, w)] f (fun r f' => r = some (xi i) ∧ f' = f) := by
  unfold xq
  refine x_iload_n rfl rfl ?_
  refine x_iflt (t := 9) rfl rfl ⟨by omega, by omega⟩ (fun h => by omega) (fun _ => ?_)
  refine x_iload_n rfl rfl ?_
  refine x_iload_n rfl rfl ?_
  refine x_clt (t := 16) rfl rfl ⟨by omega, by omega⟩ ⟨by omega, by omega⟩ (fun _ => ?_) (fun h => by omega)
  refine x_iload_n rfl rfl ?_
  exact x_ireturn rfl (Or.inl rfl) ⟨_, _, rfl, rfl, rfl, rfl⟩
theorem xs_36 {v0 : Value} {xs : List Int32} {u : Nat × Nat} {f : Nat → zE} {i n : Int} (hv : v0 = .null ∨ v0 = .ref 49) (hi : 0 ≤ i ∧ i < n) (hn : n ≤ 5000) : xq v0 xs u 36 [(0, xi i), (1, xi n)] f (fun r f' => r = none ∧ f' = f) := by
  unfold xq
  refine x_iload_n rfl rfl ?_
  refine x_iload_n rfl rfl ?_
  rcases hv with rfl | rfl
  · refine x_f (q := (5, _, .null :: _)) rfl rfl ?_
    refine x_call [_, _, _] rfl rfl (show (0 : Nat) ≤ 8 from by decide) (show (3 : Nat) ≤ 3 from by decide) rfl (xs_35 hi hn) (fun r' f' hP => ?_)
    obtain ⟨rfl, rfl⟩ := hP
    refine x_pop rfl ?_
    exact x_return rfl ⟨_, _, rfl, rfl, rfl, rfl⟩
  · refine x_f (q := (5, _, .ref 49 :: _)) rfl rfl ?_
    refine x_call [_, _, _] rfl rfl (show (0 : Nat) ≤ 8 from by decide) (show (3 : Nat) ≤ 3 from by decide) rfl (xs_35 hi hn) (fun r' f' hP => ?_)
    obtain ⟨rfl, rfl⟩ := hP
    refine x_pop rfl ?_
    exact x_return rfl ⟨_, _, rfl, rfl, rfl, rfl⟩
theorem xs_37 {v0 : Value} {xs : List Int32} {u : Nat × Nat} {f : Nat → zE} {p : Nat} {i : Int} (hv : v0 = .null ∨ v0 = .ref 49) (hp : p = 5 ∨ p = 6) (hi : 0 ≤ i ∧ i < (xgt p).2.length) : xq v0 xs u 37 [(0, .ref (xgt p).1), (1, xi i)] f (fun r f' => r = some (xi ((xgt p).2.getD i.toNat 0)) ∧ f' = f) := by
  unfold xq
  have hl := xgt_l hp
  have hc := xgt_c hp i.toNat
  refine x_iload_n rfl rfl ?_
  refine x_aload_n rfl rfl ?_
  refine x_lenG rfl (xgt_p hp) (xgt_b hp) ?_
  refine x_call [_, _] rfl rfl (show (0 : Nat) ≤ 8 from by decide) (show (2 : Nat) ≤ 2 from by decide) rfl (xs_36 hv hi (by omega)) (fun r' f' hP => ?_)
  obtain ⟨rfl, rfl⟩ := hP
  refine x_aload_n rfl rfl ?_
  refine x_iload_n rfl rfl ?_
  refine x_baloadG rfl (xgt_p hp) (xgt_b hp) hi (by omega) ?_
  refine x_sipush rfl (by decide) ?_
  refine x_iand255 rfl ⟨by omega, by omega⟩ ?_
  refine x_i2c rfl ⟨by omega, by omega⟩ ?_
  exact x_ireturn rfl (Or.inr (Or.inr (Or.inl ⟨rfl, x_char (by omega) (by omega)⟩))) ⟨_, _, rfl, rfl, rfl, rfl⟩
theorem xs_38 {v0 : Value} {xs : List Int32} {u : Nat × Nat} {f : Nat → zE} {p : Nat} {i : Int} (hv : v0 = .null ∨ v0 = .ref 49) (hp : p = 5 ∨ p = 6) (hi : 0 ≤ i ∧ i < (xgt p).2.length) : xq v0 xs u 38 [(0, .ref p), (1, xi i)] f (fun r f' => r = some (xi ((xgt p).2.getD i.toNat 0)) ∧ f' = f) := by
  unfold xq
  have hc := xgt_c hp i.toNat
  refine x_aload_n rfl rfl ?_
  refine x_call [_] rfl rfl (show (0 : Nat) ≤ 8 from by decide) (show (1 : Nat) ≤ 1 from by decide) (x_rcvG (by omega) (xgt_o hp)) (xs_34 hp) (fun r' f' hP => ?_)
  obtain ⟨rfl, rfl⟩ := hP
  refine x_ifeq (t := 16) rfl rfl (by decide) (fun h => absurd h (by decide)) (fun _ => ?_)
  refine x_aload_n rfl rfl ?_
  refine x_getfieldG rfl (by omega) (xgt_o hp) rfl ?_
  refine x_iload_n rfl rfl ?_
  refine x_call [_, _] rfl rfl (show (0 : Nat) ≤ 8 from by decide) (show (2 : Nat) ≤ 2 from by decide) rfl (xs_37 hv hp hi) (fun r' f' hP => ?_)
  obtain ⟨rfl, rfl⟩ := hP
  exact x_ireturn rfl (Or.inr (Or.inr (Or.inl ⟨rfl, x_char (by omega) (by omega)⟩))) ⟨_, _, rfl, rfl, rfl, rfl⟩
/-- which of the words of a text a packed word is -/
def xix (zs : List Int) (W : Int64) : Nat → Nat → Int → Int → Int
  | 0, _, ix, rd => if Int64.ofInt rd = W then ix else -1
  | d + 1, i, ix, rd => if zs.getD i 0 = 32 then (if Int64.ofInt rd = W then ix else xix zs W d (i + 1) (ix + 1) 0) else xix zs W d (i + 1) ix (32 * rd + (zs.getD i 0 - 96))
theorem xs_39l {v0 : Value} {xs : List Int32} {u : Nat × Nat} {f : Nat → zE} {p : Nat} {ki st en : Int} {wo : Int64} {di sg : Int} (hv : v0 = .null ∨ v0 = .ref 49) (hp : p = 5 ∨ p = 6) (h112 : f 112 = xtk ki st en wo di sg) : ∀ (d i : Nat) (ix rd : Int) (lv : zL), d + i = (xgt p).2.length → 0 ≤ ix → ix ≤ i → zlv lv 0 = some (.ref 112) → zlv lv 1 = some (.ref p) → zlv lv 2 = some (xi ix) → zlv lv 3 = some (.long (Int64.ofInt rd)) → zlv lv 5 = some (xi (i : Nat)) → xz v0 xs u (fun o X => ∃ r f', o = .inl r ∧ X = (xh f', u) ∧ (fun r f' => r = some (xi (xix (xgt p).2 wo d i ix rd)) ∧ f' = f) r f') 39 7 lv [] f := by
  have hl := xgt_l hp
  intro d
  induction d with
  | zero =>
    intro i ix rd lv hd hi1 hi2 h0 h1 h2 h3 h5
    have hc := xgt_c hp i
    refine x_iload rfl h5 ?_
    refine x_aload_n rfl h1 ?_
    refine x_call [_] rfl rfl (show (1 : Nat) ≤ 8 from by decide) (show (1 : Nat) ≤ 1 from by decide) (x_rcvG (by omega) (xgt_o hp)) (xs_33 hp) (fun r' f' hP => ?_)
    obtain ⟨rfl, rfl⟩ := hP
    refine x_cge (t := 63) rfl rfl ⟨by omega, by omega⟩ ⟨by omega, by omega⟩ (fun hb13 => ?_) (fun hb13 => ?_)
    · refine x_lload_n rfl h3 ?_
      refine x_aload_n rfl h0 ?_
      refine x_getfield rfl (by decide) h112 rfl ?_
      refine x_lcmp rfl ?_
      refine x_lne (t := 76) rfl rfl (fun hb69 => ?_) (fun hb69 => ?_)
      · refine x_iconst rfl ?_
        refine x_ireturn rfl (Or.inl rfl) ⟨_, _, rfl, rfl, ?_⟩
        exact ⟨by rw [xix, if_neg hb69], rfl⟩
      · refine x_iload_n rfl h2 ?_
        refine x_goto (t := 77) rfl rfl ?_
        refine x_ireturn rfl (Or.inl rfl) ⟨_, _, rfl, rfl, ?_⟩
        exact ⟨by rw [xix, if_pos hb69], rfl⟩
    · exfalso; omega
  | succ d ih =>
    intro i ix rd lv hd hi1 hi2 h0 h1 h2 h3 h5
    have hc := xgt_c hp i
    refine x_iload rfl h5 ?_
    refine x_aload_n rfl h1 ?_
    refine x_call [_] rfl rfl (show (1 : Nat) ≤ 8 from by decide) (show (1 : Nat) ≤ 1 from by decide) (x_rcvG (by omega) (xgt_o hp)) (xs_33 hp) (fun r' f' hP => ?_)
    obtain ⟨rfl, rfl⟩ := hP
    refine x_cge (t := 63) rfl rfl ⟨by omega, by omega⟩ ⟨by omega, by omega⟩ (fun hb13 => ?_) (fun hb13 => ?_)
    · exfalso; omega
    · refine x_aload_n rfl h1 ?_
      refine x_iload rfl h5 ?_
      refine x_call [_, _] rfl rfl (show (0 : Nat) ≤ 8 from by decide) (show (2 : Nat) ≤ 2 from by decide) (x_rcvG (by omega) (xgt_o hp)) (xs_38 hv hp (by omega)) (fun r' f' hP => ?_)
      obtain ⟨rfl, rfl⟩ := hP
      rw [Int.toNat_natCast]
      refine x_bipush rfl (by decide) ?_
      refine x_ceq (t := 41) rfl rfl ⟨by omega, by omega⟩ ⟨by omega, by omega⟩ (fun hb24 => ?_) (fun hb24 => ?_)
      · refine x_lload_n rfl h3 ?_
        refine x_aload_n rfl h0 ?_
        refine x_getfield rfl (by decide) h112 rfl ?_
        refine x_lcmp rfl ?_
        refine x_lne (t := 52) rfl rfl (fun hb47 => ?_) (fun hb47 => ?_)
        · refine x_iinc rfl h2 (show (2 : Nat) < 6 from by decide) ?_
          refine x_lconst rfl ?_
          refine x_lstore_n rfl (show (3 : Nat) + 1 < 6 from by decide) ?_
          refine x_iinc rfl (xst2_ne (by decide) (by decide) (xst_ne (by decide) h5 (Or.inl rfl)) (Or.inl rfl)) (show (5 : Nat) < 6 from by decide) ?_
          refine x_goto (t := 7) rfl rfl ?_
          rw [xix, if_pos hb24, if_neg hb47]
          exact ih (i + 1) (ix + 1) 0 _ (by omega) (by omega) (by omega) (xst_ne (by decide) (xst2_ne (by decide) (by decide) (xst_ne (by decide) h0 (Or.inl rfl)) (Or.inl rfl)) (Or.inl rfl)) (xst_ne (by decide) (xst2_ne (by decide) (by decide) (xst_ne (by decide) h1 (Or.inl rfl)) (Or.inl rfl)) (Or.inl rfl)) (xst_ne (by decide) (xst2_ne (by decide) (by decide) xst_eq (Or.inl rfl)) (Or.inl rfl)) (xst_ne (by decide) xst2_eq (Or.inr (by decide))) xst_eq
        · refine x_iload_n rfl h2 ?_
          refine x_ireturn rfl (Or.inl rfl) ⟨_, _, rfl, rfl, ?_⟩
          exact ⟨by rw [xix, if_pos hb24, if_pos hb47], rfl⟩
      · refine x_lload_n rfl h3 ?_
        refine x_aload_n rfl h1 ?_
        refine x_iload rfl h5 ?_
        refine x_call [_, _] rfl rfl (show (2 : Nat) ≤ 8 from by decide) (show (2 : Nat) ≤ 2 from by decide) (x_rcvG (by omega) (xgt_o hp)) (xs_38 hv hp (by omega)) (fun r' f' hP => ?_)
        obtain ⟨rfl, rfl⟩ := hP
        rw [Int.toNat_natCast]
        refine x_call [_, _] rfl rfl (show (0 : Nat) ≤ 8 from by decide) (show (3 : Nat) ≤ 3 from by decide) rfl (xs_27 (by omega)) (fun r' f' hP => ?_)
        obtain ⟨rfl, rfl⟩ := hP
        refine x_lstore_n rfl (show (3 : Nat) + 1 < 6 from by decide) ?_
        refine x_goto (t := 57) rfl rfl ?_
        refine x_iinc rfl (xst2_ne (by decide) (by decide) h5 (Or.inl rfl)) (show (5 : Nat) < 6 from by decide) ?_
        refine x_goto (t := 7) rfl rfl ?_
        rw [xix, if_neg hb24]
        exact ih (i + 1) ix _ _ (by omega) (by omega) (by omega) (xst_ne (by decide) (xst2_ne (by decide) (by decide) h0 (Or.inl rfl)) (Or.inl rfl)) (xst_ne (by decide) (xst2_ne (by decide) (by decide) h1 (Or.inl rfl)) (Or.inl rfl)) (xst_ne (by decide) (xst2_ne (by decide) (by decide) h2 (Or.inl rfl)) (Or.inl rfl)) (xst_ne (by decide) xst2_eq (Or.inr (by decide))) xst_eq
theorem xs_39 {v0 : Value} {xs : List Int32} {u : Nat × Nat} {f : Nat → zE} {p : Nat} {ki st en : Int} {wo : Int64} {di sg : Int} (hv : v0 = .null ∨ v0 = .ref 49) (hp : p = 5 ∨ p = 6) (h112 : f 112 = xtk ki st en wo di sg) : xq v0 xs u 39 [(0, .ref 112), (1, .ref p)] f (fun r f' => r = some (xi (xix (xgt p).2 wo (xgt p).2.length 0 0 0)) ∧ f' = f) := by
  unfold xq
  refine x_iconst rfl ?_
  refine x_istore_n rfl (show (2 : Nat) < 6 from by decide) ?_
  refine x_lconst rfl ?_
  refine x_lstore_n rfl (show (3 : Nat) + 1 < 6 from by decide) ?_
  refine x_iconst rfl ?_
  refine x_istore rfl (show (5 : Nat) < 6 from by decide) ?_
  exact xs_39l hv hp h112 (xgt p).2.length 0 0 0 _ rfl (by decide) (by decide) (xst_ne (by decide) (xst2_ne (by decide) (by decide) (xst_ne (by decide) rfl (Or.inl rfl)) (Or.inl rfl)) (Or.inl rfl)) (xst_ne (by decide) (xst2_ne (by decide) (by decide) (xst_ne (by decide) rfl (Or.inl rfl)) (Or.inl rfl)) (Or.inl rfl)) (xst_ne (by decide) (xst2_ne (by decide) (by decide) xst_eq (Or.inl rfl)) (Or.inl rfl)) (xst_ne (by decide) xst2_eq (Or.inr (by decide))) xst_eq
/-- the row of figures -/
def xfl : List (Option Nat) := [some 57, some 61, some 65, some 69, some 73, some 77, some 81, some 85, some 89, some 93, some 97, some 101, some 105]
theorem xfl_at {i : Nat} (h : i < 13) : xfl.getD i none = some (57 + 4 * i) := by
  have key : ∀ i : Nat, i < 13 → xfl.getD i none = some (57 + 4 * i) := by decide
  exact key i h
abbrev xfg (i : Nat) (nm : Int64) (b d a : Value) : zE := .inl (3, [.ref (58 + 4 * i), .ref (59 + 4 * i), .ref (60 + 4 * i), .long nm, b, d, a])
abbrev xbo (c kp pt : Int) : zE := .inl (2, [.ref 54, .ref 55, .ref 56, xi c, xi kp, xi pt])
/-- the first name from i on, of d names, that is g -/
def xfn (nm : Nat → Int64) (g : Int64) : Nat → Nat → Int
  | 0, _ => -1
  | d + 1, i => if nm i = g then (i : Nat) else xfn nm g d (i + 1)
theorem xs_31l {v0 : Value} {xs : List Int32} {u : Nat × Nat} {f : Nat → zE} {c : Nat} {kp pt : Int} {nm : Nat → Int64} {g : Int64} (hc : c ≤ 12) (h53 : f 53 = xbo (c : Nat) kp pt) (h54 : f 54 = .inr (.inr (.inr (3, xfl)))) (hfig : ∀ i, i < c → ∃ b d a, f (57 + 4 * i) = xfg i (nm i) b d a) : ∀ (d i : Nat) (lv : zL), d + i = c → zlv lv 0 = some (.ref 53) → zlv lv 1 = some (.long g) → zlv lv 3 = some (xi (i : Nat)) → xz v0 xs u (fun o X => ∃ r f', o = .inl r ∧ X = (xh f', u) ∧ (fun r f' => r = some (xi (xfn nm g d i)) ∧ f' = f) r f') 31 2 lv [] f := by
  intro d
  induction d with
  | zero =>
    intro i lv hd h0 h1 h3
    refine x_iload_n rfl h3 ?_
    refine x_aload_n rfl h0 ?_
    refine x_getfield rfl (by decide) h53 rfl ?_
    refine x_cge (t := 32) rfl rfl ⟨by omega, by omega⟩ ⟨by omega, by omega⟩ (fun hb7 => ?_) (fun hb7 => ?_)
    · refine x_iconst rfl ?_
      refine x_ireturn rfl (Or.inl rfl) ⟨_, _, rfl, rfl, ?_⟩
      exact ⟨by rw [xfn], rfl⟩
    · exfalso; omega
  | succ d ih =>
    intro i lv hd h0 h1 h3
    refine x_iload_n rfl h3 ?_
    refine x_aload_n rfl h0 ?_
    refine x_getfield rfl (by decide) h53 rfl ?_
    refine x_cge (t := 32) rfl rfl ⟨by omega, by omega⟩ ⟨by omega, by omega⟩ (fun hb7 => ?_) (fun hb7 => ?_)
    · exfalso; omega
    · refine x_aload_n rfl h0 ?_
      refine x_getfield rfl (by decide) h53 rfl ?_
      refine x_iload_n rfl h3 ?_
      obtain ⟨b, d2, a2, hfg⟩ := hfig i (by omega)
      refine x_aaload rfl (by decide) h54 ⟨by omega, show ((i : Nat) : Int) < (13 : Nat) by omega⟩ (show (13 : Nat) ≤ 5000 by decide) (by rw [Int.toNat_natCast]; exact xfl_at (by omega)) ?_
      refine x_getfield rfl (by omega) hfg rfl ?_
      refine x_lload_n rfl h1 ?_
      refine x_lcmp rfl ?_
      refine x_lne (t := 26) rfl rfl (fun hb21 => ?_) (fun hb21 => ?_)
      · refine x_iinc rfl h3 (show (3 : Nat) < 4 from by decide) ?_
        refine x_goto (t := 2) rfl rfl ?_
        rw [xfn, if_neg hb21]
        exact ih (i + 1) _ (by omega) (xst_ne (by decide) h0 (Or.inl rfl)) (xst_ne (by decide) h1 (Or.inr (by decide))) xst_eq
      · refine x_iload_n rfl h3 ?_
        refine x_ireturn rfl (Or.inl rfl) ⟨_, _, rfl, rfl, ?_⟩
        exact ⟨by rw [xfn, if_pos hb21], rfl⟩
theorem xs_31 {v0 : Value} {xs : List Int32} {u : Nat × Nat} {f : Nat → zE} {c : Nat} {kp pt : Int} {nm : Nat → Int64} {g : Int64} (hc : c ≤ 12) (h53 : f 53 = xbo (c : Nat) kp pt) (h54 : f 54 = .inr (.inr (.inr (3, xfl)))) (hfig : ∀ i, i < c → ∃ b d a, f (57 + 4 * i) = xfg i (nm i) b d a) : xq v0 xs u 31 [(0, .ref 53), (1, .long g)] f (fun r f' => r = some (xi (xfn nm g c 0)) ∧ f' = f) := by
  unfold xq
  refine x_iconst rfl ?_
  refine x_istore_n rfl (show (3 : Nat) < 4 from by decide) ?_
  exact xs_31l hc h53 h54 hfig c 0 _ rfl (xst_ne (by decide) rfl (Or.inl rfl)) (xst_ne (by decide) rfl (Or.inr (by decide))) xst_eq
end
