/-! By hand: ints as integers, the heap as a function of the place. -/
abbrev xi (z : Int) : Value := .int (Int32.ofInt z)
abbrev xl (z : Int) : Value := .long (Int64.ofInt z)
def xh (f : Nat → zE) : List zE := (List.range 154).map fun k => f (k + 50)
def xu (f : Nat → zE) (p : Nat) (c : zE) : Nat → zE := fun q => if q = p then c else f q
abbrev xr (k : Nat) (l : List Int) : zE := .inr (.inl (k, l.map Int32.ofInt))
theorem xu_eq {f : Nat → zE} {p : Nat} {c : zE} : xu f p c p = c := if_pos rfl
theorem xu_ne {f : Nat → zE} {p q : Nat} {c d : zE} (h : q ≠ p) (k : f q = d) : xu f p c q = d := by
  unfold xu
  rw [if_neg h]
  exact k
theorem xh_at {f : Nat → zE} {p : Nat} (h1 : 50 ≤ p) (h2 : p < 204) : (xh f)[p - 50]? = some (f p) := by
  unfold xh
  rw [List.getElem?_map, List.getElem?_range (by omega)]
  simp only [Option.map_some, Option.some.injEq]
  congr 1
  omega
theorem xh_len {f : Nat → zE} : (xh f).length = 154 := by simp [xh]
theorem xh_set {f : Nat → zE} {p : Nat} {c : zE} (h1 : 50 ≤ p) : (xh f).set (p - 50) c = xh (xu f p c) := by
  apply List.ext_getElem?
  intro k
  by_cases hk : k < 154
  · have e2 : (xh (xu f p c))[k]? = some (xu f p c (k + 50)) := by
      have := xh_at (f := xu f p c) (p := k + 50) (by omega) (by omega)
      rw [Nat.add_sub_cancel] at this
      exact this
    have e1 : (xh f)[k]? = some (f (k + 50)) := by
      have := xh_at (f := f) (p := k + 50) (by omega) (by omega)
      rw [Nat.add_sub_cancel] at this
      exact this
    rw [e2]
    by_cases hp : p - 50 = k
    · rw [List.getElem?_set, if_pos hp, if_pos (by rw [xh_len]; omega)]
      have : k + 50 = p := by omega
      rw [this, xu_eq]
    · rw [List.getElem?_set_ne hp, e1, xu_ne (by omega) rfl]
  · rw [List.getElem?_eq_none (by rw [List.length_set, xh_len]; omega), List.getElem?_eq_none (by rw [xh_len]; omega)]
theorem xi_toInt {z : Int} (h1 : -2147483648 ≤ z) (h2 : z ≤ 2147483647) : (Int32.ofInt z).toInt = z := Int32.toInt_ofInt_of_le h1 (by omega)
theorem xi_lt {a b : Int} (ha : -2147483648 ≤ a ∧ a ≤ 2147483647) (hb : -2147483648 ≤ b ∧ b ≤ 2147483647) : Int32.ofInt a < Int32.ofInt b ↔ a < b := by rw [y_lt, xi_toInt ha.1 ha.2, xi_toInt hb.1 hb.2]
theorem xi_le {a b : Int} (ha : -2147483648 ≤ a ∧ a ≤ 2147483647) (hb : -2147483648 ≤ b ∧ b ≤ 2147483647) : Int32.ofInt a ≤ Int32.ofInt b ↔ a ≤ b := by rw [y_le, xi_toInt ha.1 ha.2, xi_toInt hb.1 hb.2]
theorem xi_eq {a b : Int} (ha : -2147483648 ≤ a ∧ a ≤ 2147483647) (hb : -2147483648 ≤ b ∧ b ≤ 2147483647) : Int32.ofInt a = Int32.ofInt b ↔ a = b := by rw [y_eq, xi_toInt ha.1 ha.2, xi_toInt hb.1 hb.2]
theorem x0 : (0 : Int32) = Int32.ofInt 0 := rfl
theorem xr0 : -2147483648 ≤ (0 : Int) ∧ (0 : Int) ≤ 2147483647 := by omega
theorem xi_clamp {z : Int} (h1 : 0 ≤ z) (h2 : z ≤ 2147483647) : ¬ Int32.ofInt z < 0 ∧ (Int32.ofInt z).toNatClampNeg = z.toNat := by
  have e := xi_toInt (z := z) (by omega) h2
  have := y_cl (x := Int32.ofInt z) (by omega)
  exact ⟨this.1, by omega⟩
theorem xin {z : Int} {n : Nat} (h1 : 0 ≤ z) (h2 : z < n) (h3 : n ≤ 2147483647) : zin (Int32.ofInt z) n = true := by
  have := xi_clamp (z := z) h1 (by omega)
  unfold zin
  rw [this.2]
  simp only [this.1, decide_false, Bool.not_false, Bool.true_and, decide_eq_true_eq]
  omega
/-! Locals: stores by slot. -/
def xst (k : Nat) (v : Value) (lv : zL) : zL := (k, v) :: zf1 k lv
def xst2 (k : Nat) (v : Value) (lv : zL) : zL := (k, v) :: zf2 k lv
theorem xst_eq {k : Nat} {v : Value} {lv : zL} : zlv (xst k v lv) k = some v := if_pos rfl
theorem xst2_eq {k : Nat} {v : Value} {lv : zL} : zlv (xst2 k v lv) k = some v := if_pos rfl
theorem zlv_filter {P : Nat × Value → Bool} {j : Nat} {w : Value} : ∀ {lv : zL}, zlv lv j = some w → P (j, w) = true → (∀ x, P (j, x) = true ∨ x ≠ w) → zlv (lv.filter P) j = some w := by
  intro lv
  induction lv with
  | nil => intro h; cases h
  | cons q r ih =>
    intro h hp hx
    simp only [zlv] at h
    split at h
    · rename_i hq
      cases h
      have e : q = (j, q.2) := by rw [← hq]
      rw [List.filter_cons_of_pos (by rw [e]; exact hp)]
      simp only [zlv]
      rw [if_pos hq]
    · rename_i hq
      rw [List.filter_cons]
      split
      · simp only [zlv]
        rw [if_neg hq]
        exact ih h hp hx
      · exact ih h hp hx
theorem xst_ne {k j : Nat} {v w : Value} {lv : zL} (hj : j ≠ k) (h : zlv lv j = some w) (hc : w.category = 1 ∨ j + 1 ≠ k) : zlv (xst k v lv) j = some w := by
  unfold xst
  simp only [zlv]
  rw [if_neg (fun e => hj e.symm)]
  have key : (!((j, w).1 == k) && !((j, w).1 + 1 == k && (j, w).2.category == 2)) = true := by
    have h1 : (j == k) = false := by simpa using hj
    have h2 : (j + 1 == k && w.category == 2) = false := by
      rcases hc with hc | hc
      · simp [hc]
      · have : (j + 1 == k) = false := by simpa using hc
        simp [this]
    simp only [h1, h2]
    rfl
  unfold zf1
  exact zlv_filter h key fun x => by
    by_cases hx : x = w
    · subst hx; exact Or.inl key
    · exact Or.inr hx
theorem xst2_ne {k j : Nat} {v w : Value} {lv : zL} (hj : j ≠ k) (hj2 : j ≠ k + 1) (h : zlv lv j = some w) (hc : w.category = 1 ∨ j + 1 ≠ k) : zlv (xst2 k v lv) j = some w := by
  unfold xst2
  simp only [zlv]
  rw [if_neg (fun e => hj e.symm)]
  have key : (!((j, w).1 == k) && (!((j, w).1 == k + 1) && !((j, w).1 + 1 == k && (j, w).2.category == 2))) = true := by
    have h1 : (j == k) = false := by simpa using hj
    have h3 : (j == k + 1) = false := by simpa using hj2
    have h2 : (j + 1 == k && w.category == 2) = false := by
      rcases hc with hc | hc
      · simp [hc]
      · have : (j + 1 == k) = false := by simpa using hc
        simp [this]
    simp only [h1, h2, h3]
    rfl
  unfold zf2
  exact zlv_filter h key fun x => by
    by_cases hx : x = w
    · subst hx; exact Or.inl key
    · exact Or.inr hx
/-- a run of the interpreter from here comes to an end with Q -/
def xz (v0 : Value) (xs : List Int32) (u : Nat × Nat) (Q : zO → zX → Prop) (mi pc : Nat) (lv : zL) (st : List Value) (f : Nat → zE) : Prop := zwp (zt v0) (zG xs) mi pc lv st (xh f, u) Q
/-- a method comes back with an answer and a heap -/
def xq (v0 : Value) (xs : List Int32) (u : Nat × Nat) (mi : Nat) (lv : zL) (f : Nat → zE) (P : Option Value → (Nat → zE) → Prop) : Prop := xz v0 xs u (fun o X => ∃ r f', o = .inl r ∧ X = (xh f', u) ∧ P r f') mi 0 lv [] f
section xS
variable {v0 : Value} {xs : List Int32} {u : Nat × Nat} {Q : zO → zX → Prop} {mi pc : Nat} {lv : zL} {st : List Value} {f : Nat → zE}
theorem x_f {i : Instr} {a b c : Nat} {v : Value} {q : Nat × zL × List Value} (hc : zcd (zt v0) mi pc = some (i, a, b, c, v)) (hq : za i v (znl (zt v0) mi) pc lv st = some q) (k : xz v0 xs u Q mi q.1 q.2.1 q.2.2 f) : xz v0 xs u Q mi pc lv st f := by
  refine zwp_s (s' := (q.1, q.2.1, q.2.2, (xh f, u))) ?_ k
  unfold zstp
  simp only [hc, hq]
theorem x_b {i : Instr} {a b c : Nat} {v : Value} {q : Nat × List Value} (hc : zcd (zt v0) mi pc = some (i, a, b, c, v)) (hq : zb (zG xs) i a b st (xh f, u) = some q) (k : xz v0 xs u Q mi (pc + q.1) lv q.2 f) : xz v0 xs u Q mi pc lv st f := by
  refine zwp_s (s' := (pc + q.1, lv, q.2, (xh f, u))) ?_ k
  unfold zstp
  simp only [hc, (zb_za hq).1, hq]
theorem x_c {i : Instr} {a b c : Nat} {v : Value} {q : Nat × List Value × zX} {f' : Nat → zE} (hc : zcd (zt v0) mi pc = some (i, a, b, c, v)) (hq : zc (zdf (zt v0)) i a b c st (xh f, u) = some q) (hf : q.2.2 = (xh f', u)) (k : xz v0 xs u Q mi (pc + q.1) lv q.2.1 f') : xz v0 xs u Q mi pc lv st f := by
  refine zwp_s (s' := (pc + q.1, lv, q.2.1, (xh f', u))) ?_ k
  unfold zstp
  have h := zc_za (G := zG xs) (v := v) (nL := znl (zt v0) mi) (pc := pc) (lv := lv) hq
  simp only [hc, h.1, h.2.1, hq, hf]
theorem x_rd {p : Nat} (h1 : 50 ≤ p) (h2 : p < 204) : zrd (zG xs) (xh f, u) p = some (f p) := by
  unfold zrd
  rw [if_neg (by omega)]
  exact xh_at h1 h2
variable {a b c : Nat} {v w : Value} {r : List Value} {x y z : Int}
theorem x_iconst (hc : zcd (zt v0) mi pc = some (.iconst x, a, b, c, v))  (k : xz v0 xs u Q mi (pc + 1) lv (xi x :: st) f) : xz v0 xs u Q mi pc lv st f := x_f (q := ((pc + 1), lv, (xi x :: st))) hc rfl k
theorem x_bipush (hc : zcd (zt v0) mi pc = some (.bipush x, a, b, c, v)) (hx : (Int8.ofInt x).toInt32 = Int32.ofInt x) (k : xz v0 xs u Q mi (pc + 2) lv (xi x :: st) f) : xz v0 xs u Q mi pc lv st f := x_f (q := ((pc + 2), lv, (xi x :: st))) hc (by simp only [za, hx]) k
theorem x_sipush (hc : zcd (zt v0) mi pc = some (.sipush x, a, b, c, v)) (hx : (Int16.ofInt x).toInt32 = Int32.ofInt x) (k : xz v0 xs u Q mi (pc + 3) lv (xi x :: st) f) : xz v0 xs u Q mi pc lv st f := x_f (q := ((pc + 3), lv, (xi x :: st))) hc (by simp only [za, hx]) k
theorem x_iload_n {n : Fin 4} (hc : zcd (zt v0) mi pc = some (.iload_n n, a, b, c, v)) (h : zlv lv n = some (xi x)) (k : xz v0 xs u Q mi (pc + 1) lv (xi x :: st) f) : xz v0 xs u Q mi pc lv st f := x_f (q := ((pc + 1), lv, (xi x :: st))) hc (by simp only [za, h]) k
theorem x_iload {n : Nat} (hc : zcd (zt v0) mi pc = some (.iload n, a, b, c, v)) (h : zlv lv n = some (xi x)) (k : xz v0 xs u Q mi (pc + 2) lv (xi x :: st) f) : xz v0 xs u Q mi pc lv st f := x_f (q := ((pc + 2), lv, (xi x :: st))) hc (by simp only [za, h]) k
theorem x_aload_n {p : Nat} {n : Fin 4} (hc : zcd (zt v0) mi pc = some (.aload_n n, a, b, c, v)) (h : zlv lv n = some (.ref p)) (k : xz v0 xs u Q mi (pc + 1) lv (.ref p :: st) f) : xz v0 xs u Q mi pc lv st f := x_f (q := ((pc + 1), lv, (.ref p :: st))) hc (by simp only [za, h]) k
theorem x_aload {p : Nat} {n : Nat} (hc : zcd (zt v0) mi pc = some (.aload n, a, b, c, v)) (h : zlv lv n = some (.ref p)) (k : xz v0 xs u Q mi (pc + 2) lv (.ref p :: st) f) : xz v0 xs u Q mi pc lv st f := x_f (q := ((pc + 2), lv, (.ref p :: st))) hc (by simp only [za, h]) k
theorem x_lload_n {g : Int64} {n : Fin 4} (hc : zcd (zt v0) mi pc = some (.lload_n n, a, b, c, v)) (h : zlv lv n = some (.long g)) (k : xz v0 xs u Q mi (pc + 1) lv (.long g :: st) f) : xz v0 xs u Q mi pc lv st f := x_f (q := ((pc + 1), lv, (.long g :: st))) hc (by simp only [za, h]) k
theorem x_lload {g : Int64} {n : Nat} (hc : zcd (zt v0) mi pc = some (.lload n, a, b, c, v)) (h : zlv lv n = some (.long g)) (k : xz v0 xs u Q mi (pc + 2) lv (.long g :: st) f) : xz v0 xs u Q mi pc lv st f := x_f (q := ((pc + 2), lv, (.long g :: st))) hc (by simp only [za, h]) k
theorem x_istore_n {n : Fin 4} (hc : zcd (zt v0) mi pc = some (.istore_n n, a, b, c, v)) (h : (n : Nat) < znl (zt v0) mi) (k : xz v0 xs u Q mi (pc + 1) (xst n (xi x) lv) r f) : xz v0 xs u Q mi pc lv (xi x :: r) f := x_f (q := ((pc + 1), (xst n (xi x) lv), r)) hc (by simp only [za]; exact if_pos h) k
theorem x_istore {n : Nat} (hc : zcd (zt v0) mi pc = some (.istore n, a, b, c, v)) (h : (n : Nat) < znl (zt v0) mi) (k : xz v0 xs u Q mi (pc + 2) (xst n (xi x) lv) r f) : xz v0 xs u Q mi pc lv (xi x :: r) f := x_f (q := ((pc + 2), (xst n (xi x) lv), r)) hc (by simp only [za]; exact if_pos h) k
theorem x_astore_n {p : Nat} {n : Fin 4} (hc : zcd (zt v0) mi pc = some (.astore_n n, a, b, c, v)) (h : (n : Nat) < znl (zt v0) mi) (k : xz v0 xs u Q mi (pc + 1) (xst n (.ref p) lv) r f) : xz v0 xs u Q mi pc lv (.ref p :: r) f := x_f (q := ((pc + 1), (xst n (.ref p) lv), r)) hc (by simp only [za]; exact if_pos h) k
theorem x_astore {p : Nat} {n : Nat} (hc : zcd (zt v0) mi pc = some (.astore n, a, b, c, v)) (h : (n : Nat) < znl (zt v0) mi) (k : xz v0 xs u Q mi (pc + 2) (xst n (.ref p) lv) r f) : xz v0 xs u Q mi pc lv (.ref p :: r) f := x_f (q := ((pc + 2), (xst n (.ref p) lv), r)) hc (by simp only [za]; exact if_pos h) k
theorem x_lstore_n {g : Int64} {n : Fin 4} (hc : zcd (zt v0) mi pc = some (.lstore_n n, a, b, c, v)) (h : (n : Nat) + 1 < znl (zt v0) mi) (k : xz v0 xs u Q mi (pc + 1) (xst2 n (.long g) lv) r f) : xz v0 xs u Q mi pc lv (.long g :: r) f := x_f (q := ((pc + 1), (xst2 n (.long g) lv), r)) hc (by simp only [za]; exact if_pos h) k
theorem x_lstore {g : Int64} {n : Nat} (hc : zcd (zt v0) mi pc = some (.lstore n, a, b, c, v)) (h : (n : Nat) + 1 < znl (zt v0) mi) (k : xz v0 xs u Q mi (pc + 2) (xst2 n (.long g) lv) r f) : xz v0 xs u Q mi pc lv (.long g :: r) f := x_f (q := ((pc + 2), (xst2 n (.long g) lv), r)) hc (by simp only [za]; exact if_pos h) k
theorem x_iinc {n : Nat} (hc : zcd (zt v0) mi pc = some (.iinc n y, a, b, c, v)) (h : zlv lv n = some (xi x)) (hn : n < znl (zt v0) mi) (k : xz v0 xs u Q mi (pc + 3) (xst n (xi (x + y)) lv) st f) : xz v0 xs u Q mi pc lv st f := x_f (q := ((pc + 3), (xst n (xi (x + y)) lv), st)) hc (by simp only [za, h]; rw [if_pos hn, ← Int32.ofInt_add]; rfl) k
theorem x_ldc {p n : Nat} (hc : zcd (zt v0) mi pc = some (.ldc n, a, b, c, .ref p)) (k : xz v0 xs u Q mi (pc + 2) lv (.ref p :: st) f) : xz v0 xs u Q mi pc lv st f := x_f hc rfl k
theorem x_ldc2 {g : Int64} {n : Nat} (hc : zcd (zt v0) mi pc = some (.ldc2_w n, a, b, c, .long g)) (k : xz v0 xs u Q mi (pc + 3) lv (.long g :: st) f) : xz v0 xs u Q mi pc lv st f := x_f hc rfl k
theorem x_lconst {n : Fin 2} (hc : zcd (zt v0) mi pc = some (.lconst n, a, b, c, v))  (k : xz v0 xs u Q mi (pc + 1) lv (.long (Int64.ofNat (n : Nat)) :: st) f) : xz v0 xs u Q mi pc lv st f := x_f (q := ((pc + 1), lv, (.long (Int64.ofNat (n : Nat)) :: st))) hc rfl k
theorem x_i2l (hc : zcd (zt v0) mi pc = some (.i2l, a, b, c, v))  (k : xz v0 xs u Q mi (pc + 1) lv (.long (Int32.ofInt x).toInt64 :: r) f) : xz v0 xs u Q mi pc lv (xi x :: r) f := x_f (q := ((pc + 1), lv, (.long (Int32.ofInt x).toInt64 :: r))) hc rfl k
theorem x_l2i {g : Int64} (hc : zcd (zt v0) mi pc = some (.l2i, a, b, c, v))  (k : xz v0 xs u Q mi (pc + 1) lv (.int g.toInt32 :: r) f) : xz v0 xs u Q mi pc lv (.long g :: r) f := x_f (q := ((pc + 1), lv, (.int g.toInt32 :: r))) hc rfl k
theorem x_char {x : Int} (h1 : 0 ≤ x) (h2 : x < 65536) : ((Int32.ofInt x).toUInt32 % 65536).toInt32 = Int32.ofInt x := by
  obtain ⟨n, rfl⟩ := Int.eq_ofNat_of_zero_le h1
  have hn : n < 65536 := by omega
  have e1 : Int32.ofInt ((n : Nat) : Int) = Int32.ofNat n := rfl
  have e2 : (Int32.ofNat n).toUInt32 = UInt32.ofNat n := rfl
  have e3 : UInt32.ofNat n % 65536 = UInt32.ofNat n := by
    apply UInt32.toNat_inj.mp
    simp [UInt32.toNat_mod]
    omega
  rw [e1, e2, e3]
  rfl
theorem x_i2c (hc : zcd (zt v0) mi pc = some (.i2c, a, b, c, v)) (hx : 0 ≤ x ∧ x < 65536) (k : xz v0 xs u Q mi (pc + 1) lv (xi x :: r) f) : xz v0 xs u Q mi pc lv (xi x :: r) f := x_f (q := ((pc + 1), lv, (xi x :: r))) hc (by simp only [za, x_char hx.1 hx.2]) k
theorem x_lushr {g : Int64} (hc : zcd (zt v0) mi pc = some (.lushr, a, b, c, v))  (k : xz v0 xs u Q mi (pc + 1) lv (.long (g.toUInt64 >>> ((Int32.ofInt x).toInt64.toUInt64 &&& Int64.toUInt64 63)).toInt64 :: r) f) : xz v0 xs u Q mi pc lv (xi x :: .long g :: r) f := x_f (q := ((pc + 1), lv, (.long (g.toUInt64 >>> ((Int32.ofInt x).toInt64.toUInt64 &&& Int64.toUInt64 63)).toInt64 :: r))) hc rfl k
theorem x_lshl {g : Int64} (hc : zcd (zt v0) mi pc = some (.lshl, a, b, c, v))  (k : xz v0 xs u Q mi (pc + 1) lv (.long (g <<< ((Int32.ofInt x).toInt64 &&& 63)) :: r) f) : xz v0 xs u Q mi pc lv (xi x :: .long g :: r) f := x_f (q := ((pc + 1), lv, (.long (g <<< ((Int32.ofInt x).toInt64 &&& 63)) :: r))) hc rfl k
theorem x_lcmp {g h : Int64} (hc : zcd (zt v0) mi pc = some (.lcmp, a, b, c, v))  (k : xz v0 xs u Q mi (pc + 1) lv (.int (lg_cmp g h) :: r) f) : xz v0 xs u Q mi pc lv (.long h :: .long g :: r) f := x_f (q := ((pc + 1), lv, (.int (lg_cmp g h) :: r))) hc rfl k
theorem x_dup {p : Nat} (hc : zcd (zt v0) mi pc = some (.dup, a, b, c, v))  (k : xz v0 xs u Q mi (pc + 1) lv (.ref p :: .ref p :: r) f) : xz v0 xs u Q mi pc lv (.ref p :: r) f := x_f (q := ((pc + 1), lv, (.ref p :: .ref p :: r))) hc rfl k
theorem x_dupi (hc : zcd (zt v0) mi pc = some (.dup, a, b, c, v))  (k : xz v0 xs u Q mi (pc + 1) lv (xi x :: xi x :: r) f) : xz v0 xs u Q mi pc lv (xi x :: r) f := x_f (q := ((pc + 1), lv, (xi x :: xi x :: r))) hc rfl k
theorem x_dup2 {p : Nat} (hc : zcd (zt v0) mi pc = some (.dup2, a, b, c, v))  (k : xz v0 xs u Q mi (pc + 1) lv (xi x :: .ref p :: xi x :: .ref p :: r) f) : xz v0 xs u Q mi pc lv (xi x :: .ref p :: r) f := x_f (q := ((pc + 1), lv, (xi x :: .ref p :: xi x :: .ref p :: r))) hc rfl k
theorem x_pop (hc : zcd (zt v0) mi pc = some (.pop, a, b, c, v))  (k : xz v0 xs u Q mi (pc + 1) lv r f) : xz v0 xs u Q mi pc lv (xi x :: r) f := x_f (q := ((pc + 1), lv, r)) hc rfl k
theorem x_popr {p : Nat} (hc : zcd (zt v0) mi pc = some (.pop, a, b, c, v))  (k : xz v0 xs u Q mi (pc + 1) lv r f) : xz v0 xs u Q mi pc lv (.ref p :: r) f := x_f (q := ((pc + 1), lv, r)) hc rfl k
theorem x_goto {t : Nat} (hc : zcd (zt v0) mi pc = some (.goto x, a, b, c, v)) (ht : ztgt pc x = some t) (k : xz v0 xs u Q mi t lv st f) : xz v0 xs u Q mi pc lv st f := x_f (q := (t, lv, st)) hc (by simp only [za, ht]) k
theorem x_iadd (hc : zcd (zt v0) mi pc = some (.iadd, a, b, c, v))  (k : xz v0 xs u Q mi (pc + 1) lv (xi (x + y) :: r) f) : xz v0 xs u Q mi pc lv (xi y :: xi x :: r) f := x_f (q := ((pc + 1), lv, (xi (x + y) :: r))) hc (by simp only [za, zo2, ← Int32.ofInt_add]) k
theorem x_isub (hc : zcd (zt v0) mi pc = some (.isub, a, b, c, v))  (k : xz v0 xs u Q mi (pc + 1) lv (xi (x - y) :: r) f) : xz v0 xs u Q mi pc lv (xi y :: xi x :: r) f := x_f (q := ((pc + 1), lv, (xi (x - y) :: r))) hc (by simp only [za, zo2, ← Int32.ofInt_sub]) k
theorem x_imul (hc : zcd (zt v0) mi pc = some (.imul, a, b, c, v))  (k : xz v0 xs u Q mi (pc + 1) lv (xi (x * y) :: r) f) : xz v0 xs u Q mi pc lv (xi y :: xi x :: r) f := x_f (q := ((pc + 1), lv, (xi (x * y) :: r))) hc (by simp only [za, zo2, ← Int32.ofInt_mul]) k
theorem x_iand (hc : zcd (zt v0) mi pc = some (.iand, a, b, c, v))  (k : xz v0 xs u Q mi (pc + 1) lv (.int (Int32.ofInt x &&& Int32.ofInt y) :: r) f) : xz v0 xs u Q mi pc lv (xi y :: xi x :: r) f := x_f (q := ((pc + 1), lv, (.int (Int32.ofInt x &&& Int32.ofInt y) :: r))) hc rfl k
theorem x_ior (hc : zcd (zt v0) mi pc = some (.ior, a, b, c, v))  (k : xz v0 xs u Q mi (pc + 1) lv (.int (Int32.ofInt x ||| Int32.ofInt y) :: r) f) : xz v0 xs u Q mi pc lv (xi y :: xi x :: r) f := x_f (q := ((pc + 1), lv, (.int (Int32.ofInt x ||| Int32.ofInt y) :: r))) hc rfl k
theorem x_ixor (hc : zcd (zt v0) mi pc = some (.ixor, a, b, c, v))  (k : xz v0 xs u Q mi (pc + 1) lv (.int (Int32.ofInt x ^^^ Int32.ofInt y) :: r) f) : xz v0 xs u Q mi pc lv (xi y :: xi x :: r) f := x_f (q := ((pc + 1), lv, (.int (Int32.ofInt x ^^^ Int32.ofInt y) :: r))) hc rfl k
theorem x_iandg {h : Int32} (hc : zcd (zt v0) mi pc = some (.iand, a, b, c, v))  (k : xz v0 xs u Q mi (pc + 1) lv (.int (h &&& Int32.ofInt y) :: r) f) : xz v0 xs u Q mi pc lv (xi y :: .int h :: r) f := x_f (q := ((pc + 1), lv, (.int (h &&& Int32.ofInt y) :: r))) hc rfl k
theorem xi_of (h : Int32) : (Value.int h) = xi h.toInt := by rw [xi, Int32.ofInt_toInt]
theorem x_l2iz {g : Int64} (hc : zcd (zt v0) mi pc = some (.l2i, a, b, c, v))  (k : xz v0 xs u Q mi (pc + 1) lv (xi g.toInt32.toInt :: r) f) : xz v0 xs u Q mi pc lv (.long g :: r) f := by
  refine x_l2i hc ?_
  rw [xi_of]
  exact k
theorem x_iandz (hc : zcd (zt v0) mi pc = some (.iand, a, b, c, v))  (k : xz v0 xs u Q mi (pc + 1) lv (xi (Int32.ofInt x &&& Int32.ofInt y).toInt :: r) f) : xz v0 xs u Q mi pc lv (xi y :: xi x :: r) f := by
  refine x_iand hc ?_
  rw [xi_of]
  exact k
theorem x_iorz (hc : zcd (zt v0) mi pc = some (.ior, a, b, c, v))  (k : xz v0 xs u Q mi (pc + 1) lv (xi (Int32.ofInt x ||| Int32.ofInt y).toInt :: r) f) : xz v0 xs u Q mi pc lv (xi y :: xi x :: r) f := by
  refine x_ior hc ?_
  rw [xi_of]
  exact k
theorem x_ixorz (hc : zcd (zt v0) mi pc = some (.ixor, a, b, c, v))  (k : xz v0 xs u Q mi (pc + 1) lv (xi (Int32.ofInt x ^^^ Int32.ofInt y).toInt :: r) f) : xz v0 xs u Q mi pc lv (xi y :: xi x :: r) f := by
  refine x_ixor hc ?_
  rw [xi_of]
  exact k
theorem x_ladd {g h : Int64} (hc : zcd (zt v0) mi pc = some (.ladd, a, b, c, v))  (k : xz v0 xs u Q mi (pc + 1) lv (.long (g + h) :: r) f) : xz v0 xs u Q mi pc lv (.long h :: .long g :: r) f := x_f (q := ((pc + 1), lv, (.long (g + h) :: r))) hc rfl k
theorem x_lmul {g h : Int64} (hc : zcd (zt v0) mi pc = some (.lmul, a, b, c, v))  (k : xz v0 xs u Q mi (pc + 1) lv (.long (g * h) :: r) f) : xz v0 xs u Q mi pc lv (.long h :: .long g :: r) f := x_f (q := ((pc + 1), lv, (.long (g * h) :: r))) hc rfl k
theorem x_land {g h : Int64} (hc : zcd (zt v0) mi pc = some (.land, a, b, c, v))  (k : xz v0 xs u Q mi (pc + 1) lv (.long (g &&& h) :: r) f) : xz v0 xs u Q mi pc lv (.long h :: .long g :: r) f := x_f (q := ((pc + 1), lv, (.long (g &&& h) :: r))) hc rfl k
theorem x_lor {g h : Int64} (hc : zcd (zt v0) mi pc = some (.lor, a, b, c, v))  (k : xz v0 xs u Q mi (pc + 1) lv (.long (g ||| h) :: r) f) : xz v0 xs u Q mi pc lv (.long h :: .long g :: r) f := x_f (q := ((pc + 1), lv, (.long (g ||| h) :: r))) hc rfl k
theorem x_ifeq {t : Nat} {e : Int} (hc : zcd (zt v0) mi pc = some (.ifCond .eq e, a, b, c, v)) (ht : ztgt pc e = some t) (hx : -2147483648 ≤ x ∧ x ≤ 2147483647) (k1 : x = 0 → xz v0 xs u Q mi t lv r f) (k2 : x ≠ 0 → xz v0 xs u Q mi (pc + 3) lv r f) : xz v0 xs u Q mi pc lv (xi x :: r) f := by
  by_cases hk : x = 0
  · exact x_f (q := (t, lv, r)) hc (by simp only [za, ht, zc1, x0, xi_eq hx xr0]; rw [if_pos (by simpa using hk)]) (k1 hk)
  · exact x_f (q := (pc + 3, lv, r)) hc (by simp only [za, ht, zc1, x0, xi_eq hx xr0]; rw [if_neg (by simpa using hk)]) (k2 (by omega))
theorem x_ifne {t : Nat} {e : Int} (hc : zcd (zt v0) mi pc = some (.ifCond .ne e, a, b, c, v)) (ht : ztgt pc e = some t) (hx : -2147483648 ≤ x ∧ x ≤ 2147483647) (k1 : x ≠ 0 → xz v0 xs u Q mi t lv r f) (k2 : x = 0 → xz v0 xs u Q mi (pc + 3) lv r f) : xz v0 xs u Q mi pc lv (xi x :: r) f := by
  by_cases hk : x ≠ 0
  · exact x_f (q := (t, lv, r)) hc (by simp only [za, ht, zc1, x0, xi_eq hx xr0]; rw [if_pos (by simpa using hk)]) (k1 hk)
  · exact x_f (q := (pc + 3, lv, r)) hc (by simp only [za, ht, zc1, x0, xi_eq hx xr0]; rw [if_neg (by simpa using hk)]) (k2 (by omega))
theorem x_iflt {t : Nat} {e : Int} (hc : zcd (zt v0) mi pc = some (.ifCond .lt e, a, b, c, v)) (ht : ztgt pc e = some t) (hx : -2147483648 ≤ x ∧ x ≤ 2147483647) (k1 : x < 0 → xz v0 xs u Q mi t lv r f) (k2 : 0 ≤ x → xz v0 xs u Q mi (pc + 3) lv r f) : xz v0 xs u Q mi pc lv (xi x :: r) f := by
  by_cases hk : x < 0
  · exact x_f (q := (t, lv, r)) hc (by simp only [za, ht, zc1, x0, xi_lt hx xr0]; rw [if_pos (by simpa using hk)]) (k1 hk)
  · exact x_f (q := (pc + 3, lv, r)) hc (by simp only [za, ht, zc1, x0, xi_lt hx xr0]; rw [if_neg (by simpa using hk)]) (k2 (by omega))
theorem x_ifge {t : Nat} {e : Int} (hc : zcd (zt v0) mi pc = some (.ifCond .ge e, a, b, c, v)) (ht : ztgt pc e = some t) (hx : -2147483648 ≤ x ∧ x ≤ 2147483647) (k1 : 0 ≤ x → xz v0 xs u Q mi t lv r f) (k2 : x < 0 → xz v0 xs u Q mi (pc + 3) lv r f) : xz v0 xs u Q mi pc lv (xi x :: r) f := by
  by_cases hk : 0 ≤ x
  · exact x_f (q := (t, lv, r)) hc (by simp only [za, ht, zc1, x0, xi_le xr0 hx]; rw [if_pos (by simpa using hk)]) (k1 hk)
  · exact x_f (q := (pc + 3, lv, r)) hc (by simp only [za, ht, zc1, x0, xi_le xr0 hx]; rw [if_neg (by simpa using hk)]) (k2 (by omega))
theorem x_ifgt {t : Nat} {e : Int} (hc : zcd (zt v0) mi pc = some (.ifCond .gt e, a, b, c, v)) (ht : ztgt pc e = some t) (hx : -2147483648 ≤ x ∧ x ≤ 2147483647) (k1 : 0 < x → xz v0 xs u Q mi t lv r f) (k2 : x ≤ 0 → xz v0 xs u Q mi (pc + 3) lv r f) : xz v0 xs u Q mi pc lv (xi x :: r) f := by
  by_cases hk : 0 < x
  · exact x_f (q := (t, lv, r)) hc (by simp only [za, ht, zc1, x0, xi_lt xr0 hx]; rw [if_pos (by simpa using hk)]) (k1 hk)
  · exact x_f (q := (pc + 3, lv, r)) hc (by simp only [za, ht, zc1, x0, xi_lt xr0 hx]; rw [if_neg (by simpa using hk)]) (k2 (by omega))
theorem x_ifle {t : Nat} {e : Int} (hc : zcd (zt v0) mi pc = some (.ifCond .le e, a, b, c, v)) (ht : ztgt pc e = some t) (hx : -2147483648 ≤ x ∧ x ≤ 2147483647) (k1 : x ≤ 0 → xz v0 xs u Q mi t lv r f) (k2 : 0 < x → xz v0 xs u Q mi (pc + 3) lv r f) : xz v0 xs u Q mi pc lv (xi x :: r) f := by
  by_cases hk : x ≤ 0
  · exact x_f (q := (t, lv, r)) hc (by simp only [za, ht, zc1, x0, xi_le hx xr0]; rw [if_pos (by simpa using hk)]) (k1 hk)
  · exact x_f (q := (pc + 3, lv, r)) hc (by simp only [za, ht, zc1, x0, xi_le hx xr0]; rw [if_neg (by simpa using hk)]) (k2 (by omega))
theorem x_ceq {t : Nat} {e : Int} (hc : zcd (zt v0) mi pc = some (.if_icmp .eq e, a, b, c, v)) (ht : ztgt pc e = some t) (hx : -2147483648 ≤ x ∧ x ≤ 2147483647) (hy : -2147483648 ≤ y ∧ y ≤ 2147483647) (k1 : x = y → xz v0 xs u Q mi t lv r f) (k2 : x ≠ y → xz v0 xs u Q mi (pc + 3) lv r f) : xz v0 xs u Q mi pc lv (xi y :: xi x :: r) f := by
  by_cases hk : x = y
  · exact x_f (q := (t, lv, r)) hc (by simp only [za, ht, zc2, xi_eq hx hy]; rw [if_pos (by simpa using hk)]) (k1 hk)
  · exact x_f (q := (pc + 3, lv, r)) hc (by simp only [za, ht, zc2, xi_eq hx hy]; rw [if_neg (by simpa using hk)]) (k2 (by omega))
theorem x_cne {t : Nat} {e : Int} (hc : zcd (zt v0) mi pc = some (.if_icmp .ne e, a, b, c, v)) (ht : ztgt pc e = some t) (hx : -2147483648 ≤ x ∧ x ≤ 2147483647) (hy : -2147483648 ≤ y ∧ y ≤ 2147483647) (k1 : x ≠ y → xz v0 xs u Q mi t lv r f) (k2 : x = y → xz v0 xs u Q mi (pc + 3) lv r f) : xz v0 xs u Q mi pc lv (xi y :: xi x :: r) f := by
  by_cases hk : x ≠ y
  · exact x_f (q := (t, lv, r)) hc (by simp only [za, ht, zc2, xi_eq hx hy]; rw [if_pos (by simpa using hk)]) (k1 hk)
  · exact x_f (q := (pc + 3, lv, r)) hc (by simp only [za, ht, zc2, xi_eq hx hy]; rw [if_neg (by simpa using hk)]) (k2 (by omega))
theorem x_clt {t : Nat} {e : Int} (hc : zcd (zt v0) mi pc = some (.if_icmp .lt e, a, b, c, v)) (ht : ztgt pc e = some t) (hx : -2147483648 ≤ x ∧ x ≤ 2147483647) (hy : -2147483648 ≤ y ∧ y ≤ 2147483647) (k1 : x < y → xz v0 xs u Q mi t lv r f) (k2 : y ≤ x → xz v0 xs u Q mi (pc + 3) lv r f) : xz v0 xs u Q mi pc lv (xi y :: xi x :: r) f := by
  by_cases hk : x < y
  · exact x_f (q := (t, lv, r)) hc (by simp only [za, ht, zc2, xi_lt hx hy]; rw [if_pos (by simpa using hk)]) (k1 hk)
  · exact x_f (q := (pc + 3, lv, r)) hc (by simp only [za, ht, zc2, xi_lt hx hy]; rw [if_neg (by simpa using hk)]) (k2 (by omega))
theorem x_cge {t : Nat} {e : Int} (hc : zcd (zt v0) mi pc = some (.if_icmp .ge e, a, b, c, v)) (ht : ztgt pc e = some t) (hx : -2147483648 ≤ x ∧ x ≤ 2147483647) (hy : -2147483648 ≤ y ∧ y ≤ 2147483647) (k1 : y ≤ x → xz v0 xs u Q mi t lv r f) (k2 : x < y → xz v0 xs u Q mi (pc + 3) lv r f) : xz v0 xs u Q mi pc lv (xi y :: xi x :: r) f := by
  by_cases hk : y ≤ x
  · exact x_f (q := (t, lv, r)) hc (by simp only [za, ht, zc2, xi_le hy hx]; rw [if_pos (by simpa using hk)]) (k1 hk)
  · exact x_f (q := (pc + 3, lv, r)) hc (by simp only [za, ht, zc2, xi_le hy hx]; rw [if_neg (by simpa using hk)]) (k2 (by omega))
theorem x_cgt {t : Nat} {e : Int} (hc : zcd (zt v0) mi pc = some (.if_icmp .gt e, a, b, c, v)) (ht : ztgt pc e = some t) (hx : -2147483648 ≤ x ∧ x ≤ 2147483647) (hy : -2147483648 ≤ y ∧ y ≤ 2147483647) (k1 : y < x → xz v0 xs u Q mi t lv r f) (k2 : x ≤ y → xz v0 xs u Q mi (pc + 3) lv r f) : xz v0 xs u Q mi pc lv (xi y :: xi x :: r) f := by
  by_cases hk : y < x
  · exact x_f (q := (t, lv, r)) hc (by simp only [za, ht, zc2, xi_lt hy hx]; rw [if_pos (by simpa using hk)]) (k1 hk)
  · exact x_f (q := (pc + 3, lv, r)) hc (by simp only [za, ht, zc2, xi_lt hy hx]; rw [if_neg (by simpa using hk)]) (k2 (by omega))
theorem x_cle {t : Nat} {e : Int} (hc : zcd (zt v0) mi pc = some (.if_icmp .le e, a, b, c, v)) (ht : ztgt pc e = some t) (hx : -2147483648 ≤ x ∧ x ≤ 2147483647) (hy : -2147483648 ≤ y ∧ y ≤ 2147483647) (k1 : x ≤ y → xz v0 xs u Q mi t lv r f) (k2 : y < x → xz v0 xs u Q mi (pc + 3) lv r f) : xz v0 xs u Q mi pc lv (xi y :: xi x :: r) f := by
  by_cases hk : x ≤ y
  · exact x_f (q := (t, lv, r)) hc (by simp only [za, ht, zc2, xi_le hx hy]; rw [if_pos (by simpa using hk)]) (k1 hk)
  · exact x_f (q := (pc + 3, lv, r)) hc (by simp only [za, ht, zc2, xi_le hx hy]; rw [if_neg (by simpa using hk)]) (k2 (by omega))
theorem lg_eq {g h : Int64} : lg_cmp g h = 0 ↔ g = h := by
  unfold lg_cmp
  constructor
  · intro e
    split at e
    · exact absurd e (by decide)
    · split at e
      · assumption
      · exact absurd e (by decide)
  · intro e
    subst e
    rw [if_neg (by simp [GT.gt, Int64.lt_irrefl]), if_pos rfl]
theorem lg_lt {g h : Int64} : lg_cmp g h < 0 ↔ g < h := by
  unfold lg_cmp
  constructor
  · intro e
    split at e
    · exact absurd e (by decide)
    · split at e
      · exact absurd e (by decide)
      · rename_i h1 h2
        have h1' : ¬ h < g := h1
        rw [Int64.lt_iff_toInt_lt] at h1' ⊢
        have : g.toInt ≠ h.toInt := fun e => h2 (Int64.toInt_inj.mp e)
        omega
  · intro e
    have h1 : ¬ g > h := by
      show ¬ h < g
      rw [Int64.lt_iff_toInt_lt] at e ⊢
      omega
    have h2 : ¬ g = h := by
      intro h2
      subst h2
      exact absurd e (by rw [Int64.lt_iff_toInt_lt]; omega)
    rw [if_neg h1, if_neg h2]
    decide
theorem x_leq {g h : Int64} {t : Nat} {e : Int} (hc : zcd (zt v0) mi pc = some (.ifCond .eq e, a, b, c, v)) (ht : ztgt pc e = some t) (k1 : g = h → xz v0 xs u Q mi t lv r f) (k2 : ¬ g = h → xz v0 xs u Q mi (pc + 3) lv r f) : xz v0 xs u Q mi pc lv (.int (lg_cmp g h) :: r) f := by
  by_cases hk : g = h
  · exact x_f (q := (t, lv, r)) hc (by simp only [za, ht, zc1, lg_eq]; rw [if_pos (by simpa using hk)]) (k1 hk)
  · exact x_f (q := (pc + 3, lv, r)) hc (by simp only [za, ht, zc1, lg_eq]; rw [if_neg (by simpa using hk)]) (k2 hk)
theorem x_lne {g h : Int64} {t : Nat} {e : Int} (hc : zcd (zt v0) mi pc = some (.ifCond .ne e, a, b, c, v)) (ht : ztgt pc e = some t) (k1 : ¬ g = h → xz v0 xs u Q mi t lv r f) (k2 : g = h → xz v0 xs u Q mi (pc + 3) lv r f) : xz v0 xs u Q mi pc lv (.int (lg_cmp g h) :: r) f := by
  by_cases hk : ¬ g = h
  · exact x_f (q := (t, lv, r)) hc (by simp only [za, ht, zc1, lg_eq]; rw [if_pos (by simpa using hk)]) (k1 hk)
  · exact x_f (q := (pc + 3, lv, r)) hc (by simp only [za, ht, zc1, lg_eq]; rw [if_neg (by simpa using hk)]) (k2 (Decidable.not_not.mp hk))
theorem x_llt {g h : Int64} {t : Nat} {e : Int} (hc : zcd (zt v0) mi pc = some (.ifCond .lt e, a, b, c, v)) (ht : ztgt pc e = some t) (k1 : g < h → xz v0 xs u Q mi t lv r f) (k2 : ¬ g < h → xz v0 xs u Q mi (pc + 3) lv r f) : xz v0 xs u Q mi pc lv (.int (lg_cmp g h) :: r) f := by
  by_cases hk : g < h
  · exact x_f (q := (t, lv, r)) hc (by simp only [za, ht, zc1, lg_lt]; rw [if_pos (by simpa using hk)]) (k1 hk)
  · exact x_f (q := (pc + 3, lv, r)) hc (by simp only [za, ht, zc1, lg_lt]; rw [if_neg (by simpa using hk)]) (k2 hk)
theorem x_lge {g h : Int64} {t : Nat} {e : Int} (hc : zcd (zt v0) mi pc = some (.ifCond .ge e, a, b, c, v)) (ht : ztgt pc e = some t) (k1 : ¬ g < h → xz v0 xs u Q mi t lv r f) (k2 : g < h → xz v0 xs u Q mi (pc + 3) lv r f) : xz v0 xs u Q mi pc lv (.int (lg_cmp g h) :: r) f := by
  by_cases hk : ¬ g < h
  · exact x_f (q := (t, lv, r)) hc (by simp only [za, ht, zc1, ← Int32.not_lt, lg_lt]; rw [if_pos (by simpa using hk)]) (k1 hk)
  · exact x_f (q := (pc + 3, lv, r)) hc (by simp only [za, ht, zc1, ← Int32.not_lt, lg_lt]; rw [if_neg (by simpa using hk)]) (k2 (Decidable.not_not.mp hk))
theorem x_sw {t : Nat} {d lo hi e : Int} {os : Array Int} (hc : zcd (zt v0) mi pc = some (.tableswitch d lo hi os, a, b, c, v)) (hx : -2147483648 ≤ x ∧ x ≤ 2147483647) (ho : (if x < lo ∨ hi < x then some d else os[(x - lo).toNat]?) = some e) (ht : ztgt pc e = some t) (k : xz v0 xs u Q mi t lv r f) : xz v0 xs u Q mi pc lv (xi x :: r) f := by
  refine x_f (q := (t, lv, r)) hc ?_ k
  simp only [za, xi_toInt hx.1 hx.2, ho, ht]
theorem x_getfield {n p : Nat} {fs : List Value} (hc : zcd (zt v0) mi pc = some (.getfield n, a, b, c, v)) (hp : 50 ≤ p ∧ p < 204) (h : f p = .inl (a, fs)) (hw : fs[b]? = some w) (k : xz v0 xs u Q mi (pc + 3) lv (w :: r) f) : xz v0 xs u Q mi pc lv (.ref p :: r) f := by
  refine x_b (q := (3, w :: r)) hc ?_ k
  simp only [zb, x_rd hp.1 hp.2, h, if_true, hw]
theorem x_putfield {n p : Nat} {fs : List Value} (hc : zcd (zt v0) mi pc = some (.putfield n, a, b, c, v)) (hp : 50 ≤ p ∧ p < 204) (h : f p = .inl (a, fs)) (hb : b < fs.length) (hw : zfit c w = true) (k : xz v0 xs u Q mi (pc + 3) lv r (xu f p (.inl (a, fs.set b w)))) : xz v0 xs u Q mi pc lv (w :: .ref p :: r) f := by
  refine x_c (q := (3, r, zput (xh f, u) p (.inl (a, fs.set b w)))) hc ?_ ?_ k
  · simp only [zc]
    rw [if_neg (Nat.not_lt.mpr hp.1)]
    simp only [xh_at hp.1 hp.2, h]
    rw [if_pos ⟨trivial, hb, hw⟩]
  · show ((xh f).set (p - 50) _, u) = _
    rw [xh_set hp.1]
theorem x_getD {l : List Int} {z : Int} (h1 : 0 ≤ z) (h2 : z ≤ 2147483647) : (l.map Int32.ofInt).getD (Int32.ofInt z).toNatClampNeg 0 = Int32.ofInt (l.getD z.toNat 0) := by
  rw [(xi_clamp h1 h2).2, List.getD_eq_getElem?_getD, List.getD_eq_getElem?_getD, List.getElem?_map]
  cases l[z.toNat]? <;> rfl
theorem x_iaload {p : Nat} {l : List Int} (hc : zcd (zt v0) mi pc = some (.iaload, a, b, c, v)) (hp : 50 ≤ p ∧ p < 204) (h : f p = xr 0 l) (hz : 0 ≤ z ∧ z < l.length) (hl : l.length ≤ 5000) (k : xz v0 xs u Q mi (pc + 1) lv (xi (l.getD z.toNat 0) :: r) f) : xz v0 xs u Q mi pc lv (xi z :: .ref p :: r) f := by
  refine x_b (q := (1, xi (l.getD z.toNat 0) :: r)) hc ?_ k
  simp only [zb, x_rd hp.1 hp.2, h]
  rw [if_pos (xin hz.1 (by rw [List.length_map]; exact hz.2) (by rw [List.length_map]; omega)), x_getD hz.1 (by omega)]
theorem x_caload {p : Nat} {l : List Int} (hc : zcd (zt v0) mi pc = some (.caload, a, b, c, v)) (hp : 50 ≤ p ∧ p < 204) (h : f p = xr 1 l) (hz : 0 ≤ z ∧ z < l.length) (hl : l.length ≤ 5000) (k : xz v0 xs u Q mi (pc + 1) lv (xi (l.getD z.toNat 0) :: r) f) : xz v0 xs u Q mi pc lv (xi z :: .ref p :: r) f := by
  refine x_b (q := (1, xi (l.getD z.toNat 0) :: r)) hc ?_ k
  simp only [zb, x_rd hp.1 hp.2, h]
  rw [if_pos (xin hz.1 (by rw [List.length_map]; exact hz.2) (by rw [List.length_map]; omega)), x_getD hz.1 (by omega)]
theorem x_baload {p : Nat} {l : List Int} (hc : zcd (zt v0) mi pc = some (.baload, a, b, c, v)) (hp : 50 ≤ p ∧ p < 204) (h : f p = xr 2 l) (hz : 0 ≤ z ∧ z < l.length) (hl : l.length ≤ 5000) (k : xz v0 xs u Q mi (pc + 1) lv (xi (l.getD z.toNat 0) :: r) f) : xz v0 xs u Q mi pc lv (xi z :: .ref p :: r) f := by
  refine x_b (q := (1, xi (l.getD z.toNat 0) :: r)) hc ?_ k
  simp only [zb, x_rd hp.1 hp.2, h]
  rw [if_pos (xin hz.1 (by rw [List.length_map]; exact hz.2) (by rw [List.length_map]; omega)), x_getD hz.1 (by omega)]
theorem x_set {l : List Int} {z x : Int} (h1 : 0 ≤ z) (h2 : z ≤ 2147483647) : (l.map Int32.ofInt).set (Int32.ofInt z).toNatClampNeg (Int32.ofInt x) = (l.set z.toNat x).map Int32.ofInt := by
  rw [(xi_clamp h1 h2).2, List.map_set]
theorem x_iastore {p : Nat} {l : List Int} (hc : zcd (zt v0) mi pc = some (.iastore, a, b, c, v)) (hp : 50 ≤ p ∧ p < 204) (h : f p = xr 0 l) (hz : 0 ≤ z ∧ z < l.length) (hl : l.length ≤ 5000) (k : xz v0 xs u Q mi (pc + 1) lv r (xu f p (xr 0 (l.set z.toNat x)))) : xz v0 xs u Q mi pc lv (xi x :: xi z :: .ref p :: r) f := by
  refine x_c (q := (1, r, zput (xh f, u) p (xr 0 (l.set z.toNat x)))) hc ?_ ?_ k
  · simp only [zc]
    rw [if_neg (Nat.not_lt.mpr hp.1)]
    simp only [xh_at hp.1 hp.2, h]
    rw [if_pos (xin hz.1 (by rw [List.length_map]; exact hz.2) (by rw [List.length_map]; omega)), x_set hz.1 (by omega)]
  · show ((xh f).set (p - 50) _, u) = _
    rw [xh_set hp.1]
theorem x_castore {p : Nat} {l : List Int} (hc : zcd (zt v0) mi pc = some (.castore, a, b, c, v)) (hp : 50 ≤ p ∧ p < 204) (h : f p = xr 1 l) (hz : 0 ≤ z ∧ z < l.length) (hl : l.length ≤ 5000) (hv : vp_nar .char (Int32.ofInt x) = Int32.ofInt x) (k : xz v0 xs u Q mi (pc + 1) lv r (xu f p (xr 1 (l.set z.toNat x)))) : xz v0 xs u Q mi pc lv (xi x :: xi z :: .ref p :: r) f := by
  refine x_c (q := (1, r, zput (xh f, u) p (xr 1 (l.set z.toNat x)))) hc ?_ ?_ k
  · simp only [zc]
    rw [if_neg (Nat.not_lt.mpr hp.1)]
    simp only [xh_at hp.1 hp.2, h, hv]
    rw [if_pos (xin hz.1 (by rw [List.length_map]; exact hz.2) (by rw [List.length_map]; omega)), x_set hz.1 (by omega)]
  · show ((xh f).set (p - 50) _, u) = _
    rw [xh_set hp.1]
theorem x_bastore {p : Nat} {l : List Int} (hc : zcd (zt v0) mi pc = some (.bastore, a, b, c, v)) (hp : 50 ≤ p ∧ p < 204) (h : f p = xr 2 l) (hz : 0 ≤ z ∧ z < l.length) (hl : l.length ≤ 5000) (hv : vp_nar .boolean (Int32.ofInt x) = Int32.ofInt x) (k : xz v0 xs u Q mi (pc + 1) lv r (xu f p (xr 2 (l.set z.toNat x)))) : xz v0 xs u Q mi pc lv (xi x :: xi z :: .ref p :: r) f := by
  refine x_c (q := (1, r, zput (xh f, u) p (xr 2 (l.set z.toNat x)))) hc ?_ ?_ k
  · simp only [zc]
    rw [if_neg (Nat.not_lt.mpr hp.1)]
    simp only [xh_at hp.1 hp.2, h, hv]
    rw [if_pos (xin hz.1 (by rw [List.length_map]; exact hz.2) (by rw [List.length_map]; omega)), x_set hz.1 (by omega)]
  · show ((xh f).set (p - 50) _, u) = _
    rw [xh_set hp.1]
theorem x_laload {p : Nat} {l : List Int64} (hc : zcd (zt v0) mi pc = some (.laload, a, b, c, v)) (hp : 50 ≤ p ∧ p < 204) (h : f p = .inr (.inr (.inl l))) (hz : 0 ≤ z ∧ z < l.length) (hl : l.length ≤ 5000) (k : xz v0 xs u Q mi (pc + 1) lv (.long (l.getD z.toNat 0) :: r) f) : xz v0 xs u Q mi pc lv (xi z :: .ref p :: r) f := by
  refine x_b (q := (1, .long (l.getD z.toNat 0) :: r)) hc ?_ k
  simp only [zb, x_rd hp.1 hp.2, h]
  rw [if_pos (xin hz.1 hz.2 (by omega)), (xi_clamp hz.1 (by omega)).2]
theorem x_lastore {p : Nat} {g : Int64} {l : List Int64} (hc : zcd (zt v0) mi pc = some (.lastore, a, b, c, v)) (hp : 50 ≤ p ∧ p < 204) (h : f p = .inr (.inr (.inl l))) (hz : 0 ≤ z ∧ z < l.length) (hl : l.length ≤ 5000) (k : xz v0 xs u Q mi (pc + 1) lv r (xu f p (.inr (.inr (.inl (l.set z.toNat g)))))) : xz v0 xs u Q mi pc lv (.long g :: xi z :: .ref p :: r) f := by
  refine x_c (q := (1, r, zput (xh f, u) p (.inr (.inr (.inl (l.set z.toNat g)))))) hc ?_ ?_ k
  · simp only [zc]
    rw [if_neg (Nat.not_lt.mpr hp.1)]
    simp only [xh_at hp.1 hp.2, h]
    rw [if_pos (xin hz.1 hz.2 (by omega)), (xi_clamp hz.1 (by omega)).2]
  · show ((xh f).set (p - 50) _, u) = _
    rw [xh_set hp.1]
theorem x_aaload {p o : Nat} {l : List (Option Nat)} (hc : zcd (zt v0) mi pc = some (.aaload, a, b, c, v)) (hp : 50 ≤ p ∧ p < 204) (h : f p = .inr (.inr (.inr (a, l)))) (hz : 0 ≤ z ∧ z < l.length) (hl : l.length ≤ 5000) (ho : l.getD z.toNat none = some o) (k : xz v0 xs u Q mi (pc + 1) lv (.ref o :: r) f) : xz v0 xs u Q mi pc lv (xi z :: .ref p :: r) f := by
  refine x_b (q := (1, .ref o :: r)) hc ?_ k
  simp only [zb, x_rd hp.1 hp.2, h]
  rw [if_pos ⟨trivial, xin hz.1 hz.2 (by omega)⟩, (xi_clamp hz.1 (by omega)).2, ho]
theorem x_len {p : Nat} {l : List Int} (hc : zcd (zt v0) mi pc = some (.arraylength, a, b, c, v)) (hp : 50 ≤ p ∧ p < 204) (h : f p = xr 0 l) (k : xz v0 xs u Q mi (pc + 1) lv (xi l.length :: r) f) : xz v0 xs u Q mi pc lv (.ref p :: r) f := by
  refine x_b (q := (1, xi l.length :: r)) hc ?_ k
  simp only [zb, x_rd hp.1 hp.2, h]
  rw [if_pos (Or.inr trivial), List.length_map]
  rfl
theorem x_ireturn (hc : zcd (zt v0) mi pc = some (.ireturn, a, b, c, v)) (ha : a = 0 ∨ (a = 1 ∧ (Int32.ofInt z = 0 ∨ Int32.ofInt z = 1)) ∨ (a = 2 ∧ ((Int32.ofInt z).toUInt32 % 65536).toInt32 = Int32.ofInt z) ∨ (a = 3 ∧ (Int32.ofInt z).toInt8.toInt32 = Int32.ofInt z)) (k : Q (.inl (some (xi z))) (xh f, u)) : xz v0 xs u Q mi pc lv [xi z] f := by
  refine zwp_ret ⟨hc, rfl, rfl, rfl⟩ (r := some (xi z)) ?_ k
  simp only [zret]
  rw [if_pos ha]
theorem x_lreturn {g : Int64} (hc : zcd (zt v0) mi pc = some (.lreturn, a, b, c, v)) (k : Q (.inl (some (.long g))) (xh f, u)) : xz v0 xs u Q mi pc lv [.long g] f := zwp_ret ⟨hc, rfl, rfl, rfl⟩ (r := some (.long g)) rfl k
theorem x_areturn {p : Nat} (hc : zcd (zt v0) mi pc = some (.areturn, a, b, c, v)) (k : Q (.inl (some (.ref p))) (xh f, u)) : xz v0 xs u Q mi pc lv [.ref p] f := zwp_ret ⟨hc, rfl, rfl, rfl⟩ (r := some (.ref p)) rfl k
theorem x_return (hc : zcd (zt v0) mi pc = some (.return_, a, b, c, v)) (k : Q (.inl none) (xh f, u)) : xz v0 xs u Q mi pc lv [] f := zwp_ret ⟨hc, rfl, rfl, rfl⟩ (r := none) rfl k
theorem x_rcv {ci p : Nat} {fs as : List Value} (hp : 50 ≤ p ∧ p < 204) (h : f p = .inl (ci, fs)) : zrcv (zG xs) (xh f, u) (.ref ci) ((.ref p : Value) :: as) = true := by
  unfold zrcv
  simp only [x_rd hp.1 hp.2, h, decide_true]
theorem x_call {i : Instr} {P : Option Value → (Nat → zE) → Prop} (as : List Value) (hc : zcd (zt v0) mi pc = some (i, 0, b, as.length, v)) (hki : zki i = 2) (h8 : zcat r ≤ 8) (hn : zcat as ≤ znl (zt v0) b) (hrc : zrcv (zG xs) (xh f, u) v as.reverse = true) (hs : xq v0 xs u b (lv_args 0 as.reverse) f P) (k : ∀ r' f', P r' f' → xz v0 xs u Q mi (pc + 3) lv (r'.toList ++ r) f') : xz v0 xs u Q mi pc lv (as ++ r) f := by
  obtain ⟨z1, z2, z3, z4, z5⟩ := zk_za (G := zG xs) (df := zdf (zt v0)) (a := 0) (b := b) (c := as.length) (v := v) (nL := znl (zt v0) mi) (pc := pc) (lv := lv) (st := as ++ r) (X := (xh f, u)) hki
  have e1 : (as ++ r).take as.length = as := List.take_left
  have e2 : (as ++ r).drop as.length = r := List.drop_left
  refine zwp_call ⟨hc, z1, z2, z3⟩ z4 hki ⟨rfl, by simp, by rw [e2]; exact h8, by rw [e1]; exact hn, by rw [e1]; exact hrc⟩ ?_
  rw [e1, e2]
  refine zwp_mono hs fun o X' hq => ?_
  obtain ⟨r', f', rfl, rfl, hP⟩ := hq
  exact k r' f' hP
end xS
theorem xq_mono {v0 : Value} {xs : List Int32} {u : Nat × Nat} {mi : Nat} {lv : zL} {f : Nat → zE} {P P' : Option Value → (Nat → zE) → Prop} (h : xq v0 xs u mi lv f P) (hp : ∀ r f', P r f' → P' r f') : xq v0 xs u mi lv f P' := zwp_mono h fun o X' hq => by
  obtain ⟨r, f', h1, h2, h3⟩ := hq
  exact ⟨r, f', h1, h2, hp r f' h3⟩
