/-! Arrays that are given. -/
theorem x_gets {v0 : Value} {xs : List Int32} {u : Nat × Nat} {Q : zO → zX → Prop} {mi pc a b c n p : Nat} {lv : zL} {f : Nat → zE} {st : List Value} (hc : zcd (zt v0) mi pc = some (.getstatic n, a, b, c, .ref p)) (k : xz v0 xs u Q mi (pc + 3) lv (.ref p :: st) f) : xz v0 xs u Q mi pc lv st f := x_f (q := ((pc + 3), lv, (.ref p :: st))) hc rfl k
theorem x_gar {v0 : Value} {xs : List Int32} {u : Nat × Nat} {Q : zO → zX → Prop} {mi pc a b c g : Nat} {v : Value} {lv : zL} {r : List Value} {f : Nat → zE} {z : Int} {ys : List Int32} (hc : zcd (zt v0) mi pc = some (.iaload, a, b, c, v)) (hg : zrd (zG xs) (xh f, u) g = some (.inr (.inl (0, ys)))) (hz : 0 ≤ z ∧ z < ys.length) (hl : ys.length ≤ 5000) (k : xz v0 xs u Q mi (pc + 1) lv (.int (ys.getD z.toNat 0) :: r) f) : xz v0 xs u Q mi pc lv (xi z :: .ref g :: r) f := by
  refine x_b (q := (1, .int (ys.getD z.toNat 0) :: r)) hc ?_ k
  simp only [zb, hg]
  rw [if_pos (xin hz.1 hz.2 (by omega)), (xi_clamp hz.1 (by omega)).2]
theorem zg4_at : ∀ w : Nat, w < 4 → zg4.getD w 0 = Int32.ofInt (sstr (w : Nat)) := by decide
theorem zg4_len : zg4.length = 4 := rfl
theorem zg3_at : ∀ w : Nat, w < 7 → zg3.getD w 0 = Int32.ofInt (sexch (w : Nat)) := by decide
theorem zg3_len : zg3.length = 7 := rfl
/-! The class's gone: 100. -/
theorem xs_100t {v0 : Value} {xs : List Int32} {u : Nat × Nat} {f : Nat → zE} {p w g : Int} {b : Bool} {lv : zL} (hw : 0 ≤ w ∧ w ≤ 3) (l0 : zlv lv 0 = some (xi p)) (l3 : zlv lv 3 = some (xi w)) (l4 : zlv lv 4 = some (xi (if b = true then 1 else 0))) (hb : g = if b = true then -1 else p + 4 * sstr w) : xz v0 xs u (fun o X => ∃ r' f', o = .inl r' ∧ X = (xh f', u) ∧ r' = some (xi g) ∧ f' = f) 100 105 lv [] f := by
  refine x_iload rfl l4 ?_
  cases b with
  | true =>
    refine x_ifeq (t := 114) rfl rfl (by decide) (fun h => absurd h (by decide)) (fun _ => ?_)
    refine x_iconst rfl ?_
    refine x_goto (t := 123) rfl rfl ?_
    exact x_ireturn rfl (Or.inl rfl) ⟨_, _, rfl, rfl, by rw [hb]; rfl, rfl⟩
  | false =>
    refine x_ifeq (t := 114) rfl rfl (by decide) (fun _ => ?_) (fun h => absurd rfl h)
    refine x_iload_n rfl l0 ?_
    refine x_iconst rfl ?_
    refine x_gets rfl ?_
    refine x_iload_n rfl l3 ?_
    refine x_gar (ys := zg4) rfl rfl ⟨by omega, by rw [zg4_len]; omega⟩ (by decide) ?_
    rw [zg4_at w.toNat (by omega), show ((w.toNat : Nat) : Int) = w by omega]
    refine x_imul rfl ?_
    refine x_iadd rfl ?_
    exact x_ireturn rfl (Or.inl rfl) ⟨_, _, rfl, rfl, by rw [hb]; rfl, rfl⟩
theorem xs_100 {v0 : Value} {xs : List Int32} {u : Nat × Nat} {f : Nat → zE} {p q : Int} (hp : sok p) (hq : 0 ≤ q ∧ q ≤ 3) : xq v0 xs u 100 [(0, xi p), (1, xi q)] f (fun r' f' => r' = some (xi (sgo p ((p + q) % 4))) ∧ f' = f) := by
  unfold xq
  have hp0 := hp
  unfold sok at hp0
  refine x_iload_n rfl rfl ?_
  refine x_iconst rfl ?_
  refine x_idiv rfl ⟨by omega, by omega⟩ (by decide) ?_
  refine x_istore_n rfl (show (2 : Nat) < 5 from by decide) ?_
  refine x_iload_n rfl (xst_ne (by decide) rfl (Or.inl rfl)) ?_
  refine x_iload_n rfl (xst_ne (by decide) rfl (Or.inl rfl)) ?_
  refine x_iadd rfl ?_
  refine x_iconst rfl ?_
  refine x_irem rfl ⟨by omega, by omega⟩ (by decide) ?_
  refine x_istore_n rfl (show (3 : Nat) < 5 from by decide) ?_
  have hw : 0 ≤ (p + q) % 4 ∧ (p + q) % 4 ≤ 3 := by omega
  have hc := sgo_cls hp hw
  generalize (p + q) % 4 = w at hw hc ⊢
  have fin : ∀ (b : Bool) (lv : zL), (sgo p w = if b = true then -1 else p + 4 * sstr w) → zlv lv 0 = some (xi p) → zlv lv 3 = some (xi w) → zlv lv 4 = some (xi (if b = true then 1 else 0)) → xz v0 xs u (fun o X => ∃ r' f', o = .inl r' ∧ X = (xh f', u) ∧ r' = some (xi (sgo p w)) ∧ f' = f) 100 105 lv [] f := fun b lv h1 h2 h3 h4 => xs_100t hw h2 h3 h4 h1
  refine x_iload_n rfl xst_eq ?_
  rcases (show w = 0 ∨ w = 1 ∨ w = 2 ∨ w = 3 by omega) with rfl | rfl | rfl | rfl
  · refine x_sw (t := 36) (e := 25) rfl (by decide) (by decide) rfl ?_
    refine x_iload_n rfl (xst_ne (by decide) xst_eq (Or.inl rfl)) ?_
    refine x_bipush rfl (by decide) ?_
    refine x_idiv rfl ⟨by omega, by omega⟩ (by decide) ?_
    refine x_bipush rfl (by decide) ?_
    refine x_cne (t := 49) rfl rfl ⟨by omega, by omega⟩ (by decide) (fun h => ?_) (fun h => ?_)
    · refine x_iconst rfl ?_
      refine x_istore rfl (show (4 : Nat) < 5 from by decide) ?_
      refine x_goto (t := 105) rfl rfl ?_
      simp only [Int.reduceEq, if_true, if_false] at hc
      refine fin false _ ?_ (xst_ne (by decide) (xst_ne (by decide) (xst_ne (by decide) rfl (Or.inl rfl)) (Or.inl rfl)) (Or.inl rfl)) (xst_ne (by decide) xst_eq (Or.inl rfl)) xst_eq
      rw [if_neg (by omega)] at hc
      rw [hc]; rfl
    · refine x_iconst rfl ?_
      refine x_goto (t := 50) rfl rfl ?_
      refine x_istore rfl (show (4 : Nat) < 5 from by decide) ?_
      refine x_goto (t := 105) rfl rfl ?_
      simp only [Int.reduceEq, if_true, if_false] at hc
      refine fin true _ ?_ (xst_ne (by decide) (xst_ne (by decide) (xst_ne (by decide) rfl (Or.inl rfl)) (Or.inl rfl)) (Or.inl rfl)) (xst_ne (by decide) xst_eq (Or.inl rfl)) xst_eq
      rw [if_pos (by omega)] at hc
      rw [hc]; rfl
  · refine x_sw (t := 55) (e := 44) rfl (by decide) (by decide) rfl ?_
    refine x_iload_n rfl (xst_ne (by decide) xst_eq (Or.inl rfl)) ?_
    refine x_bipush rfl (by decide) ?_
    refine x_irem rfl ⟨by omega, by omega⟩ (by decide) ?_
    refine x_bipush rfl (by decide) ?_
    refine x_cne (t := 68) rfl rfl ⟨by omega, by omega⟩ (by decide) (fun h => ?_) (fun h => ?_)
    · refine x_iconst rfl ?_
      refine x_istore rfl (show (4 : Nat) < 5 from by decide) ?_
      refine x_goto (t := 105) rfl rfl ?_
      simp only [Int.reduceEq, if_true, if_false] at hc
      refine fin false _ ?_ (xst_ne (by decide) (xst_ne (by decide) (xst_ne (by decide) rfl (Or.inl rfl)) (Or.inl rfl)) (Or.inl rfl)) (xst_ne (by decide) xst_eq (Or.inl rfl)) xst_eq
      rw [if_neg (by omega)] at hc
      rw [hc]; rfl
    · refine x_iconst rfl ?_
      refine x_goto (t := 69) rfl rfl ?_
      refine x_istore rfl (show (4 : Nat) < 5 from by decide) ?_
      refine x_goto (t := 105) rfl rfl ?_
      simp only [Int.reduceEq, if_true, if_false] at hc
      refine fin true _ ?_ (xst_ne (by decide) (xst_ne (by decide) (xst_ne (by decide) rfl (Or.inl rfl)) (Or.inl rfl)) (Or.inl rfl)) (xst_ne (by decide) xst_eq (Or.inl rfl)) xst_eq
      rw [if_pos (by omega)] at hc
      rw [hc]; rfl
  · refine x_sw (t := 74) (e := 63) rfl (by decide) (by decide) rfl ?_
    refine x_iload_n rfl (xst_ne (by decide) xst_eq (Or.inl rfl)) ?_
    refine x_bipush rfl (by decide) ?_
    refine x_idiv rfl ⟨by omega, by omega⟩ (by decide) ?_
    refine x_ifne (t := 85) rfl rfl ⟨by omega, by omega⟩ (fun h => ?_) (fun h => ?_)
    · refine x_iconst rfl ?_
      refine x_istore rfl (show (4 : Nat) < 5 from by decide) ?_
      refine x_goto (t := 105) rfl rfl ?_
      simp only [Int.reduceEq, if_true, if_false] at hc
      refine fin false _ ?_ (xst_ne (by decide) (xst_ne (by decide) (xst_ne (by decide) rfl (Or.inl rfl)) (Or.inl rfl)) (Or.inl rfl)) (xst_ne (by decide) xst_eq (Or.inl rfl)) xst_eq
      rw [if_neg (by omega)] at hc
      rw [hc]; rfl
    · refine x_iconst rfl ?_
      refine x_goto (t := 86) rfl rfl ?_
      refine x_istore rfl (show (4 : Nat) < 5 from by decide) ?_
      refine x_goto (t := 105) rfl rfl ?_
      simp only [Int.reduceEq, if_true, if_false] at hc
      refine fin true _ ?_ (xst_ne (by decide) (xst_ne (by decide) (xst_ne (by decide) rfl (Or.inl rfl)) (Or.inl rfl)) (Or.inl rfl)) (xst_ne (by decide) xst_eq (Or.inl rfl)) xst_eq
      rw [if_pos (by omega)] at hc
      rw [hc]; rfl
  · refine x_sw (t := 91) (e := 80) rfl (by decide) (by decide) rfl ?_
    refine x_iload_n rfl (xst_ne (by decide) xst_eq (Or.inl rfl)) ?_
    refine x_bipush rfl (by decide) ?_
    refine x_irem rfl ⟨by omega, by omega⟩ (by decide) ?_
    refine x_ifne (t := 102) rfl rfl ⟨by omega, by omega⟩ (fun h => ?_) (fun h => ?_)
    · refine x_iconst rfl ?_
      refine x_istore rfl (show (4 : Nat) < 5 from by decide) ?_
      simp only [Int.reduceEq, if_true, if_false] at hc
      refine fin false _ ?_ (xst_ne (by decide) (xst_ne (by decide) (xst_ne (by decide) rfl (Or.inl rfl)) (Or.inl rfl)) (Or.inl rfl)) (xst_ne (by decide) xst_eq (Or.inl rfl)) xst_eq
      rw [if_neg (by omega)] at hc
      rw [hc]; rfl
    · refine x_iconst rfl ?_
      refine x_goto (t := 103) rfl rfl ?_
      refine x_istore rfl (show (4 : Nat) < 5 from by decide) ?_
      simp only [Int.reduceEq, if_true, if_false] at hc
      refine fin true _ ?_ (xst_ne (by decide) (xst_ne (by decide) (xst_ne (by decide) rfl (Or.inl rfl)) (Or.inl rfl)) (Or.inl rfl)) (xst_ne (by decide) xst_eq (Or.inl rfl)) xst_eq
      rw [if_pos (by omega)] at hc
      rw [hc]; rfl
/-! The class's turned and moved: 101, 102. -/
theorem xs_101 {v0 : Value} {xs : List Int32} {u : Nat × Nat} {f : Nat → zE} {p q : Int} (hp : sok p) (hq : 0 ≤ q ∧ q ≤ 3) : xq v0 xs u 101 [(0, xi p), (1, xi q)] f (fun r' f' => r' = some (xi (4 * (p / 4) + (p + q) % 4)) ∧ f' = f) := by
  unfold xq
  unfold sok at hp
  refine x_iload_n rfl rfl ?_
  refine x_iconst rfl ?_
  refine x_idiv rfl ⟨by omega, by omega⟩ (by decide) ?_
  refine x_iconst rfl ?_
  refine x_imul rfl ?_
  refine x_iload_n rfl rfl ?_
  refine x_iload_n rfl rfl ?_
  refine x_iadd rfl ?_
  refine x_iconst rfl ?_
  refine x_irem rfl ⟨by omega, by omega⟩ (by decide) ?_
  refine x_iadd rfl ?_
  exact x_ireturn rfl (Or.inl rfl) ⟨_, _, rfl, rfl, by rw [Int.mul_comm], rfl⟩
theorem xs_102 {v0 : Value} {xs : List Int32} {u : Nat × Nat} {f : Nat → zE} {p a : Int} (hp : sok p) (ha : 0 ≤ a ∧ a ≤ 6) : xq v0 xs u 102 [(0, xi p), (1, xi a)] f (fun r' f' => r' = some (xi (smv p a)) ∧ f' = f) := by
  unfold xq
  have hp0 := hp
  unfold sok at hp0
  refine x_iload_n rfl rfl ?_
  rcases (show a = 0 ∨ a = 1 ∨ a = 2 ∨ a = 3 ∨ a = 4 ∨ a = 5 ∨ a = 6 by omega) with rfl | rfl | rfl | rfl | rfl | rfl | rfl
  · refine x_sw (t := 76) (e := 75) rfl (by decide) (by decide) rfl ?_
    refine x_iload_n rfl rfl ?_
    exact x_ireturn rfl (Or.inl rfl) ⟨_, _, rfl, rfl, rfl, rfl⟩
  · refine x_sw (t := 40) (e := 39) rfl (by decide) (by decide) rfl ?_
    refine x_iload_n rfl rfl ?_
    refine x_iconst rfl ?_
    refine x_call [_, _] rfl rfl (show (0 : Nat) ≤ 8 from by decide) (show (2 : Nat) ≤ 5 from by decide) rfl (xs_100 hp (by decide)) (fun r' f1 hP => ?_)
    obtain ⟨rfl, rfl⟩ := hP
    refine x_ireturn rfl (Or.inl rfl) ⟨_, _, rfl, rfl, ?_, rfl⟩
    have e : (p + 0) % 4 = sway (sF p) 1 := by
      unfold sway sF
      simp only [Int.reduceEq, if_true, if_false]
      omega
    rw [e]; rfl
  · refine x_sw (t := 52) (e := 51) rfl (by decide) (by decide) rfl ?_
    refine x_iload_n rfl rfl ?_
    refine x_iconst rfl ?_
    refine x_call [_, _] rfl rfl (show (0 : Nat) ≤ 8 from by decide) (show (2 : Nat) ≤ 5 from by decide) rfl (xs_100 hp (by decide)) (fun r' f1 hP => ?_)
    obtain ⟨rfl, rfl⟩ := hP
    refine x_ireturn rfl (Or.inl rfl) ⟨_, _, rfl, rfl, ?_, rfl⟩
    have e : (p + 2) % 4 = sway (sF p) 2 := by
      unfold sway sF
      simp only [Int.reduceEq, if_true, if_false]
      omega
    rw [e]; rfl
  · refine x_sw (t := 58) (e := 57) rfl (by decide) (by decide) rfl ?_
    refine x_iload_n rfl rfl ?_
    refine x_iconst rfl ?_
    refine x_call [_, _] rfl rfl (show (0 : Nat) ≤ 8 from by decide) (show (2 : Nat) ≤ 5 from by decide) rfl (xs_100 hp (by decide)) (fun r' f1 hP => ?_)
    obtain ⟨rfl, rfl⟩ := hP
    refine x_ireturn rfl (Or.inl rfl) ⟨_, _, rfl, rfl, ?_, rfl⟩
    have e : (p + 3) % 4 = sway (sF p) 3 := by
      unfold sway sF
      simp only [Int.reduceEq, if_true, if_false]
      omega
    rw [e]; rfl
  · refine x_sw (t := 46) (e := 45) rfl (by decide) (by decide) rfl ?_
    refine x_iload_n rfl rfl ?_
    refine x_iconst rfl ?_
    refine x_call [_, _] rfl rfl (show (0 : Nat) ≤ 8 from by decide) (show (2 : Nat) ≤ 5 from by decide) rfl (xs_100 hp (by decide)) (fun r' f1 hP => ?_)
    obtain ⟨rfl, rfl⟩ := hP
    refine x_ireturn rfl (Or.inl rfl) ⟨_, _, rfl, rfl, ?_, rfl⟩
    have e : (p + 1) % 4 = sway (sF p) 4 := by
      unfold sway sF
      simp only [Int.reduceEq, if_true, if_false]
      omega
    rw [e]; rfl
  · refine x_sw (t := 70) (e := 69) rfl (by decide) (by decide) rfl ?_
    refine x_iload_n rfl rfl ?_
    refine x_iconst rfl ?_
    refine x_call [_, _] rfl rfl (show (0 : Nat) ≤ 8 from by decide) (show (2 : Nat) ≤ 2 from by decide) rfl (xs_101 hp (by decide)) (fun r' f1 hP => ?_)
    obtain ⟨rfl, rfl⟩ := hP
    exact x_ireturn rfl (Or.inl rfl) ⟨_, _, rfl, rfl, rfl, rfl⟩
  · refine x_sw (t := 64) (e := 63) rfl (by decide) (by decide) rfl ?_
    refine x_iload_n rfl rfl ?_
    refine x_iconst rfl ?_
    refine x_call [_, _] rfl rfl (show (0 : Nat) ≤ 8 from by decide) (show (2 : Nat) ≤ 2 from by decide) rfl (xs_101 hp (by decide)) (fun r' f1 hP => ?_)
    obtain ⟨rfl, rfl⟩ := hP
    exact x_ireturn rfl (Or.inl rfl) ⟨_, _, rfl, rfl, rfl, rfl⟩
