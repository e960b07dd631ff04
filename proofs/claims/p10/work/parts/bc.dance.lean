/-! The model's selectors: 114 to 117. -/
theorem sm_or_z (a : Int) : Int32.ofInt a ||| Int32.ofInt 0 = Int32.ofInt a := by
  rw [show Int32.ofInt 0 = 0 from rfl]
  exact Int32.or_zero
theorem sm_cpl (P : Nat → Bool) : smk (fun d => !P d) 8 = 255 - smk P 8 := by
  have h : ∀ k, smk (fun d => !P d) k + smk P k = ((2 ^ k : Nat) : Int) - 1 := by
    intro k
    induction k with
    | zero => rfl
    | succ k ih =>
      simp only [smk, Nat.pow_succ]
      by_cases hP : P k = true
      · rw [if_neg (by rw [hP]; decide), if_pos hP]; omega
      · rw [if_pos (by rw [bool_f hP]; rfl), if_neg hP]; omega
  have := h 8
  have e : ((2 ^ 8 : Nat) : Int) = 256 := rfl
  omega
theorem s_i2l {z : Int} (h : -2147483648 ≤ z ∧ z ≤ 2147483647) : (Int32.ofInt z).toInt64 = Int64.ofInt z := by
  apply Int64.toInt_inj.mp
  rw [Int32.toInt_toInt64, xi_toInt h.1 h.2, Int64.toInt_ofInt_of_le (by omega) (by omega)]
theorem s_far64 (A B y x : Int) : (100 : Int64) * (Int64.ofInt A * Int64.ofInt A + Int64.ofInt B * Int64.ofInt B) + Int64.ofInt (10 * y) + Int64.ofInt x = Int64.ofInt (100 * (A * A + B * B) + (10 * y + x)) := by
  rw [show (100 * (A * A + B * B) + (10 * y + x)) = 100 * (A * A + B * B) + 10 * y + x from by omega, Int64.ofInt_add (100 * (A * A + B * B) + 10 * y) x, Int64.ofInt_add (100 * (A * A + B * B)) (10 * y), Int64.ofInt_mul 100 (A * A + B * B), Int64.ofInt_add (A * A) (B * B), Int64.ofInt_mul A A, Int64.ofInt_mul B B]
  rfl
theorem s_lt64 {a b : Int} (ha : 0 ≤ a ∧ a < 2000000) (hb : 0 ≤ b ∧ b < 2000000) : Int64.ofInt a < Int64.ofInt b ↔ a < b := by
  rw [Int64.lt_iff_toInt_lt, Int64.toInt_ofInt_of_le (by omega) (by omega), Int64.toInt_ofInt_of_le (by omega) (by omega)]
theorem s_mul {a w : Int} (ha : -9 ≤ a ∧ a ≤ 9) (hw : -1 ≤ w ∧ w ≤ 1) : -9 ≤ a * w ∧ a * w ≤ 9 := by
  rcases (show w = -1 ∨ w = 0 ∨ w = 1 by omega) with rfl | rfl | rfl <;> omega
theorem ssum8 {g : Nat → Int} (hg : ∀ e, e < 8 → 0 ≤ g e ∧ g e ≤ 9) : 0 ≤ ssum g 8 ∧ ssum g 8 ≤ 72 := by
  simp only [ssum]
  have := hg 0 (by omega); have := hg 1 (by omega); have := hg 2 (by omega); have := hg 3 (by omega)
  have := hg 4 (by omega); have := hg 5 (by omega); have := hg 6 (by omega); have := hg 7 (by omega)
  omega
theorem xs_114l {v0 : Value} {xs : List Int32} {u : Nat × Nat} {f : Nat → zE} {fs : List Value} {ax ay af : List Int} {at' : Int} {r : Nat → Int} {d : Nat} (hmo : sMO f fs) (hmc : sMC f ax ay af) (hr : sML ax ay af at' r) (hd : d < 8) : ∀ (k e : Nat) (lv : zL), k + e = 8 → zlv lv 0 = some (.ref 177) → zlv lv 1 = some (xi at') → zlv lv 2 = some (xi (d : Nat)) → zlv lv 3 = some (xi (ssum (fun e => sX (r e)) e)) → zlv lv 4 = some (xi (ssum (fun e => sY (r e)) e)) → zlv lv 5 = some (xi (at' + (e : Nat))) → xz v0 xs u (fun o X => ∃ r' f', o = .inl r' ∧ X = (xh f', u) ∧ (fun r' f' => r' = some (.long (Int64.ofInt (sfar r d))) ∧ f' = f) r' f') 114 8 lv [] f := by
  obtain ⟨h177, hfl, -, h25, h26, h27⟩ := hmo
  obtain ⟨h192, h193, h194, hx, hy, hf⟩ := hmc
  obtain ⟨g0, g1, hrow⟩ := hr
  intro k
  induction k with
  | zero =>
    intro e lv hk l0 l1 l2 l3 l4 l5
    have e8 : e = 8 := by omega
    subst e8
    obtain ⟨⟨px, py, -⟩, pok⟩ := hrow d hd
    have rx := sX_rg pok
    have ry := sY_rg pok
    have sx := ssum8 (g := fun e => sX (r e)) (fun e he => sX_rg (hrow e he).2)
    have sy := ssum8 (g := fun e => sY (r e)) (fun e he => sY_rg (hrow e he).2)
    refine x_iload rfl l5 ?_
    refine x_iload_n rfl l1 ?_
    refine x_bipush rfl (by decide) ?_
    refine x_iadd rfl ?_
    refine x_cge (t := 45) rfl rfl ⟨by omega, by omega⟩ ⟨by omega, by omega⟩ (fun _ => ?_) (fun h => absurd h (by omega))
    refine x_bipush rfl (by decide) ?_
    refine x_aload_n rfl l0 ?_
    refine x_getfield rfl (by decide) h177 h25 ?_
    refine x_iload_n rfl l1 ?_
    refine x_iload_n rfl l2 ?_
    refine x_iadd rfl ?_
    refine x_iaload rfl (by decide) h192 ⟨by omega, by omega⟩ (by omega) ?_
    rw [px]
    refine x_imul rfl ?_
    refine x_iload_n rfl l3 ?_
    refine x_isub rfl ?_
    refine x_i2l rfl ?_
    rw [s_i2l ⟨by omega, by omega⟩]
    refine x_lstore rfl (show (5 : Nat) + 1 < 9 from by decide) ?_
    refine x_bipush rfl (by decide) ?_
    refine x_aload_n rfl (xst2_ne (by decide) (by decide) l0 (Or.inl rfl)) ?_
    refine x_getfield rfl (by decide) h177 h26 ?_
    refine x_iload_n rfl (xst2_ne (by decide) (by decide) l1 (Or.inl rfl)) ?_
    refine x_iload_n rfl (xst2_ne (by decide) (by decide) l2 (Or.inl rfl)) ?_
    refine x_iadd rfl ?_
    refine x_iaload rfl (by decide) h193 ⟨by omega, by omega⟩ (by omega) ?_
    rw [py]
    refine x_imul rfl ?_
    refine x_iload rfl (xst2_ne (by decide) (by decide) l4 (Or.inl rfl)) ?_
    refine x_isub rfl ?_
    refine x_i2l rfl ?_
    rw [s_i2l ⟨by omega, by omega⟩]
    refine x_lstore rfl (show (7 : Nat) + 1 < 9 from by decide) ?_
    refine x_ldc2 rfl ?_
    refine x_lload rfl (xst2_ne (by decide) (by decide) xst2_eq (Or.inr (by decide))) ?_
    refine x_lload rfl (xst2_ne (by decide) (by decide) xst2_eq (Or.inr (by decide))) ?_
    refine x_lmul rfl ?_
    refine x_lload rfl xst2_eq ?_
    refine x_lload rfl xst2_eq ?_
    refine x_lmul rfl ?_
    refine x_ladd rfl ?_
    refine x_lmul rfl ?_
    refine x_bipush rfl (by decide) ?_
    refine x_aload_n rfl (xst2_ne (by decide) (by decide) (xst2_ne (by decide) (by decide) l0 (Or.inl rfl)) (Or.inl rfl)) ?_
    refine x_getfield rfl (by decide) h177 h26 ?_
    refine x_iload_n rfl (xst2_ne (by decide) (by decide) (xst2_ne (by decide) (by decide) l1 (Or.inl rfl)) (Or.inl rfl)) ?_
    refine x_iload_n rfl (xst2_ne (by decide) (by decide) (xst2_ne (by decide) (by decide) l2 (Or.inl rfl)) (Or.inl rfl)) ?_
    refine x_iadd rfl ?_
    refine x_iaload rfl (by decide) h193 ⟨by omega, by omega⟩ (by omega) ?_
    rw [py]
    refine x_imul rfl ?_
    refine x_i2l rfl ?_
    rw [s_i2l ⟨by omega, by omega⟩]
    refine x_ladd rfl ?_
    refine x_aload_n rfl (xst2_ne (by decide) (by decide) (xst2_ne (by decide) (by decide) l0 (Or.inl rfl)) (Or.inl rfl)) ?_
    refine x_getfield rfl (by decide) h177 h25 ?_
    refine x_iload_n rfl (xst2_ne (by decide) (by decide) (xst2_ne (by decide) (by decide) l1 (Or.inl rfl)) (Or.inl rfl)) ?_
    refine x_iload_n rfl (xst2_ne (by decide) (by decide) (xst2_ne (by decide) (by decide) l2 (Or.inl rfl)) (Or.inl rfl)) ?_
    refine x_iadd rfl ?_
    refine x_iaload rfl (by decide) h192 ⟨by omega, by omega⟩ (by omega) ?_
    rw [px]
    refine x_i2l rfl ?_
    rw [s_i2l ⟨by omega, by omega⟩]
    refine x_ladd rfl ?_
    refine x_lreturn rfl ⟨_, _, rfl, rfl, ?_, rfl⟩
    show some (Value.long _) = some (Value.long _)
    rw [show (100 : Int64) * _ + _ + _ = _ from s_far64 _ _ _ _]
    rfl
  | succ k ih =>
    intro e lv hk l0 l1 l2 l3 l4 l5
    have he : e < 8 := by omega
    obtain ⟨⟨px, py, -⟩, pok⟩ := hrow e he
    refine x_iload rfl l5 ?_
    refine x_iload_n rfl l1 ?_
    refine x_bipush rfl (by decide) ?_
    refine x_iadd rfl ?_
    refine x_cge (t := 45) rfl rfl ⟨by omega, by omega⟩ ⟨by omega, by omega⟩ (fun h => absurd h (by omega)) (fun _ => ?_)
    refine x_iload_n rfl l3 ?_
    refine x_aload_n rfl l0 ?_
    refine x_getfield rfl (by decide) h177 h25 ?_
    refine x_iload rfl l5 ?_
    refine x_iaload rfl (by decide) h192 ⟨by omega, by omega⟩ (by omega) ?_
    rw [px]
    refine x_iadd rfl ?_
    refine x_istore_n rfl (show (3 : Nat) < 9 from by decide) ?_
    refine x_iload rfl (xst_ne (by decide) l4 (Or.inl rfl)) ?_
    refine x_aload_n rfl (xst_ne (by decide) l0 (Or.inl rfl)) ?_
    refine x_getfield rfl (by decide) h177 h26 ?_
    refine x_iload rfl (xst_ne (by decide) l5 (Or.inl rfl)) ?_
    refine x_iaload rfl (by decide) h193 ⟨by omega, by omega⟩ (by omega) ?_
    rw [py]
    refine x_iadd rfl ?_
    refine x_istore rfl (show (4 : Nat) < 9 from by decide) ?_
    refine x_iinc rfl (xst_ne (by decide) (xst_ne (by decide) l5 (Or.inl rfl)) (Or.inl rfl)) (show (5 : Nat) < 9 from by decide) ?_
    refine x_goto (t := 8) rfl rfl ?_
    exact ih (e + 1) _ (by omega) (xst_ne (by decide) (xst_ne (by decide) (xst_ne (by decide) l0 (Or.inl rfl)) (Or.inl rfl)) (Or.inl rfl)) (xst_ne (by decide) (xst_ne (by decide) (xst_ne (by decide) l1 (Or.inl rfl)) (Or.inl rfl)) (Or.inl rfl)) (xst_ne (by decide) (xst_ne (by decide) (xst_ne (by decide) l2 (Or.inl rfl)) (Or.inl rfl)) (Or.inl rfl)) (xst_ne (by decide) (xst_ne (by decide) xst_eq (Or.inl rfl)) (Or.inl rfl)) (xst_ne (by decide) xst_eq (Or.inl rfl)) (by rw [show at' + ((e + 1 : Nat) : Int) = at' + (e : Nat) + 1 from by omega]; exact xst_eq)
theorem xs_114 {v0 : Value} {xs : List Int32} {u : Nat × Nat} {f : Nat → zE} {fs : List Value} {ax ay af : List Int} {at' : Int} {r : Nat → Int} {d : Nat} (hmo : sMO f fs) (hmc : sMC f ax ay af) (hr : sML ax ay af at' r) (hd : d < 8) : xq v0 xs u 114 [(0, .ref 177), (1, xi at'), (2, xi (d : Nat))] f (fun r' f' => r' = some (.long (Int64.ofInt (sfar r d))) ∧ f' = f) := by
  unfold xq
  refine x_iconst rfl ?_
  refine x_istore_n rfl (show (3 : Nat) < 9 from by decide) ?_
  refine x_iconst rfl ?_
  refine x_istore rfl (show (4 : Nat) < 9 from by decide) ?_
  refine x_iload_n rfl (xst_ne (by decide) (xst_ne (by decide) rfl (Or.inl rfl)) (Or.inl rfl)) ?_
  refine x_istore rfl (show (5 : Nat) < 9 from by decide) ?_
  exact xs_114l hmo hmc hr hd 8 0 _ rfl (xst_ne (by decide) (xst_ne (by decide) (xst_ne (by decide) rfl (Or.inl rfl)) (Or.inl rfl)) (Or.inl rfl)) (xst_ne (by decide) (xst_ne (by decide) (xst_ne (by decide) rfl (Or.inl rfl)) (Or.inl rfl)) (Or.inl rfl)) (xst_ne (by decide) (xst_ne (by decide) (xst_ne (by decide) rfl (Or.inl rfl)) (Or.inl rfl)) (Or.inl rfl)) (xst_ne (by decide) (xst_ne (by decide) xst_eq (Or.inl rfl)) (Or.inl rfl)) (xst_ne (by decide) xst_eq (Or.inl rfl)) (by rw [show at' + ((0 : Nat) : Int) = at' from by omega]; exact xst_eq)
theorem xs_115i {v0 : Value} {xs : List Int32} {u : Nat × Nat} {Q : zO → zX → Prop} {f : Nat → zE} {fs : List Value} {ax ay af : List Int} {at' : Int} {r : Nat → Int} {d : Nat} {ch : Int} (hmo : sMO f fs) (hmc : sMC f ax ay af) (hr : sML ax ay af at' r) (hd : d < 8) (hk : ∀ lv : zL, zlv lv 0 = some (.ref 177) → zlv lv 1 = some (xi at') → zlv lv 2 = some (xi ch) → zlv lv 3 = some (xi (d : Nat)) → zlv lv 4 = some (xi (scnt (fun e => decide (sfar r e < sfar r d))  8)) → xz v0 xs u Q 115 56 lv [] f) : ∀ (k e : Nat) (lv : zL), k + e = 8 → zlv lv 0 = some (.ref 177) → zlv lv 1 = some (xi at') → zlv lv 2 = some (xi ch) → zlv lv 3 = some (xi (d : Nat)) → zlv lv 4 = some (xi (scnt (fun e => decide (sfar r e < sfar r d))  e)) → zlv lv 5 = some (xi (e : Nat)) → xz v0 xs u Q 115 16 lv [] f := by
  have h177 := hmo.1
  have hok : ∀ e, e < 8 → sok (r e) := fun e he => (hr.2.2 e he).2
  have rd := sfar_rg hok d hd
  intro k
  induction k with
  | zero =>
    intro e lv hk2 l0 l1 l2 l3 l4 l5
    have e8 : e = 8 := by omega
    subst e8
    refine x_iload rfl l5 ?_
    refine x_bipush rfl (by decide) ?_
    refine x_cge (t := 56) rfl rfl (by decide) (by decide) (fun _ => ?_) (fun h => absurd h (by decide))
    exact hk lv l0 l1 l2 l3 l4
  | succ k ih =>
    intro e lv hk2 l0 l1 l2 l3 l4 l5
    have he : e < 8 := by omega
    have re := sfar_rg hok e he
    refine x_iload rfl l5 ?_
    refine x_bipush rfl (by decide) ?_
    refine x_cge (t := 56) rfl rfl ⟨by omega, by omega⟩ (by decide) (fun h => absurd h (by omega)) (fun _ => ?_)
    refine x_iload rfl l4 ?_
    refine x_aload_n rfl l0 ?_
    refine x_iload_n rfl l1 ?_
    refine x_iload rfl l5 ?_
    refine x_call [_, _, _] rfl rfl (show (1 : Nat) ≤ 8 from by decide) (show (3 : Nat) ≤ 9 from by decide) (x_rcv (by decide) h177) (xs_114 hmo hmc hr he) ?_
    intro r' f1 hP
    obtain ⟨rfl, rfl⟩ := hP
    refine x_aload_n rfl l0 ?_
    refine x_iload_n rfl l1 ?_
    refine x_iload_n rfl l3 ?_
    refine x_call [_, _, _] rfl rfl (show (3 : Nat) ≤ 8 from by decide) (show (3 : Nat) ≤ 9 from by decide) (x_rcv (by decide) h177) (xs_114 hmo hmc hr hd) ?_
    intro r' f1 hP
    obtain ⟨rfl, rfl⟩ := hP
    refine x_lcmp rfl ?_
    refine x_lge (t := 46) rfl rfl (fun hlt => ?_) (fun hlt => ?_)
    · rw [s_lt64 re rd] at hlt
      refine x_iconst rfl ?_
      refine x_iadd rfl ?_
      refine x_istore rfl (show (4 : Nat) < 6 from by decide) ?_
      refine x_iinc rfl (xst_ne (by decide) l5 (Or.inl rfl)) (show (5 : Nat) < 6 from by decide) ?_
      refine x_goto (t := 16) rfl rfl ?_
      refine ih (e + 1) _ (by omega) (xst_ne (by decide) (xst_ne (by decide) l0 (Or.inl rfl)) (Or.inl rfl)) (xst_ne (by decide) (xst_ne (by decide) l1 (Or.inl rfl)) (Or.inl rfl)) (xst_ne (by decide) (xst_ne (by decide) l2 (Or.inl rfl)) (Or.inl rfl)) (xst_ne (by decide) (xst_ne (by decide) l3 (Or.inl rfl)) (Or.inl rfl)) ?_ xst_eq
      have e4 : scnt (fun e => decide (sfar r e < sfar r d))  (e + 1) = scnt (fun e => decide (sfar r e < sfar r d))  e + 0 := by
        simp only [scnt]
        rw [if_neg (by rw [decide_eq_true_eq]; exact hlt)]
      rw [e4]
      exact (xst_ne (by decide) xst_eq (Or.inl rfl))
    · rw [s_lt64 re rd] at hlt
      refine x_iconst rfl ?_
      refine x_goto (t := 47) rfl rfl ?_
      refine x_iadd rfl ?_
      refine x_istore rfl (show (4 : Nat) < 6 from by decide) ?_
      refine x_iinc rfl (xst_ne (by decide) l5 (Or.inl rfl)) (show (5 : Nat) < 6 from by decide) ?_
      refine x_goto (t := 16) rfl rfl ?_
      refine ih (e + 1) _ (by omega) (xst_ne (by decide) (xst_ne (by decide) l0 (Or.inl rfl)) (Or.inl rfl)) (xst_ne (by decide) (xst_ne (by decide) l1 (Or.inl rfl)) (Or.inl rfl)) (xst_ne (by decide) (xst_ne (by decide) l2 (Or.inl rfl)) (Or.inl rfl)) (xst_ne (by decide) (xst_ne (by decide) l3 (Or.inl rfl)) (Or.inl rfl)) ?_ xst_eq
      have e4 : scnt (fun e => decide (sfar r e < sfar r d))  (e + 1) = scnt (fun e => decide (sfar r e < sfar r d))  e + 1 := by
        simp only [scnt]
        rw [if_pos (by rw [decide_eq_true_eq]; exact hlt)]
      rw [e4]
      exact (xst_ne (by decide) xst_eq (Or.inl rfl))
theorem xs_115o {v0 : Value} {xs : List Int32} {u : Nat × Nat} {f : Nat → zE} {fs : List Value} {ax ay af : List Int} {at' : Int} {r : Nat → Int} (hmo : sMO f fs) (hmc : sMC f ax ay af) (hr : sML ax ay af at' r) : ∀ (k d : Nat) (lv : zL), k + d = 8 → zlv lv 0 = some (.ref 177) → zlv lv 1 = some (xi at') → zlv lv 2 = some (xi (smk (scen r) d)) → zlv lv 3 = some (xi (d : Nat)) → xz v0 xs u (fun o X => ∃ r' f', o = .inl r' ∧ X = (xh f', u) ∧ (fun r' f' => r' = some (xi (smk (scen r) 8)) ∧ f' = f) r' f') 115 4 lv [] f := by
  intro k
  induction k with
  | zero =>
    intro d lv hk2 l0 l1 l2 l3
    have e8 : d = 8 := by omega
    subst e8
    refine x_iload_n rfl l3 ?_
    refine x_bipush rfl (by decide) ?_
    refine x_cge (t := 78) rfl rfl (by decide) (by decide) (fun _ => ?_) (fun h => absurd h (by decide))
    refine x_iload_n rfl l2 ?_
    exact x_ireturn rfl (Or.inl rfl) ⟨_, _, rfl, rfl, rfl, rfl⟩
  | succ k ih =>
    intro d lv hk2 l0 l1 l2 l3
    have hd : d < 8 := by omega
    have hc8 := scnt_rg (fun e => decide (sfar r e < sfar r d)) 8
    refine x_iload_n rfl l3 ?_
    refine x_bipush rfl (by decide) ?_
    refine x_cge (t := 78) rfl rfl ⟨by omega, by omega⟩ (by decide) (fun h => absurd h (by omega)) (fun _ => ?_)
    refine x_iconst rfl ?_
    refine x_istore rfl (show (4 : Nat) < 6 from by decide) ?_
    refine x_iconst rfl ?_
    refine x_istore rfl (show (5 : Nat) < 6 from by decide) ?_
    refine xs_115i hmo hmc hr hd (fun lv2 m0 m1 m2 m3 m4 => ?_) 8 0 _ rfl (xst_ne (by decide) (xst_ne (by decide) l0 (Or.inl rfl)) (Or.inl rfl)) (xst_ne (by decide) (xst_ne (by decide) l1 (Or.inl rfl)) (Or.inl rfl)) (xst_ne (by decide) (xst_ne (by decide) l2 (Or.inl rfl)) (Or.inl rfl)) (xst_ne (by decide) (xst_ne (by decide) l3 (Or.inl rfl)) (Or.inl rfl)) (xst_ne (by decide) xst_eq (Or.inl rfl)) xst_eq
    refine x_iload_n rfl m2 ?_
    refine x_iload rfl m4 ?_
    refine x_iconst rfl ?_
    refine x_cge (t := 69) rfl rfl ⟨by omega, by omega⟩ (by decide) (fun hlt => ?_) (fun hlt => ?_)
    · refine x_iconst rfl ?_
      refine x_iorg rfl (sm_or_z _) ?_
      refine x_istore_n rfl (show (2 : Nat) < 6 from by decide) ?_
      refine x_iinc rfl (xst_ne (by decide) m3 (Or.inl rfl)) (show (3 : Nat) < 6 from by decide) ?_
      refine x_goto (t := 4) rfl rfl ?_
      refine ih (d + 1) _ (by omega) (xst_ne (by decide) (xst_ne (by decide) m0 (Or.inl rfl)) (Or.inl rfl)) (xst_ne (by decide) (xst_ne (by decide) m1 (Or.inl rfl)) (Or.inl rfl)) ?_ xst_eq
      have e4 : smk (scen r) (d + 1) = smk (scen r) d + 0 := by
        simp only [smk]
        rw [if_neg (by unfold scen; rw [decide_eq_true_eq]; omega)]
      rw [e4, Int.add_zero]
      exact (xst_ne (by decide) xst_eq (Or.inl rfl))
    · refine x_iconst rfl ?_
      refine x_iload_n rfl m3 ?_
      refine x_ishl rfl ?_
      refine x_goto (t := 70) rfl rfl ?_
      refine x_iorg rfl (sm_orbit _ hd) ?_
      refine x_istore_n rfl (show (2 : Nat) < 6 from by decide) ?_
      refine x_iinc rfl (xst_ne (by decide) m3 (Or.inl rfl)) (show (3 : Nat) < 6 from by decide) ?_
      refine x_goto (t := 4) rfl rfl ?_
      refine ih (d + 1) _ (by omega) (xst_ne (by decide) (xst_ne (by decide) m0 (Or.inl rfl)) (Or.inl rfl)) (xst_ne (by decide) (xst_ne (by decide) m1 (Or.inl rfl)) (Or.inl rfl)) ?_ xst_eq
      have e4 : smk (scen r) (d + 1) = smk (scen r) d + ((2 ^ d : Nat) : Int) := by
        simp only [smk]
        rw [if_pos (by unfold scen; rw [decide_eq_true_eq]; omega)]
      rw [e4]
      exact (xst_ne (by decide) xst_eq (Or.inl rfl))
theorem xs_115 {v0 : Value} {xs : List Int32} {u : Nat × Nat} {f : Nat → zE} {fs : List Value} {ax ay af : List Int} {at' : Int} {r : Nat → Int} (hmo : sMO f fs) (hmc : sMC f ax ay af) (hr : sML ax ay af at' r) : xq v0 xs u 115 [(0, .ref 177), (1, xi at')] f (fun r' f' => r' = some (xi (smk (scen r) 8)) ∧ f' = f) := by
  unfold xq
  refine x_iconst rfl ?_
  refine x_istore_n rfl (show (2 : Nat) < 6 from by decide) ?_
  refine x_iconst rfl ?_
  refine x_istore_n rfl (show (3 : Nat) < 6 from by decide) ?_
  exact xs_115o hmo hmc hr 8 0 _ rfl (xst_ne (by decide) (xst_ne (by decide) rfl (Or.inl rfl)) (Or.inl rfl)) (xst_ne (by decide) (xst_ne (by decide) rfl (Or.inl rfl)) (Or.inl rfl)) (xst_ne (by decide) xst_eq (Or.inl rfl)) xst_eq
/-- who is known to be alone before pair k -/
def sal (r : Nat → Int) (t : Int) (k d : Nat) : Bool := sall (fun e => !slies (r d) (r e) ((sF (r d) + t) % 4)) (min 8 (k - 8 * d))
theorem sal_0 (r : Nat → Int) (t : Int) : smk (sal r t 0) 8 = 255 := by
  rw [← sm_255]
  refine smk_congr 8 (fun d _ => ?_)
  unfold sal
  rw [show min 8 (0 - 8 * d) = 0 from by omega]
  rfl
theorem sal_64 (r : Nat → Int) (t : Int) : smk (sal r t 64) 8 = smk (salone r t) 8 := by
  refine smk_congr 8 (fun d hd => ?_)
  unfold sal salone
  rw [show min 8 (64 - 8 * d) = 8 from by omega]
theorem sal_s (r : Nat → Int) (t : Int) {d e : Nat} (he : e < 8) (d' : Nat) : sal r t (8 * d + e + 1) d' = if d' = d then (sal r t (8 * d + e) d' && !slies (r d) (r e) ((sF (r d) + t) % 4)) else sal r t (8 * d + e) d' := by
  unfold sal
  by_cases h : d' = d
  · subst h
    rw [if_pos rfl, show min 8 (8 * d' + e + 1 - 8 * d') = e + 1 from by omega, show min 8 (8 * d' + e - 8 * d') = e from by omega]
    rfl
  · rw [if_neg h]
    by_cases h2 : d' < d
    · rw [show min 8 (8 * d + e + 1 - 8 * d') = 8 from by omega, show min 8 (8 * d + e - 8 * d') = 8 from by omega]
    · rw [show min 8 (8 * d + e + 1 - 8 * d') = 0 from by omega, show min 8 (8 * d + e - 8 * d') = 0 from by omega]
theorem sm_and255 (P : Nat → Bool) : (Int32.ofInt (smk P 8) &&& Int32.ofInt 255) = Int32.ofInt (smk P 8) := by
  rw [← sm_255, sm_and]
  congr 2
  exact funext fun d => Bool.and_true _
theorem xs_116l {v0 : Value} {xs : List Int32} {u : Nat × Nat} {f : Nat → zE} {fs : List Value} {ax ay af : List Int} {at' t : Int} {r : Nat → Int} (hmo : sMO f fs) (hmc : sMC f ax ay af) (hr : sML ax ay af at' r) (ht : 0 ≤ t ∧ t ≤ 3) : ∀ (w k : Nat) (lv : zL), w + k = 64 → zlv lv 0 = some (.ref 177) → zlv lv 1 = some (xi at') → zlv lv 2 = some (xi t) → zlv lv 3 = some (xi (smk (sal r t k) 8)) → zlv lv 4 = some (xi (k : Nat)) → xz v0 xs u (fun o X => ∃ r' f', o = .inl r' ∧ X = (xh f', u) ∧ (fun r' f' => r' = some (xi (smk (salone r t) 8)) ∧ f' = f) r' f') 116 7 lv [] f := by
  obtain ⟨h177, hfl, -, h25, h26, h27⟩ := hmo
  obtain ⟨h192, h193, h194, hx, hy, hf⟩ := hmc
  obtain ⟨g0, g1, hrow⟩ := hr
  intro w
  induction w with
  | zero =>
    intro k lv hk l0 l1 l2 l3 l4
    have e8 : k = 64 := by omega
    subst e8
    refine x_iload rfl l4 ?_
    refine x_bipush rfl (by decide) ?_
    refine x_cge (t := 161) rfl rfl (by decide) (by decide) (fun _ => ?_) (fun h => absurd h (by decide))
    refine x_iload_n rfl l3 ?_
    exact x_ireturn rfl (Or.inl rfl) ⟨_, _, rfl, rfl, by rw [sal_64], rfl⟩
  | succ w ih =>
    intro k lv hk l0 l1 l2 l3 l4
    obtain ⟨d, e, hd, he, hde⟩ : ∃ d e : Nat, d < 8 ∧ e < 8 ∧ k = 8 * d + e := ⟨k / 8, k % 8, by omega, by omega, by omega⟩
    subst hde
    obtain ⟨⟨px, py, pf⟩, pok⟩ := hrow d hd
    obtain ⟨⟨qx, qy, -⟩, qok⟩ := hrow e he
    have rx := sX_rg pok
    have ry := sY_rg pok
    have tx := sX_rg qok
    have ty := sY_rg qok
    have fr := sF_rg (r d)
    have dx1 := sdx_rg ((sF (r d) + t) % 4)
    have dy1 := sdy_rg ((sF (r d) + t) % 4)
    have m1 := s_mul (a := sX (r e) - sX (r d)) ⟨by omega, by omega⟩ dy1
    have m2 := s_mul (a := sY (r e) - sY (r d)) ⟨by omega, by omega⟩ dx1
    have m3 := s_mul (a := sX (r e) - sX (r d)) ⟨by omega, by omega⟩ dx1
    have m4 := s_mul (a := sY (r e) - sY (r d)) ⟨by omega, by omega⟩ dy1
    have T : ∀ (lv : zL) (b : Bool), b = slies (r d) (r e) ((sF (r d) + t) % 4) → zlv lv 0 = some (.ref 177) → zlv lv 1 = some (xi at') → zlv lv 2 = some (xi t) → zlv lv 3 = some (xi (smk (sal r t (8 * d + e)) 8)) → zlv lv 4 = some (xi ((8 * d + e : Nat) : Nat)) → xz v0 xs u (fun o X => ∃ r' f', o = .inl r' ∧ X = (xh f', u) ∧ (fun r' f' => r' = some (xi (smk (salone r t) 8)) ∧ f' = f) r' f') 116 130 lv [xi (if b = true then 1 else 0)] f := by
      intro lv b hb l0 l1 l2 l3 l4
      refine x_istore rfl (show (10 : Nat) < 11 from by decide) ?_
      refine x_iload_n rfl (xst_ne (by decide) l3 (Or.inl rfl)) ?_
      refine x_iload rfl xst_eq ?_
      by_cases h : b = true
      · rw [if_pos h]
        refine x_ifeq (t := 150) rfl rfl (by decide) (fun h => absurd h (by decide)) (fun _ => ?_)
        refine x_iconst rfl ?_
        refine x_iload rfl (xst_ne (by decide) l4 (Or.inl rfl)) ?_
        refine x_bipush rfl (by decide) ?_
        refine x_idiv rfl ⟨by omega, by omega⟩ (by decide) ?_
        rw [show ((8 * d + e : Nat) : Int) / 8 = ((d : Nat) : Int) from by omega]
        refine x_ishl rfl ?_
        refine x_iconst rfl ?_
        refine x_ixorg rfl rfl ?_
        refine x_goto (t := 153) rfl rfl ?_
        refine x_iandg2 rfl (sm_strike _ hd) ?_
        refine x_istore_n rfl (show (3 : Nat) < 11 from by decide) ?_
        refine x_iinc rfl (xst_ne (by decide) (xst_ne (by decide) l4 (Or.inl rfl)) (Or.inl rfl)) (show (4 : Nat) < 11 from by decide) ?_
        refine x_goto (t := 7) rfl rfl ?_
        refine ih (8 * d + e + 1) _ (by omega) (xst_ne (by decide) (xst_ne (by decide) (xst_ne (by decide) l0 (Or.inl rfl)) (Or.inl rfl)) (Or.inl rfl)) (xst_ne (by decide) (xst_ne (by decide) (xst_ne (by decide) l1 (Or.inl rfl)) (Or.inl rfl)) (Or.inl rfl)) (xst_ne (by decide) (xst_ne (by decide) (xst_ne (by decide) l2 (Or.inl rfl)) (Or.inl rfl)) (Or.inl rfl)) ?_ xst_eq
        have e4 : smk (sal r t (8 * d + e + 1)) 8 = smk (fun d_1 => sal r t (8 * d + e) d_1 && !(d_1 == d)) 8 := by
          refine smk_congr 8 (fun d' _ => ?_)
          rw [sal_s r t he d', ← hb, h]
          by_cases h5 : d' = d
          · rw [if_pos h5, h5]; simp
          · rw [if_neg h5]; simp [h5]
        rw [e4]
        exact (xst_ne (by decide) xst_eq (Or.inl rfl))
      · rw [if_neg h]
        refine x_ifeq (t := 150) rfl rfl (by decide) (fun _ => ?_) (fun h => absurd rfl h)
        refine x_sipush rfl (by decide) ?_
        refine x_iandg2 rfl (sm_and255 _) ?_
        refine x_istore_n rfl (show (3 : Nat) < 11 from by decide) ?_
        refine x_iinc rfl (xst_ne (by decide) (xst_ne (by decide) l4 (Or.inl rfl)) (Or.inl rfl)) (show (4 : Nat) < 11 from by decide) ?_
        refine x_goto (t := 7) rfl rfl ?_
        refine ih (8 * d + e + 1) _ (by omega) (xst_ne (by decide) (xst_ne (by decide) (xst_ne (by decide) l0 (Or.inl rfl)) (Or.inl rfl)) (Or.inl rfl)) (xst_ne (by decide) (xst_ne (by decide) (xst_ne (by decide) l1 (Or.inl rfl)) (Or.inl rfl)) (Or.inl rfl)) (xst_ne (by decide) (xst_ne (by decide) (xst_ne (by decide) l2 (Or.inl rfl)) (Or.inl rfl)) (Or.inl rfl)) ?_ xst_eq
        have e4 : smk (sal r t (8 * d + e + 1)) 8 = smk (sal r t (8 * d + e)) 8 := by
          refine smk_congr 8 (fun d' _ => ?_)
          rw [sal_s r t he d', ← hb, bool_f h]
          by_cases h5 : d' = d
          · rw [if_pos h5]; simp
          · rw [if_neg h5]
        rw [e4]
        exact (xst_ne (by decide) xst_eq (Or.inl rfl))
    refine x_iload rfl l4 ?_
    refine x_bipush rfl (by decide) ?_
    refine x_cge (t := 161) rfl rfl ⟨by omega, by omega⟩ (by decide) (fun h => absurd h (by omega)) (fun _ => ?_)
    refine x_iload_n rfl l1 ?_
    refine x_iload rfl l4 ?_
    refine x_bipush rfl (by decide) ?_
    refine x_idiv rfl ⟨by omega, by omega⟩ (by decide) ?_
    rw [show ((8 * d + e : Nat) : Int) / 8 = ((d : Nat) : Int) from by omega]
    refine x_iadd rfl ?_
    refine x_istore rfl (show (5 : Nat) < 11 from by decide) ?_
    refine x_iload_n rfl (xst_ne (by decide) l1 (Or.inl rfl)) ?_
    refine x_iload rfl (xst_ne (by decide) l4 (Or.inl rfl)) ?_
    refine x_bipush rfl (by decide) ?_
    refine x_irem rfl ⟨by omega, by omega⟩ (by decide) ?_
    rw [show ((8 * d + e : Nat) : Int) % 8 = ((e : Nat) : Int) from by omega]
    refine x_iadd rfl ?_
    refine x_istore rfl (show (6 : Nat) < 11 from by decide) ?_
    refine x_aload_n rfl (xst_ne (by decide) (xst_ne (by decide) l0 (Or.inl rfl)) (Or.inl rfl)) ?_
    refine x_getfield rfl (by decide) h177 h27 ?_
    refine x_iload rfl (xst_ne (by decide) xst_eq (Or.inl rfl)) ?_
    refine x_iaload rfl (by decide) h194 ⟨by omega, by omega⟩ (by omega) ?_
    rw [pf]
    refine x_iload_n rfl (xst_ne (by decide) (xst_ne (by decide) l2 (Or.inl rfl)) (Or.inl rfl)) ?_
    refine x_iadd rfl ?_
    refine x_iconst rfl ?_
    refine x_irem rfl ⟨by omega, by omega⟩ (by decide) ?_
    refine x_istore rfl (show (7 : Nat) < 11 from by decide) ?_
    refine x_aload_n rfl (xst_ne (by decide) (xst_ne (by decide) (xst_ne (by decide) l0 (Or.inl rfl)) (Or.inl rfl)) (Or.inl rfl)) ?_
    refine x_getfield rfl (by decide) h177 h25 ?_
    refine x_iload rfl (xst_ne (by decide) xst_eq (Or.inl rfl)) ?_
    refine x_iaload rfl (by decide) h192 ⟨by omega, by omega⟩ (by omega) ?_
    rw [qx]
    refine x_aload_n rfl (xst_ne (by decide) (xst_ne (by decide) (xst_ne (by decide) l0 (Or.inl rfl)) (Or.inl rfl)) (Or.inl rfl)) ?_
    refine x_getfield rfl (by decide) h177 h25 ?_
    refine x_iload rfl (xst_ne (by decide) (xst_ne (by decide) xst_eq (Or.inl rfl)) (Or.inl rfl)) ?_
    refine x_iaload rfl (by decide) h192 ⟨by omega, by omega⟩ (by omega) ?_
    rw [px]
    refine x_isub rfl ?_
    refine x_istore rfl (show (8 : Nat) < 11 from by decide) ?_
    refine x_aload_n rfl (xst_ne (by decide) (xst_ne (by decide) (xst_ne (by decide) (xst_ne (by decide) l0 (Or.inl rfl)) (Or.inl rfl)) (Or.inl rfl)) (Or.inl rfl)) ?_
    refine x_getfield rfl (by decide) h177 h26 ?_
    refine x_iload rfl (xst_ne (by decide) (xst_ne (by decide) xst_eq (Or.inl rfl)) (Or.inl rfl)) ?_
    refine x_iaload rfl (by decide) h193 ⟨by omega, by omega⟩ (by omega) ?_
    rw [qy]
    refine x_aload_n rfl (xst_ne (by decide) (xst_ne (by decide) (xst_ne (by decide) (xst_ne (by decide) l0 (Or.inl rfl)) (Or.inl rfl)) (Or.inl rfl)) (Or.inl rfl)) ?_
    refine x_getfield rfl (by decide) h177 h26 ?_
    refine x_iload rfl (xst_ne (by decide) (xst_ne (by decide) (xst_ne (by decide) xst_eq (Or.inl rfl)) (Or.inl rfl)) (Or.inl rfl)) ?_
    refine x_iaload rfl (by decide) h193 ⟨by omega, by omega⟩ (by omega) ?_
    rw [py]
    refine x_isub rfl ?_
    refine x_istore rfl (show (9 : Nat) < 11 from by decide) ?_
    refine x_iload rfl (xst_ne (by decide) (xst_ne (by decide) (xst_ne (by decide) (xst_ne (by decide) xst_eq (Or.inl rfl)) (Or.inl rfl)) (Or.inl rfl)) (Or.inl rfl)) ?_
    refine x_iload rfl (xst_ne (by decide) (xst_ne (by decide) (xst_ne (by decide) xst_eq (Or.inl rfl)) (Or.inl rfl)) (Or.inl rfl)) ?_
    refine x_ceq (t := 129) rfl rfl ⟨by omega, by omega⟩ ⟨by omega, by omega⟩ (fun heq => ?_) (fun hne => ?_)
    · refine x_iconst rfl ?_
      exact T _ false (by rw [show d = e from by omega, slies_self]) (xst_ne (by decide) (xst_ne (by decide) (xst_ne (by decide) (xst_ne (by decide) (xst_ne (by decide) l0 (Or.inl rfl)) (Or.inl rfl)) (Or.inl rfl)) (Or.inl rfl)) (Or.inl rfl)) (xst_ne (by decide) (xst_ne (by decide) (xst_ne (by decide) (xst_ne (by decide) (xst_ne (by decide) l1 (Or.inl rfl)) (Or.inl rfl)) (Or.inl rfl)) (Or.inl rfl)) (Or.inl rfl)) (xst_ne (by decide) (xst_ne (by decide) (xst_ne (by decide) (xst_ne (by decide) (xst_ne (by decide) l2 (Or.inl rfl)) (Or.inl rfl)) (Or.inl rfl)) (Or.inl rfl)) (Or.inl rfl)) (xst_ne (by decide) (xst_ne (by decide) (xst_ne (by decide) (xst_ne (by decide) (xst_ne (by decide) l3 (Or.inl rfl)) (Or.inl rfl)) (Or.inl rfl)) (Or.inl rfl)) (Or.inl rfl)) (xst_ne (by decide) (xst_ne (by decide) (xst_ne (by decide) (xst_ne (by decide) (xst_ne (by decide) l4 (Or.inl rfl)) (Or.inl rfl)) (Or.inl rfl)) (Or.inl rfl)) (Or.inl rfl))
    · refine x_iload rfl (xst_ne (by decide) xst_eq (Or.inl rfl)) ?_
      refine x_iload rfl (xst_ne (by decide) (xst_ne (by decide) xst_eq (Or.inl rfl)) (Or.inl rfl)) ?_
      refine x_call [_] rfl rfl (show (1 : Nat) ≤ 8 from by decide) (show (1 : Nat) ≤ 1 from by decide) rfl (xs_112 ⟨by omega, by omega⟩) ?_
      intro r' f1 hP
      obtain ⟨rfl, rfl⟩ := hP
      refine x_imul rfl ?_
      refine x_iload rfl xst_eq ?_
      refine x_iload rfl (xst_ne (by decide) (xst_ne (by decide) xst_eq (Or.inl rfl)) (Or.inl rfl)) ?_
      refine x_call [_] rfl rfl (show (2 : Nat) ≤ 8 from by decide) (show (1 : Nat) ≤ 1 from by decide) rfl (xs_111 ⟨by omega, by omega⟩) ?_
      intro r' f1 hP
      obtain ⟨rfl, rfl⟩ := hP
      refine x_imul rfl ?_
      refine x_cne (t := 129) rfl rfl ⟨by omega, by omega⟩ ⟨by omega, by omega⟩ (fun hn1 => ?_) (fun he1 => ?_)
      · refine x_iconst rfl ?_
        exact T _ false (by unfold slies; simp [hn1]) (xst_ne (by decide) (xst_ne (by decide) (xst_ne (by decide) (xst_ne (by decide) (xst_ne (by decide) l0 (Or.inl rfl)) (Or.inl rfl)) (Or.inl rfl)) (Or.inl rfl)) (Or.inl rfl)) (xst_ne (by decide) (xst_ne (by decide) (xst_ne (by decide) (xst_ne (by decide) (xst_ne (by decide) l1 (Or.inl rfl)) (Or.inl rfl)) (Or.inl rfl)) (Or.inl rfl)) (Or.inl rfl)) (xst_ne (by decide) (xst_ne (by decide) (xst_ne (by decide) (xst_ne (by decide) (xst_ne (by decide) l2 (Or.inl rfl)) (Or.inl rfl)) (Or.inl rfl)) (Or.inl rfl)) (Or.inl rfl)) (xst_ne (by decide) (xst_ne (by decide) (xst_ne (by decide) (xst_ne (by decide) (xst_ne (by decide) l3 (Or.inl rfl)) (Or.inl rfl)) (Or.inl rfl)) (Or.inl rfl)) (Or.inl rfl)) (xst_ne (by decide) (xst_ne (by decide) (xst_ne (by decide) (xst_ne (by decide) (xst_ne (by decide) l4 (Or.inl rfl)) (Or.inl rfl)) (Or.inl rfl)) (Or.inl rfl)) (Or.inl rfl))
      · refine x_iload rfl (xst_ne (by decide) xst_eq (Or.inl rfl)) ?_
        refine x_iload rfl (xst_ne (by decide) (xst_ne (by decide) xst_eq (Or.inl rfl)) (Or.inl rfl)) ?_
        refine x_call [_] rfl rfl (show (1 : Nat) ≤ 8 from by decide) (show (1 : Nat) ≤ 1 from by decide) rfl (xs_111 ⟨by omega, by omega⟩) ?_
        intro r' f1 hP
        obtain ⟨rfl, rfl⟩ := hP
        refine x_imul rfl ?_
        refine x_iload rfl xst_eq ?_
        refine x_iload rfl (xst_ne (by decide) (xst_ne (by decide) xst_eq (Or.inl rfl)) (Or.inl rfl)) ?_
        refine x_call [_] rfl rfl (show (2 : Nat) ≤ 8 from by decide) (show (1 : Nat) ≤ 1 from by decide) rfl (xs_112 ⟨by omega, by omega⟩) ?_
        intro r' f1 hP
        obtain ⟨rfl, rfl⟩ := hP
        refine x_imul rfl ?_
        refine x_iadd rfl ?_
        refine x_ifle (t := 129) rfl rfl ⟨by omega, by omega⟩ (fun hn2 => ?_) (fun he2 => ?_)
        · refine x_iconst rfl ?_
          exact T _ false (by unfold slies; rw [decide_eq_true he1, Bool.true_and, decide_eq_false (by omega)]) (xst_ne (by decide) (xst_ne (by decide) (xst_ne (by decide) (xst_ne (by decide) (xst_ne (by decide) l0 (Or.inl rfl)) (Or.inl rfl)) (Or.inl rfl)) (Or.inl rfl)) (Or.inl rfl)) (xst_ne (by decide) (xst_ne (by decide) (xst_ne (by decide) (xst_ne (by decide) (xst_ne (by decide) l1 (Or.inl rfl)) (Or.inl rfl)) (Or.inl rfl)) (Or.inl rfl)) (Or.inl rfl)) (xst_ne (by decide) (xst_ne (by decide) (xst_ne (by decide) (xst_ne (by decide) (xst_ne (by decide) l2 (Or.inl rfl)) (Or.inl rfl)) (Or.inl rfl)) (Or.inl rfl)) (Or.inl rfl)) (xst_ne (by decide) (xst_ne (by decide) (xst_ne (by decide) (xst_ne (by decide) (xst_ne (by decide) l3 (Or.inl rfl)) (Or.inl rfl)) (Or.inl rfl)) (Or.inl rfl)) (Or.inl rfl)) (xst_ne (by decide) (xst_ne (by decide) (xst_ne (by decide) (xst_ne (by decide) (xst_ne (by decide) l4 (Or.inl rfl)) (Or.inl rfl)) (Or.inl rfl)) (Or.inl rfl)) (Or.inl rfl))
        · refine x_iconst rfl ?_
          refine x_goto (t := 130) rfl rfl ?_
          exact T _ true (by unfold slies; rw [decide_eq_true he1, Bool.true_and, decide_eq_true he2]) (xst_ne (by decide) (xst_ne (by decide) (xst_ne (by decide) (xst_ne (by decide) (xst_ne (by decide) l0 (Or.inl rfl)) (Or.inl rfl)) (Or.inl rfl)) (Or.inl rfl)) (Or.inl rfl)) (xst_ne (by decide) (xst_ne (by decide) (xst_ne (by decide) (xst_ne (by decide) (xst_ne (by decide) l1 (Or.inl rfl)) (Or.inl rfl)) (Or.inl rfl)) (Or.inl rfl)) (Or.inl rfl)) (xst_ne (by decide) (xst_ne (by decide) (xst_ne (by decide) (xst_ne (by decide) (xst_ne (by decide) l2 (Or.inl rfl)) (Or.inl rfl)) (Or.inl rfl)) (Or.inl rfl)) (Or.inl rfl)) (xst_ne (by decide) (xst_ne (by decide) (xst_ne (by decide) (xst_ne (by decide) (xst_ne (by decide) l3 (Or.inl rfl)) (Or.inl rfl)) (Or.inl rfl)) (Or.inl rfl)) (Or.inl rfl)) (xst_ne (by decide) (xst_ne (by decide) (xst_ne (by decide) (xst_ne (by decide) (xst_ne (by decide) l4 (Or.inl rfl)) (Or.inl rfl)) (Or.inl rfl)) (Or.inl rfl)) (Or.inl rfl))
theorem xs_116 {v0 : Value} {xs : List Int32} {u : Nat × Nat} {f : Nat → zE} {fs : List Value} {ax ay af : List Int} {at' t : Int} {r : Nat → Int} (hmo : sMO f fs) (hmc : sMC f ax ay af) (hr : sML ax ay af at' r) (ht : 0 ≤ t ∧ t ≤ 3) : xq v0 xs u 116 [(0, .ref 177), (1, xi at'), (2, xi t)] f (fun r' f' => r' = some (xi (smk (salone r t) 8)) ∧ f' = f) := by
  unfold xq
  refine x_sipush rfl (by decide) ?_
  refine x_istore_n rfl (show (3 : Nat) < 11 from by decide) ?_
  refine x_iconst rfl ?_
  refine x_istore rfl (show (4 : Nat) < 11 from by decide) ?_
  exact xs_116l hmo hmc hr ht 64 0 _ rfl (xst_ne (by decide) (xst_ne (by decide) rfl (Or.inl rfl)) (Or.inl rfl)) (xst_ne (by decide) (xst_ne (by decide) rfl (Or.inl rfl)) (Or.inl rfl)) (xst_ne (by decide) (xst_ne (by decide) rfl (Or.inl rfl)) (Or.inl rfl)) (by rw [sal_0]; exact (xst_ne (by decide) xst_eq (Or.inl rfl))) xst_eq
theorem xs_117l {v0 : Value} {xs : List Int32} {u : Nat × Nat} {f : Nat → zE} {fs : List Value} {ax ay af : List Int} {at' s : Int} {r : Nat → Int} (hmo : sMO f fs) (hmc : sMC f ax ay af) (hr : sML ax ay af at' r) (hs : 5 ≤ s ∧ s ≤ 8) : ∀ (k d : Nat) (lv : zL), k + d = 8 → zlv lv 0 = some (.ref 177) → zlv lv 1 = some (xi s) → zlv lv 2 = some (xi at') → zlv lv 3 = some (xi (smk (fun d => sF (r d) == s - 5) d)) → zlv lv 4 = some (xi (d : Nat)) → xz v0 xs u (fun o X => ∃ r' f', o = .inl r' ∧ X = (xh f', u) ∧ (fun r' f' => r' = some (xi (smk (fun d => sF (r d) == s - 5) 8)) ∧ f' = f) r' f') 117 121 lv [] f := by
  obtain ⟨h177, hfl, -, h25, h26, h27⟩ := hmo
  obtain ⟨h192, h193, h194, hx, hy, hf⟩ := hmc
  obtain ⟨g0, g1, hrow⟩ := hr
  intro k
  induction k with
  | zero =>
    intro d lv hk l0 l1 l2 l3 l4
    have e8 : d = 8 := by omega
    subst e8
    refine x_iload rfl l4 ?_
    refine x_bipush rfl (by decide) ?_
    refine x_cge (t := 160) rfl rfl (by decide) (by decide) (fun _ => ?_) (fun h => absurd h (by decide))
    refine x_iload_n rfl l3 ?_
    exact x_ireturn rfl (Or.inl rfl) ⟨_, _, rfl, rfl, rfl, rfl⟩
  | succ k ih =>
    intro d lv hk l0 l1 l2 l3 l4
    have hd : d < 8 := by omega
    obtain ⟨⟨-, -, pf⟩, pok⟩ := hrow d hd
    have fr := sF_rg (r d)
    refine x_iload rfl l4 ?_
    refine x_bipush rfl (by decide) ?_
    refine x_cge (t := 160) rfl rfl ⟨by omega, by omega⟩ (by decide) (fun h => absurd h (by omega)) (fun _ => ?_)
    refine x_iload_n rfl l3 ?_
    refine x_aload_n rfl l0 ?_
    refine x_getfield rfl (by decide) h177 h27 ?_
    refine x_iload_n rfl l2 ?_
    refine x_iload rfl l4 ?_
    refine x_iadd rfl ?_
    refine x_iaload rfl (by decide) h194 ⟨by omega, by omega⟩ (by omega) ?_
    rw [pf]
    refine x_iload_n rfl l1 ?_
    refine x_iconst rfl ?_
    refine x_isub rfl ?_
    refine x_cne (t := 151) rfl rfl ⟨by omega, by omega⟩ ⟨by omega, by omega⟩ (fun hne => ?_) (fun heq => ?_)
    · refine x_iconst rfl ?_
      refine x_iorg rfl (sm_or_z _) ?_
      refine x_istore_n rfl (show (3 : Nat) < 5 from by decide) ?_
      refine x_iinc rfl (xst_ne (by decide) l4 (Or.inl rfl)) (show (4 : Nat) < 5 from by decide) ?_
      refine x_goto (t := 121) rfl rfl ?_
      refine ih (d + 1) _ (by omega) (xst_ne (by decide) (xst_ne (by decide) l0 (Or.inl rfl)) (Or.inl rfl)) (xst_ne (by decide) (xst_ne (by decide) l1 (Or.inl rfl)) (Or.inl rfl)) (xst_ne (by decide) (xst_ne (by decide) l2 (Or.inl rfl)) (Or.inl rfl)) ?_ xst_eq
      have e4 : smk (fun d => sF (r d) == s - 5)  (d + 1) = smk (fun d => sF (r d) == s - 5)  d + 0 := by
        simp only [smk]
        rw [if_neg (by rw [beq_iff_eq]; omega)]
      rw [e4, Int.add_zero]
      exact (xst_ne (by decide) xst_eq (Or.inl rfl))
    · refine x_iconst rfl ?_
      refine x_iload rfl l4 ?_
      refine x_ishl rfl ?_
      refine x_goto (t := 152) rfl rfl ?_
      refine x_iorg rfl (sm_orbit _ hd) ?_
      refine x_istore_n rfl (show (3 : Nat) < 5 from by decide) ?_
      refine x_iinc rfl (xst_ne (by decide) l4 (Or.inl rfl)) (show (4 : Nat) < 5 from by decide) ?_
      refine x_goto (t := 121) rfl rfl ?_
      refine ih (d + 1) _ (by omega) (xst_ne (by decide) (xst_ne (by decide) l0 (Or.inl rfl)) (Or.inl rfl)) (xst_ne (by decide) (xst_ne (by decide) l1 (Or.inl rfl)) (Or.inl rfl)) (xst_ne (by decide) (xst_ne (by decide) l2 (Or.inl rfl)) (Or.inl rfl)) ?_ xst_eq
      have e4 : smk (fun d => sF (r d) == s - 5)  (d + 1) = smk (fun d => sF (r d) == s - 5)  d + ((2 ^ d : Nat) : Int) := by
        simp only [smk]
        rw [if_pos (by rw [beq_iff_eq]; omega)]
      rw [e4]
      exact (xst_ne (by decide) xst_eq (Or.inl rfl))
theorem xs_117 {v0 : Value} {xs : List Int32} {u : Nat × Nat} {f : Nat → zE} {fs : List Value} {ax ay af : List Int} {at' s : Int} {r : Nat → Int} (hmo : sMO f fs) (hmc : sMC f ax ay af) (hr : sML ax ay af at' r) (hs : 0 ≤ s ∧ s ≤ 12) : xq v0 xs u 117 [(0, .ref 177), (1, xi s), (2, xi at')] f (fun r' f' => r' = some (xi (smk (shas s r) 8)) ∧ f' = f) := by
  unfold xq
  have h177 := hmo.1
  have hsh : ∀ P : Nat → Bool, (∀ d, d < 8 → P d = shas s r d) → smk P 8 = smk (shas s r) 8 := fun P h => smk_congr 8 h
  refine x_iload_n rfl rfl ?_
  rcases (show s = 0 ∨ s = 1 ∨ s = 2 ∨ s = 3 ∨ s = 4 ∨ s = 5 ∨ s = 6 ∨ s = 7 ∨ s = 8 ∨ s = 9 ∨ s = 10 ∨ s = 11 ∨ s = 12 by omega) with rfl | rfl | rfl | rfl | rfl | rfl | rfl | rfl | rfl | rfl | rfl | rfl | rfl
  · refine x_sw (t := 68) (e := 67) rfl (by decide) (by decide) rfl ?_
    refine x_sipush rfl (by decide) ?_
    exact x_ireturn rfl (Or.inl rfl) ⟨_, _, rfl, rfl, by rw [← hsh (fun _ => true) (fun d hd => rfl), sm_255], rfl⟩
  · refine x_sw (t := 72) (e := 71) rfl (by decide) (by decide) rfl ?_
    refine x_bipush rfl (by decide) ?_
    exact x_ireturn rfl (Or.inl rfl) ⟨_, _, rfl, rfl, by rw [← hsh (fun d => d % 2 == 0) (fun d hd => rfl), sm_consts.1], rfl⟩
  · refine x_sw (t := 75) (e := 74) rfl (by decide) (by decide) rfl ?_
    refine x_sipush rfl (by decide) ?_
    exact x_ireturn rfl (Or.inl rfl) ⟨_, _, rfl, rfl, by rw [← hsh (fun d => d % 2 == 1) (fun d hd => rfl), sm_consts.2.1], rfl⟩
  · refine x_sw (t := 79) (e := 78) rfl (by decide) (by decide) rfl ?_
    refine x_bipush rfl (by decide) ?_
    exact x_ireturn rfl (Or.inl rfl) ⟨_, _, rfl, rfl, by rw [← hsh (fun d => decide (d % 4 < 2)) (fun d hd => rfl), sm_consts.2.2.1], rfl⟩
  · refine x_sw (t := 82) (e := 81) rfl (by decide) (by decide) rfl ?_
    refine x_sipush rfl (by decide) ?_
    exact x_ireturn rfl (Or.inl rfl) ⟨_, _, rfl, rfl, by rw [← hsh (fun d => decide (2 ≤ d % 4)) (fun d hd => rfl), sm_consts.2.2.2], rfl⟩
  · refine x_sw (t := 116) (e := 115) rfl (by decide) (by decide) rfl ?_
    refine x_iconst rfl ?_
    refine x_istore_n rfl (show (3 : Nat) < 5 from by decide) ?_
    refine x_iconst rfl ?_
    refine x_istore rfl (show (4 : Nat) < 5 from by decide) ?_
    refine zwp_mono (xs_117l hmo hmc hr (by decide) 8 0 _ rfl (xst_ne (by decide) (xst_ne (by decide) rfl (Or.inl rfl)) (Or.inl rfl)) (xst_ne (by decide) (xst_ne (by decide) rfl (Or.inl rfl)) (Or.inl rfl)) (xst_ne (by decide) (xst_ne (by decide) rfl (Or.inl rfl)) (Or.inl rfl)) (xst_ne (by decide) xst_eq (Or.inl rfl)) xst_eq) ?_
    intro o X' hq
    obtain ⟨r9, f9, e1, e2, e3, e4⟩ := hq
    exact ⟨r9, f9, e1, e2, by rw [e3, ← hsh (fun d => sF (r d) == (5 : Int) - 5) (fun d hd => rfl)], e4⟩
  · refine x_sw (t := 116) (e := 115) rfl (by decide) (by decide) rfl ?_
    refine x_iconst rfl ?_
    refine x_istore_n rfl (show (3 : Nat) < 5 from by decide) ?_
    refine x_iconst rfl ?_
    refine x_istore rfl (show (4 : Nat) < 5 from by decide) ?_
    refine zwp_mono (xs_117l hmo hmc hr (by decide) 8 0 _ rfl (xst_ne (by decide) (xst_ne (by decide) rfl (Or.inl rfl)) (Or.inl rfl)) (xst_ne (by decide) (xst_ne (by decide) rfl (Or.inl rfl)) (Or.inl rfl)) (xst_ne (by decide) (xst_ne (by decide) rfl (Or.inl rfl)) (Or.inl rfl)) (xst_ne (by decide) xst_eq (Or.inl rfl)) xst_eq) ?_
    intro o X' hq
    obtain ⟨r9, f9, e1, e2, e3, e4⟩ := hq
    exact ⟨r9, f9, e1, e2, by rw [e3, ← hsh (fun d => sF (r d) == (6 : Int) - 5) (fun d hd => rfl)], e4⟩
  · refine x_sw (t := 116) (e := 115) rfl (by decide) (by decide) rfl ?_
    refine x_iconst rfl ?_
    refine x_istore_n rfl (show (3 : Nat) < 5 from by decide) ?_
    refine x_iconst rfl ?_
    refine x_istore rfl (show (4 : Nat) < 5 from by decide) ?_
    refine zwp_mono (xs_117l hmo hmc hr (by decide) 8 0 _ rfl (xst_ne (by decide) (xst_ne (by decide) rfl (Or.inl rfl)) (Or.inl rfl)) (xst_ne (by decide) (xst_ne (by decide) rfl (Or.inl rfl)) (Or.inl rfl)) (xst_ne (by decide) (xst_ne (by decide) rfl (Or.inl rfl)) (Or.inl rfl)) (xst_ne (by decide) xst_eq (Or.inl rfl)) xst_eq) ?_
    intro o X' hq
    obtain ⟨r9, f9, e1, e2, e3, e4⟩ := hq
    exact ⟨r9, f9, e1, e2, by rw [e3, ← hsh (fun d => sF (r d) == (7 : Int) - 5) (fun d hd => rfl)], e4⟩
  · refine x_sw (t := 116) (e := 115) rfl (by decide) (by decide) rfl ?_
    refine x_iconst rfl ?_
    refine x_istore_n rfl (show (3 : Nat) < 5 from by decide) ?_
    refine x_iconst rfl ?_
    refine x_istore rfl (show (4 : Nat) < 5 from by decide) ?_
    refine zwp_mono (xs_117l hmo hmc hr (by decide) 8 0 _ rfl (xst_ne (by decide) (xst_ne (by decide) rfl (Or.inl rfl)) (Or.inl rfl)) (xst_ne (by decide) (xst_ne (by decide) rfl (Or.inl rfl)) (Or.inl rfl)) (xst_ne (by decide) (xst_ne (by decide) rfl (Or.inl rfl)) (Or.inl rfl)) (xst_ne (by decide) xst_eq (Or.inl rfl)) xst_eq) ?_
    intro o X' hq
    obtain ⟨r9, f9, e1, e2, e3, e4⟩ := hq
    exact ⟨r9, f9, e1, e2, by rw [e3, ← hsh (fun d => sF (r d) == (8 : Int) - 5) (fun d hd => rfl)], e4⟩
  · refine x_sw (t := 86) (e := 85) rfl (by decide) (by decide) rfl ?_
    refine x_aload_n rfl rfl ?_
    refine x_iload_n rfl rfl ?_
    refine x_call [_, _] rfl rfl (show (0 : Nat) ≤ 8 from by decide) (show (2 : Nat) ≤ 6 from by decide) (x_rcv (by decide) h177) (xs_115 hmo hmc hr) ?_
    intro r' f1 hP
    obtain ⟨rfl, rfl⟩ := hP
    exact x_ireturn rfl (Or.inl rfl) ⟨_, _, rfl, rfl, by rw [← hsh (scen r) (fun d hd => rfl)], rfl⟩
  · refine x_sw (t := 92) (e := 91) rfl (by decide) (by decide) rfl ?_
    refine x_sipush rfl (by decide) ?_
    refine x_aload_n rfl rfl ?_
    refine x_iload_n rfl rfl ?_
    refine x_call [_, _] rfl rfl (show (1 : Nat) ≤ 8 from by decide) (show (2 : Nat) ≤ 6 from by decide) (x_rcv (by decide) h177) (xs_115 hmo hmc hr) ?_
    intro r' f1 hP
    obtain ⟨rfl, rfl⟩ := hP
    refine x_isub rfl ?_
    exact x_ireturn rfl (Or.inl rfl) ⟨_, _, rfl, rfl, by rw [← hsh (fun d => !scen r d) (fun d hd => rfl), sm_cpl], rfl⟩
  · refine x_sw (t := 102) (e := 101) rfl (by decide) (by decide) rfl ?_
    refine x_aload_n rfl rfl ?_
    refine x_iload_n rfl rfl ?_
    refine x_iconst rfl ?_
    refine x_call [_, _, _] rfl rfl (show (0 : Nat) ≤ 8 from by decide) (show (3 : Nat) ≤ 11 from by decide) (x_rcv (by decide) h177) (xs_116 hmo hmc hr (by decide)) ?_
    intro r' f1 hP
    obtain ⟨rfl, rfl⟩ := hP
    exact x_ireturn rfl (Or.inl rfl) ⟨_, _, rfl, rfl, by rw [← hsh (salone r 0) (fun d hd => rfl)], rfl⟩
  · refine x_sw (t := 109) (e := 108) rfl (by decide) (by decide) rfl ?_
    refine x_aload_n rfl rfl ?_
    refine x_iload_n rfl rfl ?_
    refine x_iconst rfl ?_
    refine x_call [_, _, _] rfl rfl (show (0 : Nat) ≤ 8 from by decide) (show (3 : Nat) ≤ 11 from by decide) (x_rcv (by decide) h177) (xs_116 hmo hmc hr (by decide)) ?_
    intro r' f1 hP
    obtain ⟨rfl, rfl⟩ := hP
    exact x_ireturn rfl (Or.inl rfl) ⟨_, _, rfl, rfl, by rw [← hsh (salone r 2) (fun d hd => rfl)], rfl⟩
