/-! The class's 'lies towards': 94. -/
theorem xs_94 {v0 : Value} {xs : List Int32} {u : Nat × Nat} {f : Nat → zE} {p q w : Int} (hp : sok p) (hq : sok q) (hw : 0 ≤ w ∧ w ≤ 3) : xq v0 xs u 94 [(0, xi (p / 4)), (1, xi (q / 4)), (2, xi w)] f (fun r' f' => r' = some (xi (if slies p q w = true then 1 else 0)) ∧ f' = f) := by
  unfold xq
  have hp0 := hp
  have hq0 := hq
  unfold sok at hp0 hq0
  have x1 := sX_rg hp
  have x2 := sX_rg hq
  have y1 := sY_rg hp
  have y2 := sY_rg hq
  have e1 : p / 4 / 10 = sY p := by unfold sY; omega
  have e2 : q / 4 / 10 = sY q := by unfold sY; omega
  refine x_iload_n rfl rfl ?_
  refine x_bipush rfl (by decide) ?_
  refine x_irem rfl ⟨by omega, by omega⟩ (by decide) ?_
  refine x_iload_n rfl rfl ?_
  refine x_bipush rfl (by decide) ?_
  refine x_irem rfl ⟨by omega, by omega⟩ (by decide) ?_
  refine x_isub rfl ?_
  refine x_istore_n rfl (show (3 : Nat) < 5 from by decide) ?_
  refine x_iload_n rfl (xst_ne (by decide) rfl (Or.inl rfl)) ?_
  refine x_bipush rfl (by decide) ?_
  refine x_idiv rfl ⟨by omega, by omega⟩ (by decide) ?_
  refine x_iload_n rfl (xst_ne (by decide) rfl (Or.inl rfl)) ?_
  refine x_bipush rfl (by decide) ?_
  refine x_idiv rfl ⟨by omega, by omega⟩ (by decide) ?_
  refine x_isub rfl ?_
  refine x_istore rfl (show (4 : Nat) < 5 from by decide) ?_
  rw [e1, e2]
  change xz v0 xs u _ 94 21 (xst 4 (xi (sY q - sY p)) (xst 3 (xi (sX q - sX p)) _)) [] f
  rw [slies_cls hw]
  refine x_iload_n rfl (xst_ne (by decide) (xst_ne (by decide) rfl (Or.inl rfl)) (Or.inl rfl)) ?_
  rcases (show w = 0 ∨ w = 1 ∨ w = 2 ∨ w = 3 by omega) with rfl | rfl | rfl | rfl
  · refine x_sw (t := 48) (e := 26) rfl (by decide) (by decide) rfl ?_
    rw [if_pos (show (0 : Int) = 0 from rfl)]
    refine x_iload_n rfl (xst_ne (by decide) xst_eq (Or.inl rfl)) ?_
    refine x_ifne (t := 61) rfl rfl ⟨by omega, by omega⟩ (fun h1 => ?_) (fun h1 => ?_)
    · refine x_iconst rfl ?_
      exact x_ireturn rfl (Or.inr (Or.inl ⟨rfl, by decide⟩)) ⟨_, _, rfl, rfl, by rw [if_neg (by simp only [Bool.and_eq_true, decide_eq_true_eq]; omega)], rfl⟩
    · refine x_iload rfl xst_eq ?_
      refine x_ifle (t := 61) rfl rfl ⟨by omega, by omega⟩ (fun h2 => ?_) (fun h2 => ?_)
      · refine x_iconst rfl ?_
        exact x_ireturn rfl (Or.inr (Or.inl ⟨rfl, by decide⟩)) ⟨_, _, rfl, rfl, by rw [if_neg (by simp only [Bool.and_eq_true, decide_eq_true_eq]; omega)], rfl⟩
      · refine x_iconst rfl ?_
        refine x_goto (t := 62) rfl rfl ?_
        exact x_ireturn rfl (Or.inr (Or.inl ⟨rfl, by decide⟩)) ⟨_, _, rfl, rfl, by rw [if_pos (by simp only [Bool.and_eq_true, decide_eq_true_eq]; omega)], rfl⟩
  · refine x_sw (t := 63) (e := 41) rfl (by decide) (by decide) rfl ?_
    rw [if_neg (show ¬ (1 : Int) = 0 by decide), if_pos (show (1 : Int) = 1 from rfl)]
    refine x_iload rfl xst_eq ?_
    refine x_ifne (t := 76) rfl rfl ⟨by omega, by omega⟩ (fun h1 => ?_) (fun h1 => ?_)
    · refine x_iconst rfl ?_
      exact x_ireturn rfl (Or.inr (Or.inl ⟨rfl, by decide⟩)) ⟨_, _, rfl, rfl, by rw [if_neg (by simp only [Bool.and_eq_true, decide_eq_true_eq]; omega)], rfl⟩
    · refine x_iload_n rfl (xst_ne (by decide) xst_eq (Or.inl rfl)) ?_
      refine x_ifle (t := 76) rfl rfl ⟨by omega, by omega⟩ (fun h2 => ?_) (fun h2 => ?_)
      · refine x_iconst rfl ?_
        exact x_ireturn rfl (Or.inr (Or.inl ⟨rfl, by decide⟩)) ⟨_, _, rfl, rfl, by rw [if_neg (by simp only [Bool.and_eq_true, decide_eq_true_eq]; omega)], rfl⟩
      · refine x_iconst rfl ?_
        refine x_goto (t := 77) rfl rfl ?_
        exact x_ireturn rfl (Or.inr (Or.inl ⟨rfl, by decide⟩)) ⟨_, _, rfl, rfl, by rw [if_pos (by simp only [Bool.and_eq_true, decide_eq_true_eq]; omega)], rfl⟩
  · refine x_sw (t := 78) (e := 56) rfl (by decide) (by decide) rfl ?_
    rw [if_neg (show ¬ (2 : Int) = 0 by decide), if_neg (show ¬ (2 : Int) = 1 by decide), if_pos (show (2 : Int) = 2 from rfl)]
    refine x_iload_n rfl (xst_ne (by decide) xst_eq (Or.inl rfl)) ?_
    refine x_ifne (t := 91) rfl rfl ⟨by omega, by omega⟩ (fun h1 => ?_) (fun h1 => ?_)
    · refine x_iconst rfl ?_
      exact x_ireturn rfl (Or.inr (Or.inl ⟨rfl, by decide⟩)) ⟨_, _, rfl, rfl, by rw [if_neg (by simp only [Bool.and_eq_true, decide_eq_true_eq]; omega)], rfl⟩
    · refine x_iload rfl xst_eq ?_
      refine x_ifge (t := 91) rfl rfl ⟨by omega, by omega⟩ (fun h2 => ?_) (fun h2 => ?_)
      · refine x_iconst rfl ?_
        exact x_ireturn rfl (Or.inr (Or.inl ⟨rfl, by decide⟩)) ⟨_, _, rfl, rfl, by rw [if_neg (by simp only [Bool.and_eq_true, decide_eq_true_eq]; omega)], rfl⟩
      · refine x_iconst rfl ?_
        refine x_goto (t := 92) rfl rfl ?_
        exact x_ireturn rfl (Or.inr (Or.inl ⟨rfl, by decide⟩)) ⟨_, _, rfl, rfl, by rw [if_pos (by simp only [Bool.and_eq_true, decide_eq_true_eq]; omega)], rfl⟩
  · refine x_sw (t := 93) (e := 71) rfl (by decide) (by decide) rfl ?_
    rw [if_neg (show ¬ (3 : Int) = 0 by decide), if_neg (show ¬ (3 : Int) = 1 by decide), if_neg (show ¬ (3 : Int) = 2 by decide)]
    refine x_iload rfl xst_eq ?_
    refine x_ifne (t := 106) rfl rfl ⟨by omega, by omega⟩ (fun h1 => ?_) (fun h1 => ?_)
    · refine x_iconst rfl ?_
      exact x_ireturn rfl (Or.inr (Or.inl ⟨rfl, by decide⟩)) ⟨_, _, rfl, rfl, by rw [if_neg (by simp only [Bool.and_eq_true, decide_eq_true_eq]; omega)], rfl⟩
    · refine x_iload_n rfl (xst_ne (by decide) xst_eq (Or.inl rfl)) ?_
      refine x_ifge (t := 106) rfl rfl ⟨by omega, by omega⟩ (fun h2 => ?_) (fun h2 => ?_)
      · refine x_iconst rfl ?_
        exact x_ireturn rfl (Or.inr (Or.inl ⟨rfl, by decide⟩)) ⟨_, _, rfl, rfl, by rw [if_neg (by simp only [Bool.and_eq_true, decide_eq_true_eq]; omega)], rfl⟩
      · refine x_iconst rfl ?_
        refine x_goto (t := 107) rfl rfl ?_
        exact x_ireturn rfl (Or.inr (Or.inl ⟨rfl, by decide⟩)) ⟨_, _, rfl, rfl, by rw [if_pos (by simp only [Bool.and_eq_true, decide_eq_true_eq]; omega)], rfl⟩
/-! The class's free: 95. -/
theorem sall_f {P : Nat → Bool} {e k : Nat} (h : sall P e = false) (hk : e ≤ k) : sall P k = false := by
  induction k with
  | zero => have : e = 0 := by omega
            rw [this] at h; exact h
  | succ k ih =>
    by_cases e1 : e = k + 1
    · rw [← e1]; exact h
    · simp only [sall]; rw [ih (by omega)]; rfl
theorem xs_95i {v0 : Value} {xs : List Int32} {u : Nat × Nat} {Q : zO → zX → Prop} {f : Nat → zE} {p : Nat} {fr t : Int} {r : Nat → Int} {d : Nat} {ch w : Int} (hr : sRW f p fr r) (hd : d < 8) (hw : 0 ≤ w ∧ w ≤ 3) (hk : ∀ lv : zL, zlv lv 0 = some (.ref p) → zlv lv 1 = some (xi fr) → zlv lv 2 = some (xi t) → zlv lv 3 = some (xi ch) → zlv lv 4 = some (xi (d : Nat)) → zlv lv 6 = some (xi (if sall (fun e => !slies (r d) (r e) w) 8 = true then 1 else 0)) → xz v0 xs u Q 95 79 lv [] f) : ∀ (k e : Nat) (lv : zL), k + e = 8 → zlv lv 0 = some (.ref p) → zlv lv 1 = some (xi fr) → zlv lv 2 = some (xi t) → zlv lv 3 = some (xi ch) → zlv lv 4 = some (xi (d : Nat)) → zlv lv 5 = some (xi w) → zlv lv 6 = some (xi (if sall (fun e => !slies (r d) (r e) w) e = true then 1 else 0)) → zlv lv 7 = some (xi (e : Nat)) → xz v0 xs u Q 95 30 lv [] f := by
  have hr0 := hr
  obtain ⟨hp, l, hf, hl, h0, h8, hrd⟩ := hr
  obtain ⟨d1, d2⟩ := hrd d hd
  have d3 := d2
  unfold sok at d3
  intro k
  induction k with
  | zero =>
    intro e lv hk2 l0 l1 l2 l3 l4 l5 l6 l7
    have e9 : e = 8 := by omega
    subst e9
    refine x_iload rfl l7 ?_
    refine x_bipush rfl (by decide) ?_
    refine x_cge (t := 79) rfl rfl (by decide) (by decide) (fun _ => ?_) (fun h => absurd h (by decide))
    exact hk lv l0 l1 l2 l3 l4 l6
  | succ k ih =>
    intro e lv hk2 l0 l1 l2 l3 l4 l5 l6 l7
    have he : e < 8 := by omega
    obtain ⟨e1, e2⟩ := hrd e he
    have e3 := e2
    unfold sok at e3
    refine x_iload rfl l7 ?_
    refine x_bipush rfl (by decide) ?_
    refine x_cge (t := 79) rfl rfl ⟨by omega, by omega⟩ (by decide) (fun h => by omega) (fun _ => ?_)
    refine x_iload rfl l6 ?_
    by_cases hall : sall (fun e => !slies (r d) (r e) w) e = true
    · rw [if_pos hall]
      refine x_ifeq (t := 79) rfl rfl (by decide) (fun h => absurd h (by decide)) (fun _ => ?_)
      refine x_aload_n rfl l0 ?_
      refine x_iload_n rfl l1 ?_
      refine x_iload rfl l4 ?_
      refine x_iadd rfl ?_
      refine x_iaload rfl hp hf ⟨by omega, by omega⟩ hl ?_
      rw [d1]
      refine x_iconst rfl ?_
      refine x_idiv rfl ⟨by omega, by omega⟩ (by decide) ?_
      refine x_aload_n rfl l0 ?_
      refine x_iload_n rfl l1 ?_
      refine x_iload rfl l7 ?_
      refine x_iadd rfl ?_
      refine x_iaload rfl hp hf ⟨by omega, by omega⟩ hl ?_
      rw [e1]
      refine x_iconst rfl ?_
      refine x_idiv rfl ⟨by omega, by omega⟩ (by decide) ?_
      refine x_iload rfl l5 ?_
      refine x_call [_, _, _] rfl rfl (show (0 : Nat) ≤ 8 from by decide) (show (3 : Nat) ≤ 5 from by decide) rfl (xs_94 d2 e2 hw) (fun r' f1 hP => ?_)
      obtain ⟨rfl, rfl⟩ := hP
      by_cases hs : slies (r d) (r e) w = true
      · rw [if_pos hs]
        refine x_ifne (t := 70) rfl rfl (by decide) (fun _ => ?_) (fun h => absurd h (by decide))
        refine x_iconst rfl ?_
        refine x_istore rfl (show (6 : Nat) < 8 from by decide) ?_
        refine x_iinc rfl (xst_ne (by decide) l7 (Or.inl rfl)) (show (7 : Nat) < 8 from by decide) ?_
        refine x_goto (t := 30) rfl rfl ?_
        refine ih (e + 1) _ (by omega) (xst_ne (by decide) (xst_ne (by decide) l0 (Or.inl rfl)) (Or.inl rfl)) (xst_ne (by decide) (xst_ne (by decide) l1 (Or.inl rfl)) (Or.inl rfl)) (xst_ne (by decide) (xst_ne (by decide) l2 (Or.inl rfl)) (Or.inl rfl)) (xst_ne (by decide) (xst_ne (by decide) l3 (Or.inl rfl)) (Or.inl rfl)) (xst_ne (by decide) (xst_ne (by decide) l4 (Or.inl rfl)) (Or.inl rfl)) (xst_ne (by decide) (xst_ne (by decide) l5 (Or.inl rfl)) (Or.inl rfl)) ?_ xst_eq
        rw [if_neg (by simp only [sall]; rw [hs]; simp)]
        exact xst_ne (by decide) xst_eq (Or.inl rfl)
      · rw [if_neg hs]
        refine x_ifne (t := 70) rfl rfl (by decide) (fun h => absurd rfl h) (fun _ => ?_)
        refine x_iconst rfl ?_
        refine x_goto (t := 71) rfl rfl ?_
        refine x_istore rfl (show (6 : Nat) < 8 from by decide) ?_
        refine x_iinc rfl (xst_ne (by decide) l7 (Or.inl rfl)) (show (7 : Nat) < 8 from by decide) ?_
        refine x_goto (t := 30) rfl rfl ?_
        refine ih (e + 1) _ (by omega) (xst_ne (by decide) (xst_ne (by decide) l0 (Or.inl rfl)) (Or.inl rfl)) (xst_ne (by decide) (xst_ne (by decide) l1 (Or.inl rfl)) (Or.inl rfl)) (xst_ne (by decide) (xst_ne (by decide) l2 (Or.inl rfl)) (Or.inl rfl)) (xst_ne (by decide) (xst_ne (by decide) l3 (Or.inl rfl)) (Or.inl rfl)) (xst_ne (by decide) (xst_ne (by decide) l4 (Or.inl rfl)) (Or.inl rfl)) (xst_ne (by decide) (xst_ne (by decide) l5 (Or.inl rfl)) (Or.inl rfl)) ?_ xst_eq
        have hs2 : slies (r d) (r e) w = false := by cases h9 : slies (r d) (r e) w with
          | true => exact absurd h9 hs
          | false => rfl
        rw [if_pos (by simp only [sall]; rw [hall, hs2]; rfl)]
        exact xst_ne (by decide) xst_eq (Or.inl rfl)
    · rw [if_neg hall]
      refine x_ifeq (t := 79) rfl rfl (by decide) (fun _ => ?_) (fun h => absurd rfl h)
      refine hk lv l0 l1 l2 l3 l4 ?_
      have h9 : sall (fun e => !slies (r d) (r e) w) e = false := by cases h9 : sall (fun e => !slies (r d) (r e) w) e with
        | true => exact absurd h9 hall
        | false => rfl
      rw [if_neg (by rw [sall_f h9 (by omega)]; decide)]
      rw [if_neg hall] at l6
      exact l6
theorem xs_95o {v0 : Value} {xs : List Int32} {u : Nat × Nat} {f : Nat → zE} {p : Nat} {fr t : Int} {r : Nat → Int} (ht : 0 ≤ t ∧ t ≤ 3) (hr : sRW f p fr r) : ∀ (k d : Nat) (lv : zL), k + d = 8 → zlv lv 0 = some (.ref p) → zlv lv 1 = some (xi fr) → zlv lv 2 = some (xi t) → zlv lv 3 = some (xi (smk (salone r t) d)) → zlv lv 4 = some (xi (d : Nat)) → xz v0 xs u (fun o X => ∃ r' f', o = .inl r' ∧ X = (xh f', u) ∧ r' = some (xi (smk (salone r t) 8)) ∧ f' = f) 95 5 lv [] f := by
  have hr0 := hr
  obtain ⟨hp, l, hf, hl, h0, h8, hrd⟩ := hr
  intro k
  induction k with
  | zero =>
    intro d lv hk2 l0 l1 l2 l3 l4
    have e9 : d = 8 := by omega
    subst e9
    refine x_iload rfl l4 ?_
    refine x_bipush rfl (by decide) ?_
    refine x_cge (t := 97) rfl rfl (by decide) (by decide) (fun _ => ?_) (fun h => absurd h (by decide))
    refine x_iload_n rfl l3 ?_
    exact x_ireturn rfl (Or.inl rfl) ⟨_, _, rfl, rfl, rfl, rfl⟩
  | succ k ih =>
    intro d lv hk2 l0 l1 l2 l3 l4
    have hd : d < 8 := by omega
    obtain ⟨d1, d2⟩ := hrd d hd
    have d3 := d2
    unfold sok at d3
    refine x_iload rfl l4 ?_
    refine x_bipush rfl (by decide) ?_
    refine x_cge (t := 97) rfl rfl ⟨by omega, by omega⟩ (by decide) (fun h => by omega) (fun _ => ?_)
    refine x_aload_n rfl l0 ?_
    refine x_iload_n rfl l1 ?_
    refine x_iload rfl l4 ?_
    refine x_iadd rfl ?_
    refine x_iaload rfl hp hf ⟨by omega, by omega⟩ hl ?_
    rw [d1]
    refine x_iload_n rfl l2 ?_
    refine x_iadd rfl ?_
    refine x_iconst rfl ?_
    refine x_irem rfl ⟨by omega, by omega⟩ (by decide) ?_
    refine x_istore rfl (show (5 : Nat) < 8 from by decide) ?_
    refine x_iconst rfl ?_
    refine x_istore rfl (show (6 : Nat) < 8 from by decide) ?_
    refine x_iconst rfl ?_
    refine x_istore rfl (show (7 : Nat) < 8 from by decide) ?_
    have ew : (r d + t) % 4 = (sF (r d) + t) % 4 := by unfold sF; omega
    rw [ew]
    refine xs_95i hr0 hd (w := (sF (r d) + t) % 4) (ch := smk (salone r t) d) (by omega) (fun lv2 m0 m1 m2 m3 m4 m6 => ?_) 8 0 _ rfl (xst_ne (by decide) (xst_ne (by decide) (xst_ne (by decide) l0 (Or.inl rfl)) (Or.inl rfl)) (Or.inl rfl)) (xst_ne (by decide) (xst_ne (by decide) (xst_ne (by decide) l1 (Or.inl rfl)) (Or.inl rfl)) (Or.inl rfl)) (xst_ne (by decide) (xst_ne (by decide) (xst_ne (by decide) l2 (Or.inl rfl)) (Or.inl rfl)) (Or.inl rfl)) (xst_ne (by decide) (xst_ne (by decide) (xst_ne (by decide) l3 (Or.inl rfl)) (Or.inl rfl)) (Or.inl rfl)) (xst_ne (by decide) (xst_ne (by decide) (xst_ne (by decide) l4 (Or.inl rfl)) (Or.inl rfl)) (Or.inl rfl)) (xst_ne (by decide) (xst_ne (by decide) xst_eq (Or.inl rfl)) (Or.inl rfl)) (xst_ne (by decide) xst_eq (Or.inl rfl)) xst_eq
    refine x_iload rfl m6 ?_
    by_cases ha : salone r t d = true
    · rw [if_pos (show sall (fun e => !slies (r d) (r e) ((sF (r d) + t) % 4)) 8 = true from ha)]
      refine x_ifeq (t := 91) rfl rfl (by decide) (fun h => absurd h (by decide)) (fun _ => ?_)
      refine x_iload_n rfl m3 ?_
      refine x_iconst rfl ?_
      refine x_iload rfl m4 ?_
      refine x_ishl rfl ?_
      refine x_iorg rfl (sm_orbit _ hd) ?_
      refine x_istore_n rfl (show (3 : Nat) < 8 from by decide) ?_
      refine x_iinc rfl (xst_ne (by decide) m4 (Or.inl rfl)) (show (4 : Nat) < 8 from by decide) ?_
      refine x_goto (t := 5) rfl rfl ?_
      refine ih (d + 1) _ (by omega) (xst_ne (by decide) (xst_ne (by decide) m0 (Or.inl rfl)) (Or.inl rfl)) (xst_ne (by decide) (xst_ne (by decide) m1 (Or.inl rfl)) (Or.inl rfl)) (xst_ne (by decide) (xst_ne (by decide) m2 (Or.inl rfl)) (Or.inl rfl)) ?_ xst_eq
      have e4 : smk (salone r t) (d + 1) = smk (salone r t) d + ((2 ^ d : Nat) : Int) := by
        simp only [smk]
        rw [if_pos ha]
      rw [e4]
      exact xst_ne (by decide) xst_eq (Or.inl rfl)
    · rw [if_neg (show ¬ sall (fun e => !slies (r d) (r e) ((sF (r d) + t) % 4)) 8 = true from ha)]
      refine x_ifeq (t := 91) rfl rfl (by decide) (fun _ => ?_) (fun h => absurd rfl h)
      refine x_iinc rfl m4 (show (4 : Nat) < 8 from by decide) ?_
      refine x_goto (t := 5) rfl rfl ?_
      refine ih (d + 1) _ (by omega) (xst_ne (by decide) m0 (Or.inl rfl)) (xst_ne (by decide) m1 (Or.inl rfl)) (xst_ne (by decide) m2 (Or.inl rfl)) ?_ xst_eq
      have e4 : smk (salone r t) (d + 1) = smk (salone r t) d := by
        simp only [smk]
        rw [if_neg ha, Int.add_zero]
      rw [e4]
      exact xst_ne (by decide) m3 (Or.inl rfl)
theorem xs_95 {v0 : Value} {xs : List Int32} {u : Nat × Nat} {f : Nat → zE} {p : Nat} {fr t : Int} {r : Nat → Int} (ht : 0 ≤ t ∧ t ≤ 3) (hr : sRW f p fr r) : xq v0 xs u 95 [(0, .ref p), (1, xi fr), (2, xi t)] f (fun r' f' => r' = some (xi (smk (salone r t) 8)) ∧ f' = f) := by
  unfold xq
  refine x_iconst rfl ?_
  refine x_istore_n rfl (show (3 : Nat) < 8 from by decide) ?_
  refine x_iconst rfl ?_
  refine x_istore rfl (show (4 : Nat) < 8 from by decide) ?_
  exact xs_95o ht hr 8 0 _ rfl (xst_ne (by decide) (xst_ne (by decide) rfl (Or.inl rfl)) (Or.inl rfl)) (xst_ne (by decide) (xst_ne (by decide) rfl (Or.inl rfl)) (Or.inl rfl)) (xst_ne (by decide) (xst_ne (by decide) rfl (Or.inl rfl)) (Or.inl rfl)) (xst_ne (by decide) xst_eq (Or.inl rfl)) xst_eq
/-! The class's chosen: 97. -/
theorem xs_97 {v0 : Value} {xs : List Int32} {u : Nat × Nat} {f : Nat → zE} {p : Nat} {fr s : Int} {r : Nat → Int} {dl : List Int} (hp5 : p ≠ 115) (h114 : f 114 = .inl (7, [.ref 115])) (h115 : f 115 = xr 0 dl) (hdl : dl.length = 8) (hs : 0 ≤ s ∧ s ≤ 12) (hr : sRW f p fr r) : xq v0 xs u 97 [(0, .ref 114), (1, xi s), (2, .ref p), (3, xi fr)] f (fun r' f' => r' = some (xi (smk (shas s r) 8)) ∧ (∃ dl : List Int, f' 115 = xr 0 dl ∧ dl.length = 8) ∧ ∀ q, q ≠ 115 → f' q = f q) := by
  unfold xq
  have D : ∃ dl : List Int, f 115 = xr 0 dl ∧ dl.length = 8 := ⟨dl, h115, hdl⟩
  have hsh : ∀ P : Nat → Bool, (∀ d, d < 8 → P d = shas s r d) → smk P 8 = smk (shas s r) 8 := fun P h => smk_congr 8 h
  refine x_iload_n rfl rfl ?_
  rcases (show s = 0 ∨ s = 1 ∨ s = 2 ∨ s = 3 ∨ s = 4 ∨ s = 5 ∨ s = 6 ∨ s = 7 ∨ s = 8 ∨ s = 9 ∨ s = 10 ∨ s = 11 ∨ s = 12 by omega) with rfl | rfl | rfl | rfl | rfl | rfl | rfl | rfl | rfl | rfl | rfl | rfl | rfl
  · refine x_sw (t := 68) (e := 67) rfl (by decide) (by decide) rfl ?_
    refine x_sipush rfl (by decide) ?_
    exact x_ireturn rfl (Or.inl rfl) ⟨_, _, rfl, rfl, by rw [← hsh (fun _ => true) (fun d hd => rfl), sm_255], D, fun _ _ => rfl⟩
  · refine x_sw (t := 72) (e := 71) rfl (by decide) (by decide) rfl ?_
    refine x_bipush rfl (by decide) ?_
    exact x_ireturn rfl (Or.inl rfl) ⟨_, _, rfl, rfl, by rw [← hsh (fun d => d % 2 == 0) (fun d hd => rfl), sm_consts.1], D, fun _ _ => rfl⟩
  · refine x_sw (t := 75) (e := 74) rfl (by decide) (by decide) rfl ?_
    refine x_sipush rfl (by decide) ?_
    exact x_ireturn rfl (Or.inl rfl) ⟨_, _, rfl, rfl, by rw [← hsh (fun d => d % 2 == 1) (fun d hd => rfl), sm_consts.2.1], D, fun _ _ => rfl⟩
  · refine x_sw (t := 79) (e := 78) rfl (by decide) (by decide) rfl ?_
    refine x_bipush rfl (by decide) ?_
    exact x_ireturn rfl (Or.inl rfl) ⟨_, _, rfl, rfl, by rw [← hsh (fun d => decide (d % 4 < 2)) (fun d hd => rfl), sm_consts.2.2.1], D, fun _ _ => rfl⟩
  · refine x_sw (t := 82) (e := 81) rfl (by decide) (by decide) rfl ?_
    refine x_sipush rfl (by decide) ?_
    exact x_ireturn rfl (Or.inl rfl) ⟨_, _, rfl, rfl, by rw [← hsh (fun d => decide (2 ≤ d % 4)) (fun d hd => rfl), sm_consts.2.2.2], D, fun _ _ => rfl⟩
  · refine x_sw (t := 118) (e := 117) rfl (by decide) (by decide) rfl ?_
    refine x_aload_n rfl rfl ?_
    refine x_iload_n rfl rfl ?_
    refine x_iload_n rfl rfl ?_
    refine x_iconst rfl ?_
    refine x_isub rfl ?_
    refine x_call [_, _, _] rfl rfl (show (0 : Nat) ≤ 8 from by decide) (show (3 : Nat) ≤ 5 from by decide) rfl (xs_96 (by decide) hr) (fun r' f1 hP => ?_)
    obtain ⟨rfl, rfl⟩ := hP
    exact x_ireturn rfl (Or.inl rfl) ⟨_, _, rfl, rfl, by rw [← hsh (fun d => sF (r d) == (5 : Int) - 5) (fun d hd => rfl)], D, fun _ _ => rfl⟩
  · refine x_sw (t := 118) (e := 117) rfl (by decide) (by decide) rfl ?_
    refine x_aload_n rfl rfl ?_
    refine x_iload_n rfl rfl ?_
    refine x_iload_n rfl rfl ?_
    refine x_iconst rfl ?_
    refine x_isub rfl ?_
    refine x_call [_, _, _] rfl rfl (show (0 : Nat) ≤ 8 from by decide) (show (3 : Nat) ≤ 5 from by decide) rfl (xs_96 (by decide) hr) (fun r' f1 hP => ?_)
    obtain ⟨rfl, rfl⟩ := hP
    exact x_ireturn rfl (Or.inl rfl) ⟨_, _, rfl, rfl, by rw [← hsh (fun d => sF (r d) == (6 : Int) - 5) (fun d hd => rfl)], D, fun _ _ => rfl⟩
  · refine x_sw (t := 118) (e := 117) rfl (by decide) (by decide) rfl ?_
    refine x_aload_n rfl rfl ?_
    refine x_iload_n rfl rfl ?_
    refine x_iload_n rfl rfl ?_
    refine x_iconst rfl ?_
    refine x_isub rfl ?_
    refine x_call [_, _, _] rfl rfl (show (0 : Nat) ≤ 8 from by decide) (show (3 : Nat) ≤ 5 from by decide) rfl (xs_96 (by decide) hr) (fun r' f1 hP => ?_)
    obtain ⟨rfl, rfl⟩ := hP
    exact x_ireturn rfl (Or.inl rfl) ⟨_, _, rfl, rfl, by rw [← hsh (fun d => sF (r d) == (7 : Int) - 5) (fun d hd => rfl)], D, fun _ _ => rfl⟩
  · refine x_sw (t := 118) (e := 117) rfl (by decide) (by decide) rfl ?_
    refine x_aload_n rfl rfl ?_
    refine x_iload_n rfl rfl ?_
    refine x_iload_n rfl rfl ?_
    refine x_iconst rfl ?_
    refine x_isub rfl ?_
    refine x_call [_, _, _] rfl rfl (show (0 : Nat) ≤ 8 from by decide) (show (3 : Nat) ≤ 5 from by decide) rfl (xs_96 (by decide) hr) (fun r' f1 hP => ?_)
    obtain ⟨rfl, rfl⟩ := hP
    exact x_ireturn rfl (Or.inl rfl) ⟨_, _, rfl, rfl, by rw [← hsh (fun d => sF (r d) == (8 : Int) - 5) (fun d hd => rfl)], D, fun _ _ => rfl⟩
  · refine x_sw (t := 86) (e := 85) rfl (by decide) (by decide) rfl ?_
    refine x_aload_n rfl rfl ?_
    refine x_aload_n rfl rfl ?_
    refine x_iload_n rfl rfl ?_
    refine x_call [_, _, _] rfl rfl (show (0 : Nat) ≤ 8 from by decide) (show (3 : Nat) ≤ 7 from by decide) (x_rcv (by decide) h114) (xs_93 hp5 h114 h115 hdl hr) (fun r' f1 hP => ?_)
    obtain ⟨rfl, ⟨dl2, g1, g2, -⟩, hfr⟩ := hP
    exact x_ireturn rfl (Or.inl rfl) ⟨_, _, rfl, rfl, by rw [← hsh (scen r) (fun d hd => rfl)], ⟨dl2, g1, g2⟩, hfr⟩
  · refine x_sw (t := 93) (e := 92) rfl (by decide) (by decide) rfl ?_
    refine x_sipush rfl (by decide) ?_
    refine x_aload_n rfl rfl ?_
    refine x_aload_n rfl rfl ?_
    refine x_iload_n rfl rfl ?_
    refine x_call [_, _, _] rfl rfl (show (1 : Nat) ≤ 8 from by decide) (show (3 : Nat) ≤ 7 from by decide) (x_rcv (by decide) h114) (xs_93 hp5 h114 h115 hdl hr) (fun r' f1 hP => ?_)
    obtain ⟨rfl, ⟨dl2, g1, g2, -⟩, hfr⟩ := hP
    refine x_ixorg rfl (show Int32.ofInt 255 ^^^ Int32.ofInt (smk (scen r) 8) = Int32.ofInt (smk (shas 10 r) 8) from ?_) ?_
    · rw [← sm_255, sm_xor]
      congr 1
      refine hsh _ (fun d hd => ?_)
      show (true != scen r d) = !scen r d
      cases scen r d <;> rfl
    · exact x_ireturn rfl (Or.inl rfl) ⟨_, _, rfl, rfl, rfl, ⟨dl2, g1, g2⟩, hfr⟩
  · refine x_sw (t := 104) (e := 103) rfl (by decide) (by decide) rfl ?_
    refine x_aload_n rfl rfl ?_
    refine x_iload_n rfl rfl ?_
    refine x_iconst rfl ?_
    refine x_call [_, _, _] rfl rfl (show (0 : Nat) ≤ 8 from by decide) (show (3 : Nat) ≤ 8 from by decide) rfl (xs_95 (by decide) hr) (fun r' f1 hP => ?_)
    obtain ⟨rfl, rfl⟩ := hP
    exact x_ireturn rfl (Or.inl rfl) ⟨_, _, rfl, rfl, by rw [← hsh (salone r 0) (fun d hd => rfl)], D, fun _ _ => rfl⟩
  · refine x_sw (t := 111) (e := 110) rfl (by decide) (by decide) rfl ?_
    refine x_aload_n rfl rfl ?_
    refine x_iload_n rfl rfl ?_
    refine x_iconst rfl ?_
    refine x_call [_, _, _] rfl rfl (show (0 : Nat) ≤ 8 from by decide) (show (3 : Nat) ≤ 8 from by decide) rfl (xs_95 (by decide) hr) (fun r' f1 hP => ?_)
    obtain ⟨rfl, rfl⟩ := hP
    exact x_ireturn rfl (Or.inl rfl) ⟨_, _, rfl, rfl, by rw [← hsh (salone r 2) (fun d hd => rfl)], D, fun _ _ => rfl⟩
