/-! Shape: the model. -/
theorem xs_152a {v0 : Value} {xs : List Int32} {u : Nat × Nat} {Q : zO → zX → Prop} {f : Nat → zE} {fs : List Value} {mx my : List Int} {r : Nat → Int} (h177 : f 177 = .inl (10, fs)) (a1 : fs[22]? = some (.ref 189)) (a2 : fs[23]? = some (.ref 190)) (x1 : f 189 = xr 0 mx) (x2 : f 190 = xr 0 my) (y1 : mx.length = 8) (y2 : my.length = 8) (hx : ∀ d, d < 8 → (mx.getD d 0 = sX (r d) ∧ my.getD d 0 = sY (r d)) ∧ sok (r d)) (hk : ∀ lv : zL, zlv lv 0 = some (.ref 177) → zlv lv 1 = some (xi (slx r)) → zlv lv 2 = some (xi (shx r)) → zlv lv 3 = some (xi (sly r)) → zlv lv 4 = some (xi (shy r)) → xz v0 xs u Q 152 127 lv [] f) : ∀ (w d : Nat) (lv : zL), w + d = 8 → zlv lv 0 = some (.ref 177) → zlv lv 1 = some (xi (slo 9 (fun e => sX (r e)) d)) → zlv lv 2 = some (xi (shi (fun e => sX (r e)) d)) → zlv lv 3 = some (xi (slo 9 (fun e => sY (r e)) d)) → zlv lv 4 = some (xi (shi (fun e => sY (r e)) d)) → zlv lv 5 = some (xi (d : Nat)) → xz v0 xs u Q 152 19 lv [] f := by
  have hX : ∀ e, e < 8 → 0 ≤ sX (r e) ∧ sX (r e) ≤ 9 := fun e he => sX_rg (hx e he).2
  have hY : ∀ e, e < 8 → 0 ≤ sY (r e) ∧ sY (r e) ≤ 9 := fun e he => sY_rg (hx e he).2
  intro w
  induction w with
  | zero =>
    intro d lv hw l0 l1 l2 l3 l4 l5
    have e8 : d = 8 := by omega
    subst e8
    refine x_iload rfl l5 ?_
    refine x_bipush rfl (by decide) ?_
    refine x_cge (t := 127) rfl rfl (by decide) (by decide) (fun _ => ?_) (fun h => absurd h (by decide))
    exact hk lv l0 l1 l2 l3 l4
  | succ w ih =>
    intro d lv hw l0 l1 l2 l3 l4 l5
    have hd : d < 8 := by omega
    obtain ⟨⟨q1, q2⟩, -⟩ := hx d hd
    have z1 := slo_rg (i := 9) (by decide) hX d (by omega)
    have z2 := shi_rg hX d (by omega)
    have z3 := slo_rg (i := 9) (by decide) hY d (by omega)
    have z4 := shi_rg hY d (by omega)
    have z5 := hX d hd
    have z6 := hY d hd
    refine x_iload rfl l5 ?_
    refine x_bipush rfl (by decide) ?_
    refine x_cge (t := 127) rfl rfl ⟨by omega, by omega⟩ (by decide) (fun h => absurd h (by omega)) (fun _ => ?_)
    refine x_dia (slo 9 (fun e => sX (r e)) (d + 1)) 48 (fun k => ?_) ?_
    · refine x_aload_n rfl l0 ?_
      refine x_getfield rfl (by decide) h177 a1 ?_
      refine x_iload rfl l5 ?_
      refine x_iaload rfl (by decide) x1 ⟨by omega, by omega⟩ (by omega) ?_
      rw [Int.toNat_natCast, q1]
      refine x_iload_n rfl l1 ?_
      refine x_cge (t := 47) rfl rfl ⟨by omega, by omega⟩ ⟨by omega, by omega⟩ (fun h34 => ?_) (fun h34 => ?_)
      · refine x_iload_n rfl l1 ?_
        first | (rw [show slo 9 (fun e => sX (r e)) (d + 1) = sX (r d) from if_pos (show sX (r d) < slo 9 (fun e => sX (r e)) d by omega)] at k; exact k) | (rw [show slo 9 (fun e => sX (r e)) (d + 1) = slo 9 (fun e => sX (r e)) d from if_neg (show ¬ sX (r d) < slo 9 (fun e => sX (r e)) d by omega)] at k; exact k)
      · refine x_aload_n rfl l0 ?_
        refine x_getfield rfl (by decide) h177 a1 ?_
        refine x_iload rfl l5 ?_
        refine x_iaload rfl (by decide) x1 ⟨by omega, by omega⟩ (by omega) ?_
        rw [Int.toNat_natCast, q1]
        refine x_goto (t := 48) rfl rfl ?_
        first | (rw [show slo 9 (fun e => sX (r e)) (d + 1) = sX (r d) from if_pos (show sX (r d) < slo 9 (fun e => sX (r e)) d by omega)] at k; exact k) | (rw [show slo 9 (fun e => sX (r e)) (d + 1) = slo 9 (fun e => sX (r e)) d from if_neg (show ¬ sX (r d) < slo 9 (fun e => sX (r e)) d by omega)] at k; exact k)
    refine x_istore_n rfl (show (1 : Nat) < 11 from by decide) ?_
    refine x_dia (shi (fun e => sX (r e)) (d + 1)) 71 (fun k => ?_) ?_
    · refine x_aload_n rfl (xst_ne (by decide) l0 (Or.inl rfl)) ?_
      refine x_getfield rfl (by decide) h177 a1 ?_
      refine x_iload rfl (xst_ne (by decide) l5 (Or.inl rfl)) ?_
      refine x_iaload rfl (by decide) x1 ⟨by omega, by omega⟩ (by omega) ?_
      rw [Int.toNat_natCast, q1]
      refine x_iload_n rfl (xst_ne (by decide) l2 (Or.inl rfl)) ?_
      refine x_cle (t := 70) rfl rfl ⟨by omega, by omega⟩ ⟨by omega, by omega⟩ (fun h57 => ?_) (fun h57 => ?_)
      · refine x_iload_n rfl (xst_ne (by decide) l2 (Or.inl rfl)) ?_
        first | (rw [show shi (fun e => sX (r e)) (d + 1) = sX (r d) from if_pos (show shi (fun e => sX (r e)) d < sX (r d) by omega)] at k; exact k) | (rw [show shi (fun e => sX (r e)) (d + 1) = shi (fun e => sX (r e)) d from if_neg (show ¬ shi (fun e => sX (r e)) d < sX (r d) by omega)] at k; exact k)
      · refine x_aload_n rfl (xst_ne (by decide) l0 (Or.inl rfl)) ?_
        refine x_getfield rfl (by decide) h177 a1 ?_
        refine x_iload rfl (xst_ne (by decide) l5 (Or.inl rfl)) ?_
        refine x_iaload rfl (by decide) x1 ⟨by omega, by omega⟩ (by omega) ?_
        rw [Int.toNat_natCast, q1]
        refine x_goto (t := 71) rfl rfl ?_
        first | (rw [show shi (fun e => sX (r e)) (d + 1) = sX (r d) from if_pos (show shi (fun e => sX (r e)) d < sX (r d) by omega)] at k; exact k) | (rw [show shi (fun e => sX (r e)) (d + 1) = shi (fun e => sX (r e)) d from if_neg (show ¬ shi (fun e => sX (r e)) d < sX (r d) by omega)] at k; exact k)
    refine x_istore_n rfl (show (2 : Nat) < 11 from by decide) ?_
    refine x_dia (slo 9 (fun e => sY (r e)) (d + 1)) 94 (fun k => ?_) ?_
    · refine x_aload_n rfl (xst_ne (by decide) (xst_ne (by decide) l0 (Or.inl rfl)) (Or.inl rfl)) ?_
      refine x_getfield rfl (by decide) h177 a2 ?_
      refine x_iload rfl (xst_ne (by decide) (xst_ne (by decide) l5 (Or.inl rfl)) (Or.inl rfl)) ?_
      refine x_iaload rfl (by decide) x2 ⟨by omega, by omega⟩ (by omega) ?_
      rw [Int.toNat_natCast, q2]
      refine x_iload_n rfl (xst_ne (by decide) (xst_ne (by decide) l3 (Or.inl rfl)) (Or.inl rfl)) ?_
      refine x_cge (t := 93) rfl rfl ⟨by omega, by omega⟩ ⟨by omega, by omega⟩ (fun h80 => ?_) (fun h80 => ?_)
      · refine x_iload_n rfl (xst_ne (by decide) (xst_ne (by decide) l3 (Or.inl rfl)) (Or.inl rfl)) ?_
        first | (rw [show slo 9 (fun e => sY (r e)) (d + 1) = sY (r d) from if_pos (show sY (r d) < slo 9 (fun e => sY (r e)) d by omega)] at k; exact k) | (rw [show slo 9 (fun e => sY (r e)) (d + 1) = slo 9 (fun e => sY (r e)) d from if_neg (show ¬ sY (r d) < slo 9 (fun e => sY (r e)) d by omega)] at k; exact k)
      · refine x_aload_n rfl (xst_ne (by decide) (xst_ne (by decide) l0 (Or.inl rfl)) (Or.inl rfl)) ?_
        refine x_getfield rfl (by decide) h177 a2 ?_
        refine x_iload rfl (xst_ne (by decide) (xst_ne (by decide) l5 (Or.inl rfl)) (Or.inl rfl)) ?_
        refine x_iaload rfl (by decide) x2 ⟨by omega, by omega⟩ (by omega) ?_
        rw [Int.toNat_natCast, q2]
        refine x_goto (t := 94) rfl rfl ?_
        first | (rw [show slo 9 (fun e => sY (r e)) (d + 1) = sY (r d) from if_pos (show sY (r d) < slo 9 (fun e => sY (r e)) d by omega)] at k; exact k) | (rw [show slo 9 (fun e => sY (r e)) (d + 1) = slo 9 (fun e => sY (r e)) d from if_neg (show ¬ sY (r d) < slo 9 (fun e => sY (r e)) d by omega)] at k; exact k)
    refine x_istore_n rfl (show (3 : Nat) < 11 from by decide) ?_
    refine x_dia (shi (fun e => sY (r e)) (d + 1)) 119 (fun k => ?_) ?_
    · refine x_aload_n rfl (xst_ne (by decide) (xst_ne (by decide) (xst_ne (by decide) l0 (Or.inl rfl)) (Or.inl rfl)) (Or.inl rfl)) ?_
      refine x_getfield rfl (by decide) h177 a2 ?_
      refine x_iload rfl (xst_ne (by decide) (xst_ne (by decide) (xst_ne (by decide) l5 (Or.inl rfl)) (Or.inl rfl)) (Or.inl rfl)) ?_
      refine x_iaload rfl (by decide) x2 ⟨by omega, by omega⟩ (by omega) ?_
      rw [Int.toNat_natCast, q2]
      refine x_iload rfl (xst_ne (by decide) (xst_ne (by decide) (xst_ne (by decide) l4 (Or.inl rfl)) (Or.inl rfl)) (Or.inl rfl)) ?_
      refine x_cle (t := 117) rfl rfl ⟨by omega, by omega⟩ ⟨by omega, by omega⟩ (fun h104 => ?_) (fun h104 => ?_)
      · refine x_iload rfl (xst_ne (by decide) (xst_ne (by decide) (xst_ne (by decide) l4 (Or.inl rfl)) (Or.inl rfl)) (Or.inl rfl)) ?_
        first | (rw [show shi (fun e => sY (r e)) (d + 1) = sY (r d) from if_pos (show shi (fun e => sY (r e)) d < sY (r d) by omega)] at k; exact k) | (rw [show shi (fun e => sY (r e)) (d + 1) = shi (fun e => sY (r e)) d from if_neg (show ¬ shi (fun e => sY (r e)) d < sY (r d) by omega)] at k; exact k)
      · refine x_aload_n rfl (xst_ne (by decide) (xst_ne (by decide) (xst_ne (by decide) l0 (Or.inl rfl)) (Or.inl rfl)) (Or.inl rfl)) ?_
        refine x_getfield rfl (by decide) h177 a2 ?_
        refine x_iload rfl (xst_ne (by decide) (xst_ne (by decide) (xst_ne (by decide) l5 (Or.inl rfl)) (Or.inl rfl)) (Or.inl rfl)) ?_
        refine x_iaload rfl (by decide) x2 ⟨by omega, by omega⟩ (by omega) ?_
        rw [Int.toNat_natCast, q2]
        refine x_goto (t := 119) rfl rfl ?_
        first | (rw [show shi (fun e => sY (r e)) (d + 1) = sY (r d) from if_pos (show shi (fun e => sY (r e)) d < sY (r d) by omega)] at k; exact k) | (rw [show shi (fun e => sY (r e)) (d + 1) = shi (fun e => sY (r e)) d from if_neg (show ¬ shi (fun e => sY (r e)) d < sY (r d) by omega)] at k; exact k)
    refine x_istore rfl (show (4 : Nat) < 11 from by decide) ?_
    refine x_iinc rfl (xst_ne (by decide) (xst_ne (by decide) (xst_ne (by decide) (xst_ne (by decide) l5 (Or.inl rfl)) (Or.inl rfl)) (Or.inl rfl)) (Or.inl rfl)) (show (5 : Nat) < 11 from by decide) ?_
    refine x_goto (t := 19) rfl rfl ?_
    exact ih (d + 1) _ (by omega) (xst_ne (by decide) (xst_ne (by decide) (xst_ne (by decide) (xst_ne (by decide) (xst_ne (by decide) l0 (Or.inl rfl)) (Or.inl rfl)) (Or.inl rfl)) (Or.inl rfl)) (Or.inl rfl)) (xst_ne (by decide) (xst_ne (by decide) (xst_ne (by decide) (xst_ne (by decide) xst_eq (Or.inl rfl)) (Or.inl rfl)) (Or.inl rfl)) (Or.inl rfl)) (xst_ne (by decide) (xst_ne (by decide) (xst_ne (by decide) xst_eq (Or.inl rfl)) (Or.inl rfl)) (Or.inl rfl)) (xst_ne (by decide) (xst_ne (by decide) xst_eq (Or.inl rfl)) (Or.inl rfl)) (xst_ne (by decide) xst_eq (Or.inl rfl)) xst_eq
theorem xs_152b {v0 : Value} {xs : List Int32} {u : Nat × Nat} {Q : zO → zX → Prop} {f : Nat → zE} {fs : List Value} {mx my : List Int} {r : Nat → Int} (h177 : f 177 = .inl (10, fs)) (a1 : fs[22]? = some (.ref 189)) (a2 : fs[23]? = some (.ref 190)) (x1 : f 189 = xr 0 mx) (x2 : f 190 = xr 0 my) (y1 : mx.length = 8) (y2 : my.length = 8) (hx : ∀ d, d < 8 → (mx.getD d 0 = sX (r d) ∧ my.getD d 0 = sY (r d)) ∧ sok (r d)) {H : Int} (hk : ∀ lv : zL, zlv lv 0 = some (.ref 177) → zlv lv 5 = some (xi (shx r - slx r + 1)) → zlv lv 6 = some (xi H) → zlv lv 7 = some (xi (shf r)) → xz v0 xs u Q 152 286 lv [] f) : ∀ (w d : Nat) (lv : zL), w + d = 8 → zlv lv 0 = some (.ref 177) → zlv lv 1 = some (xi (slx r)) → zlv lv 2 = some (xi (shx r)) → zlv lv 3 = some (xi (sly r)) → zlv lv 4 = some (xi (shy r)) → zlv lv 5 = some (xi (shx r - slx r + 1)) → zlv lv 6 = some (xi H) → zlv lv 7 = some (xi (if sall (shol r) d = true then 1 else 0)) → zlv lv 8 = some (xi (d : Nat)) → xz v0 xs u Q 152 176 lv [] f := by
  obtain ⟨⟨s1, s2, s3⟩, s4, s5, s6⟩ := sshape_rg (r := r) fun e he => (hx e he).2
  intro w
  induction w with
  | zero =>
    intro d lv hw l0 l1 l2 l3 l4 l5 l6 l7 l8
    have e8 : d = 8 := by omega
    subst e8
    refine x_iload rfl l8 ?_
    refine x_bipush rfl (by decide) ?_
    refine x_cge (t := 286) rfl rfl (by decide) (by decide) (fun _ => ?_) (fun h => absurd h (by decide))
    exact hk lv l0 l5 l6 l7
  | succ w ih =>
    intro d lv hw l0 l1 l2 l3 l4 l5 l6 l7 l8
    have hd : d < 8 := by omega
    obtain ⟨⟨q1, q2⟩, q3⟩ := hx d hd
    have z5 := sX_rg q3
    have z6 := sY_rg q3
    obtain ⟨s, hs⟩ : ∃ s : Int, s = if sall (shol r) d = true then 1 else 0 := ⟨_, rfl⟩
    have hs1 : 0 ≤ s ∧ s ≤ 1 := by rw [hs]; split <;> omega
    rw [← hs] at l7
    obtain ⟨a, ha0, ha⟩ : ∃ a : Int, (if sX (r d) = slx r ∨ sX (r d) = shx r then 1 else 0) = a ∧ ((a = 1 ∧ (sX (r d) = slx r ∨ sX (r d) = shx r)) ∨ (a = 0 ∧ ¬ (sX (r d) = slx r ∨ sX (r d) = shx r))) := by
      by_cases h : sX (r d) = slx r ∨ sX (r d) = shx r
      · exact ⟨1, if_pos h, Or.inl ⟨rfl, h⟩⟩
      · exact ⟨0, if_neg h, Or.inr ⟨rfl, h⟩⟩
    obtain ⟨b, hb0, hb⟩ : ∃ b : Int, (if sY (r d) = sly r ∨ sY (r d) = shy r then 1 else 0) = b ∧ ((b = 1 ∧ (sY (r d) = sly r ∨ sY (r d) = shy r)) ∨ (b = 0 ∧ ¬ (sY (r d) = sly r ∨ sY (r d) = shy r))) := by
      by_cases h : sY (r d) = sly r ∨ sY (r d) = shy r
      · exact ⟨1, if_pos h, Or.inl ⟨rfl, h⟩⟩
      · exact ⟨0, if_neg h, Or.inr ⟨rfl, h⟩⟩
    have hab : (0 ≤ a ∧ a ≤ 1) ∧ 0 ≤ b ∧ b ≤ 1 := by omega
    have hS := shol_s ha hb hs
    refine x_iload rfl l8 ?_
    refine x_bipush rfl (by decide) ?_
    refine x_cge (t := 286) rfl rfl ⟨by omega, by omega⟩ (by decide) (fun h => absurd h (by omega)) (fun _ => ?_)
    refine x_dia (if sX (r d) = slx r ∨ sX (r d) = shx r then 1 else 0) 210 (fun k => ?_) ?_
    · refine x_aload_n rfl l0 ?_
      refine x_getfield rfl (by decide) h177 a1 ?_
      refine x_iload rfl l8 ?_
      refine x_iaload rfl (by decide) x1 ⟨by omega, by omega⟩ (by omega) ?_
      rw [Int.toNat_natCast, q1]
      refine x_iload_n rfl l1 ?_
      refine x_ceq (t := 205) rfl rfl ⟨by omega, by omega⟩ ⟨by omega, by omega⟩ (fun h191 => ?_) (fun h191 => ?_)
      · refine x_iconst rfl ?_
        refine x_goto (t := 210) rfl rfl ?_
        first | exact k | (rw [if_pos (by omega)] at k; exact k) | (rw [if_neg (by omega)] at k; exact k)
      · refine x_aload_n rfl l0 ?_
        refine x_getfield rfl (by decide) h177 a1 ?_
        refine x_iload rfl l8 ?_
        refine x_iaload rfl (by decide) x1 ⟨by omega, by omega⟩ (by omega) ?_
        rw [Int.toNat_natCast, q1]
        refine x_iload_n rfl l2 ?_
        refine x_cne (t := 209) rfl rfl ⟨by omega, by omega⟩ ⟨by omega, by omega⟩ (fun h202 => ?_) (fun h202 => ?_)
        · refine x_iconst rfl ?_
          first | exact k | (rw [if_pos (by omega)] at k; exact k) | (rw [if_neg (by omega)] at k; exact k)
        · refine x_iconst rfl ?_
          refine x_goto (t := 210) rfl rfl ?_
          first | exact k | (rw [if_pos (by omega)] at k; exact k) | (rw [if_neg (by omega)] at k; exact k)
    rw [ha0]
    refine x_istore rfl (show (9 : Nat) < 11 from by decide) ?_
    refine x_dia (if sY (r d) = sly r ∨ sY (r d) = shy r then 1 else 0) 240 (fun k => ?_) ?_
    · refine x_aload_n rfl (xst_ne (by decide) l0 (Or.inl rfl)) ?_
      refine x_getfield rfl (by decide) h177 a2 ?_
      refine x_iload rfl (xst_ne (by decide) l8 (Or.inl rfl)) ?_
      refine x_iaload rfl (by decide) x2 ⟨by omega, by omega⟩ (by omega) ?_
      rw [Int.toNat_natCast, q2]
      refine x_iload_n rfl (xst_ne (by decide) l3 (Or.inl rfl)) ?_
      refine x_ceq (t := 235) rfl rfl ⟨by omega, by omega⟩ ⟨by omega, by omega⟩ (fun h220 => ?_) (fun h220 => ?_)
      · refine x_iconst rfl ?_
        refine x_goto (t := 240) rfl rfl ?_
        first | exact k | (rw [if_pos (by omega)] at k; exact k) | (rw [if_neg (by omega)] at k; exact k)
      · refine x_aload_n rfl (xst_ne (by decide) l0 (Or.inl rfl)) ?_
        refine x_getfield rfl (by decide) h177 a2 ?_
        refine x_iload rfl (xst_ne (by decide) l8 (Or.inl rfl)) ?_
        refine x_iaload rfl (by decide) x2 ⟨by omega, by omega⟩ (by omega) ?_
        rw [Int.toNat_natCast, q2]
        refine x_iload rfl (xst_ne (by decide) l4 (Or.inl rfl)) ?_
        refine x_cne (t := 239) rfl rfl ⟨by omega, by omega⟩ ⟨by omega, by omega⟩ (fun h232 => ?_) (fun h232 => ?_)
        · refine x_iconst rfl ?_
          first | exact k | (rw [if_pos (by omega)] at k; exact k) | (rw [if_neg (by omega)] at k; exact k)
        · refine x_iconst rfl ?_
          refine x_goto (t := 240) rfl rfl ?_
          first | exact k | (rw [if_pos (by omega)] at k; exact k) | (rw [if_neg (by omega)] at k; exact k)
    rw [hb0]
    refine x_istore rfl (show (10 : Nat) < 11 from by decide) ?_
    refine x_dia (if s = 1 ∧ ((shx r - slx r + 1 = 4 ∧ a ≠ b) ∨ (shx r - slx r + 1 ≠ 4 ∧ (a = 1 ∨ b = 1))) then 1 else 0) 278 (fun k => ?_) ?_
    · refine x_iload rfl (xst_ne (by decide) (xst_ne (by decide) l7 (Or.inl rfl)) (Or.inl rfl)) ?_
      refine x_ifeq (t := 277) rfl rfl ⟨by omega, by omega⟩ (fun h244 => ?_) (fun h244 => ?_)
      · refine x_iconst rfl ?_
        first | exact k | (rw [if_pos (by omega)] at k; exact k) | (rw [if_neg (by omega)] at k; exact k)
      · refine x_iload rfl (xst_ne (by decide) (xst_ne (by decide) l5 (Or.inl rfl)) (Or.inl rfl)) ?_
        refine x_iconst rfl ?_
        refine x_cne (t := 263) rfl rfl ⟨by omega, by omega⟩ ⟨by omega, by omega⟩ (fun h250 => ?_) (fun h250 => ?_)
        · refine x_iload rfl (xst_ne (by decide) xst_eq (Or.inl rfl)) ?_
          refine x_ifne (t := 273) rfl rfl ⟨by omega, by omega⟩ (fun h265 => ?_) (fun h265 => ?_)
          · refine x_iconst rfl ?_
            refine x_goto (t := 278) rfl rfl ?_
            first | exact k | (rw [if_pos (by omega)] at k; exact k) | (rw [if_neg (by omega)] at k; exact k)
          · refine x_iload rfl xst_eq ?_
            refine x_ifeq (t := 277) rfl rfl ⟨by omega, by omega⟩ (fun h270 => ?_) (fun h270 => ?_)
            · refine x_iconst rfl ?_
              first | exact k | (rw [if_pos (by omega)] at k; exact k) | (rw [if_neg (by omega)] at k; exact k)
            · refine x_iconst rfl ?_
              refine x_goto (t := 278) rfl rfl ?_
              first | exact k | (rw [if_pos (by omega)] at k; exact k) | (rw [if_neg (by omega)] at k; exact k)
        · refine x_iload rfl (xst_ne (by decide) xst_eq (Or.inl rfl)) ?_
          refine x_iload rfl xst_eq ?_
          refine x_ceq (t := 277) rfl rfl ⟨by omega, by omega⟩ ⟨by omega, by omega⟩ (fun h257 => ?_) (fun h257 => ?_)
          · refine x_iconst rfl ?_
            first | exact k | (rw [if_pos (by omega)] at k; exact k) | (rw [if_neg (by omega)] at k; exact k)
          · refine x_goto (t := 273) rfl rfl ?_
            refine x_iconst rfl ?_
            refine x_goto (t := 278) rfl rfl ?_
            first | exact k | (rw [if_pos (by omega)] at k; exact k) | (rw [if_neg (by omega)] at k; exact k)
    rw [hS]
    refine x_istore rfl (show (7 : Nat) < 11 from by decide) ?_
    refine x_iinc rfl (xst_ne (by decide) (xst_ne (by decide) (xst_ne (by decide) l8 (Or.inl rfl)) (Or.inl rfl)) (Or.inl rfl)) (show (8 : Nat) < 11 from by decide) ?_
    refine x_goto (t := 176) rfl rfl ?_
    exact ih (d + 1) _ (by omega) (xst_ne (by decide) (xst_ne (by decide) (xst_ne (by decide) (xst_ne (by decide) l0 (Or.inl rfl)) (Or.inl rfl)) (Or.inl rfl)) (Or.inl rfl)) (xst_ne (by decide) (xst_ne (by decide) (xst_ne (by decide) (xst_ne (by decide) l1 (Or.inl rfl)) (Or.inl rfl)) (Or.inl rfl)) (Or.inl rfl)) (xst_ne (by decide) (xst_ne (by decide) (xst_ne (by decide) (xst_ne (by decide) l2 (Or.inl rfl)) (Or.inl rfl)) (Or.inl rfl)) (Or.inl rfl)) (xst_ne (by decide) (xst_ne (by decide) (xst_ne (by decide) (xst_ne (by decide) l3 (Or.inl rfl)) (Or.inl rfl)) (Or.inl rfl)) (Or.inl rfl)) (xst_ne (by decide) (xst_ne (by decide) (xst_ne (by decide) (xst_ne (by decide) l4 (Or.inl rfl)) (Or.inl rfl)) (Or.inl rfl)) (Or.inl rfl)) (xst_ne (by decide) (xst_ne (by decide) (xst_ne (by decide) (xst_ne (by decide) l5 (Or.inl rfl)) (Or.inl rfl)) (Or.inl rfl)) (Or.inl rfl)) (xst_ne (by decide) (xst_ne (by decide) (xst_ne (by decide) (xst_ne (by decide) l6 (Or.inl rfl)) (Or.inl rfl)) (Or.inl rfl)) (Or.inl rfl)) (xst_ne (by decide) xst_eq (Or.inl rfl)) xst_eq
set_option maxRecDepth 20000 in
theorem xs_152 {v0 : Value} {xs : List Int32} {u : Nat × Nat} {f : Nat → zE} {n : Nat} {S : sS} (hT : sMT f n S) : sMq v0 xs u 152 [(0, .ref 177)] f n (0, sshape S.1, S) := by
  unfold sMq xq
  obtain ⟨⟨fs, hB⟩, hX, hJ, hC⟩ := hT
  have hB0 := hB
  obtain ⟨⟨h177, hfl, ⟨f11, f13, f14, f15, f17, f18⟩, h25, h26, h27⟩, ⟨a1, a2, a3, a4, a5, a6⟩, h9, h31, h30⟩ := hB
  obtain ⟨mx, my, mf, x1, x2, x3, ⟨y1, y2, y3⟩, hx⟩ := id hX
  have hx2 : ∀ d, d < 8 → (mx.getD d 0 = sX (S.1 d) ∧ my.getD d 0 = sY (S.1 d)) ∧ sok (S.1 d) := fun d hd => ⟨⟨(hx d hd).1.1, (hx d hd).1.2.1⟩, (hx d hd).2⟩
  obtain ⟨⟨s1, s2, s3⟩, s4, s5, s6⟩ := sshape_rg (r := S.1) fun e he => (hx e he).2
  have hf := shf_rg S.1
  refine x_aload_n rfl rfl ?_
  refine x_iconst rfl ?_
  refine x_putfield rfl (by decide) h177 (show (0 : Nat) < _ from by rw [hfl]; decide) rfl ?_
  refine x_bipush rfl (by decide) ?_
  refine x_istore_n rfl (show (1 : Nat) < 11 from by decide) ?_
  refine x_iconst rfl ?_
  refine x_istore_n rfl (show (2 : Nat) < 11 from by decide) ?_
  refine x_bipush rfl (by decide) ?_
  refine x_istore_n rfl (show (3 : Nat) < 11 from by decide) ?_
  refine x_iconst rfl ?_
  refine x_istore rfl (show (4 : Nat) < 11 from by decide) ?_
  refine x_iconst rfl ?_
  refine x_istore rfl (show (5 : Nat) < 11 from by decide) ?_
  have g1 : (fs.set 0 (xi 0))[22]? = some (.ref 189) := sget_ne (by decide) a1
  have g2 : (fs.set 0 (xi 0))[23]? = some (.ref 190) := sget_ne (by decide) a2
  have done : ∀ y : Int, y = sshape S.1 → ∃ r' f', (.inl (some (xi y)) : zO) = .inl r' ∧ ((xh (xu f 177 (.inl (10, fs.set 0 (xi 0)))), u) : zX) = (xh f', u) ∧ (r' = some (xi (sshape S.1)) ∧ sCD f' 0 ∧ sMT f' n S ∧ ∀ q, q ≠ 177 → ¬ (189 ≤ q ∧ q ≤ 197) → f' q = f q) := fun y hy => ⟨_, _, rfl, rfl, by rw [hy], ⟨_, xu_eq, sget_eq (by rw [hfl]; decide)⟩, sMT_0 hB0 hX hJ hC, fun q b1 _ => xu_ne b1 rfl⟩
  refine xs_152a xu_eq g1 g2 (xu_ne (by decide) x1) (xu_ne (by decide) x2) y1 y2 hx2 (fun lv m0 m1 m2 m3 m4 => ?_) 8 0 _ rfl (xst_ne (by decide) (xst_ne (by decide) (xst_ne (by decide) (xst_ne (by decide) (xst_ne (by decide) rfl (Or.inl rfl)) (Or.inl rfl)) (Or.inl rfl)) (Or.inl rfl)) (Or.inl rfl)) (xst_ne (by decide) (xst_ne (by decide) (xst_ne (by decide) (xst_ne (by decide) xst_eq (Or.inl rfl)) (Or.inl rfl)) (Or.inl rfl)) (Or.inl rfl)) (xst_ne (by decide) (xst_ne (by decide) (xst_ne (by decide) xst_eq (Or.inl rfl)) (Or.inl rfl)) (Or.inl rfl)) (xst_ne (by decide) (xst_ne (by decide) xst_eq (Or.inl rfl)) (Or.inl rfl)) (xst_ne (by decide) xst_eq (Or.inl rfl)) xst_eq
  refine x_iload_n rfl m2 ?_
  refine x_iload_n rfl m1 ?_
  refine x_isub rfl ?_
  refine x_iconst rfl ?_
  refine x_iadd rfl ?_
  refine x_istore rfl (show (5 : Nat) < 11 from by decide) ?_
  refine x_iload rfl (xst_ne (by decide) m4 (Or.inl rfl)) ?_
  refine x_iload_n rfl (xst_ne (by decide) m3 (Or.inl rfl)) ?_
  refine x_isub rfl ?_
  refine x_iconst rfl ?_
  refine x_iadd rfl ?_
  refine x_istore rfl (show (6 : Nat) < 11 from by decide) ?_
  refine x_iload rfl (xst_ne (by decide) xst_eq (Or.inl rfl)) ?_
  refine x_iload rfl xst_eq ?_
  refine x_imul rfl ?_
  obtain ⟨P, hP⟩ : ∃ P : Int, P = (shx S.1 - slx S.1 + 1) * (shy S.1 - sly S.1 + 1) := ⟨_, rfl⟩
  have hP2 : 1 ≤ P ∧ P ≤ 100 := by
    rw [hP]
    have k1 := Int.mul_le_mul (show shx S.1 - slx S.1 + 1 ≤ 10 by omega) (show shy S.1 - sly S.1 + 1 ≤ 10 by omega) (by omega) (by decide : (0 : Int) ≤ 10)
    have k2 := Int.mul_pos (show 0 < shx S.1 - slx S.1 + 1 by omega) (show 0 < shy S.1 - sly S.1 + 1 by omega)
    omega
  have hE : sshape S.1 = if P = 8 then (if shx S.1 - slx S.1 + 1 = 1 ∨ shy S.1 - sly S.1 + 1 = 1 then 1 else 2) else if shx S.1 - slx S.1 + 1 ≠ shy S.1 - sly S.1 + 1 ∨ shf S.1 = 0 ∨ shx S.1 - slx S.1 + 1 < 3 ∨ 4 < shx S.1 - slx S.1 + 1 then 0 else if shx S.1 - slx S.1 + 1 = 4 then 3 else 4 := by rw [hP]; rfl
  rw [← hP]
  refine x_bipush rfl (by decide) ?_
  refine x_cne (t := 170) rfl rfl ⟨by omega, by omega⟩ ⟨by omega, by omega⟩ (fun h149 => ?_) (fun h149 => ?_)
  · refine x_iconst rfl ?_
    refine x_istore rfl (show (7 : Nat) < 11 from by decide) ?_
    refine x_iconst rfl ?_
    refine x_istore rfl (show (8 : Nat) < 11 from by decide) ?_
    have e0 : (1 : Int) = if sall (shol S.1) 0 = true then 1 else 0 := rfl
    refine xs_152b (H := shy S.1 - sly S.1 + 1) xu_eq g1 g2 (xu_ne (by decide) x1) (xu_ne (by decide) x2) y1 y2 hx2 (fun lv n0 n5 n6 n7 => ?_) 8 0 _ rfl (xst_ne (by decide) (xst_ne (by decide) (xst_ne (by decide) (xst_ne (by decide) m0 (Or.inl rfl)) (Or.inl rfl)) (Or.inl rfl)) (Or.inl rfl)) (xst_ne (by decide) (xst_ne (by decide) (xst_ne (by decide) (xst_ne (by decide) m1 (Or.inl rfl)) (Or.inl rfl)) (Or.inl rfl)) (Or.inl rfl)) (xst_ne (by decide) (xst_ne (by decide) (xst_ne (by decide) (xst_ne (by decide) m2 (Or.inl rfl)) (Or.inl rfl)) (Or.inl rfl)) (Or.inl rfl)) (xst_ne (by decide) (xst_ne (by decide) (xst_ne (by decide) (xst_ne (by decide) m3 (Or.inl rfl)) (Or.inl rfl)) (Or.inl rfl)) (Or.inl rfl)) (xst_ne (by decide) (xst_ne (by decide) (xst_ne (by decide) (xst_ne (by decide) m4 (Or.inl rfl)) (Or.inl rfl)) (Or.inl rfl)) (Or.inl rfl)) (xst_ne (by decide) (xst_ne (by decide) (xst_ne (by decide) xst_eq (Or.inl rfl)) (Or.inl rfl)) (Or.inl rfl)) (xst_ne (by decide) (xst_ne (by decide) xst_eq (Or.inl rfl)) (Or.inl rfl)) (xst_ne (by decide) xst_eq (Or.inl rfl)) xst_eq
    refine x_iload rfl n5 ?_
    refine x_iload rfl n6 ?_
    refine x_cne (t := 310) rfl rfl ⟨by omega, by omega⟩ ⟨by omega, by omega⟩ (fun h290 => ?_) (fun h290 => ?_)
    · refine x_iconst rfl ?_
      refine x_goto (t := 325) rfl rfl ?_
      refine x_ireturn rfl (Or.inl rfl) (done _ ?_)
      rw [hE]
      first | (exfalso; omega) | rw [if_pos (by omega), if_pos (by omega)] | rw [if_pos (by omega), if_neg (by omega)] | rw [if_neg (by omega), if_pos (by omega)] | rw [if_neg (by omega), if_neg (by omega), if_pos (by omega)] | rw [if_neg (by omega), if_neg (by omega), if_neg (by omega)]
    · refine x_iload rfl n7 ?_
      refine x_ifeq (t := 310) rfl rfl ⟨by omega, by omega⟩ (fun h295 => ?_) (fun h295 => ?_)
      · refine x_iconst rfl ?_
        refine x_goto (t := 325) rfl rfl ?_
        refine x_ireturn rfl (Or.inl rfl) (done _ ?_)
        rw [hE]
        first | (exfalso; omega) | rw [if_pos (by omega), if_pos (by omega)] | rw [if_pos (by omega), if_neg (by omega)] | rw [if_neg (by omega), if_pos (by omega)] | rw [if_neg (by omega), if_neg (by omega), if_pos (by omega)] | rw [if_neg (by omega), if_neg (by omega), if_neg (by omega)]
      · refine x_iload rfl n5 ?_
        refine x_iconst rfl ?_
        refine x_clt (t := 310) rfl rfl ⟨by omega, by omega⟩ ⟨by omega, by omega⟩ (fun h301 => ?_) (fun h301 => ?_)
        · refine x_iconst rfl ?_
          refine x_goto (t := 325) rfl rfl ?_
          refine x_ireturn rfl (Or.inl rfl) (done _ ?_)
          rw [hE]
          first | (exfalso; omega) | rw [if_pos (by omega), if_pos (by omega)] | rw [if_pos (by omega), if_neg (by omega)] | rw [if_neg (by omega), if_pos (by omega)] | rw [if_neg (by omega), if_neg (by omega), if_pos (by omega)] | rw [if_neg (by omega), if_neg (by omega), if_neg (by omega)]
        · refine x_iload rfl n5 ?_
          refine x_iconst rfl ?_
          refine x_cle (t := 314) rfl rfl ⟨by omega, by omega⟩ ⟨by omega, by omega⟩ (fun h307 => ?_) (fun h307 => ?_)
          · refine x_iload rfl n5 ?_
            refine x_iconst rfl ?_
            refine x_cne (t := 324) rfl rfl ⟨by omega, by omega⟩ ⟨by omega, by omega⟩ (fun h317 => ?_) (fun h317 => ?_)
            · refine x_iconst rfl ?_
              refine x_ireturn rfl (Or.inl rfl) (done _ ?_)
              rw [hE]
              first | (exfalso; omega) | rw [if_pos (by omega), if_pos (by omega)] | rw [if_pos (by omega), if_neg (by omega)] | rw [if_neg (by omega), if_pos (by omega)] | rw [if_neg (by omega), if_neg (by omega), if_pos (by omega)] | rw [if_neg (by omega), if_neg (by omega), if_neg (by omega)]
            · refine x_iconst rfl ?_
              refine x_goto (t := 325) rfl rfl ?_
              refine x_ireturn rfl (Or.inl rfl) (done _ ?_)
              rw [hE]
              first | (exfalso; omega) | rw [if_pos (by omega), if_pos (by omega)] | rw [if_pos (by omega), if_neg (by omega)] | rw [if_neg (by omega), if_pos (by omega)] | rw [if_neg (by omega), if_neg (by omega), if_pos (by omega)] | rw [if_neg (by omega), if_neg (by omega), if_neg (by omega)]
          · refine x_iconst rfl ?_
            refine x_goto (t := 325) rfl rfl ?_
            refine x_ireturn rfl (Or.inl rfl) (done _ ?_)
            rw [hE]
            first | (exfalso; omega) | rw [if_pos (by omega), if_pos (by omega)] | rw [if_pos (by omega), if_neg (by omega)] | rw [if_neg (by omega), if_pos (by omega)] | rw [if_neg (by omega), if_neg (by omega), if_pos (by omega)] | rw [if_neg (by omega), if_neg (by omega), if_neg (by omega)]
  · refine x_iload rfl (xst_ne (by decide) xst_eq (Or.inl rfl)) ?_
    refine x_iconst rfl ?_
    refine x_ceq (t := 164) rfl rfl ⟨by omega, by omega⟩ ⟨by omega, by omega⟩ (fun h155 => ?_) (fun h155 => ?_)
    · refine x_iconst rfl ?_
      refine x_goto (t := 169) rfl rfl ?_
      refine x_ireturn rfl (Or.inl rfl) (done _ ?_)
      rw [hE]
      first | (exfalso; omega) | rw [if_pos (by omega), if_pos (by omega)] | rw [if_pos (by omega), if_neg (by omega)] | rw [if_neg (by omega), if_pos (by omega)] | rw [if_neg (by omega), if_neg (by omega), if_pos (by omega)] | rw [if_neg (by omega), if_neg (by omega), if_neg (by omega)]
    · refine x_iload rfl xst_eq ?_
      refine x_iconst rfl ?_
      refine x_cne (t := 168) rfl rfl ⟨by omega, by omega⟩ ⟨by omega, by omega⟩ (fun h161 => ?_) (fun h161 => ?_)
      · refine x_iconst rfl ?_
        refine x_ireturn rfl (Or.inl rfl) (done _ ?_)
        rw [hE]
        first | (exfalso; omega) | rw [if_pos (by omega), if_pos (by omega)] | rw [if_pos (by omega), if_neg (by omega)] | rw [if_neg (by omega), if_pos (by omega)] | rw [if_neg (by omega), if_neg (by omega), if_pos (by omega)] | rw [if_neg (by omega), if_neg (by omega), if_neg (by omega)]
      · refine x_iconst rfl ?_
        refine x_goto (t := 169) rfl rfl ?_
        refine x_ireturn rfl (Or.inl rfl) (done _ ?_)
        rw [hE]
        first | (exfalso; omega) | rw [if_pos (by omega), if_pos (by omega)] | rw [if_pos (by omega), if_neg (by omega)] | rw [if_neg (by omega), if_pos (by omega)] | rw [if_neg (by omega), if_neg (by omega), if_pos (by omega)] | rw [if_neg (by omega), if_neg (by omega), if_neg (by omega)]
