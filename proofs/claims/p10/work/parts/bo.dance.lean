/-! Shape: the class. -/
theorem sRL_at {pl : List Int} {r : Nat → Int} (h : sRL pl 0 r) {d : Nat} (hd : d < 8) : pl.getD d 0 = r d ∧ sok (r d) := by
  obtain ⟨a1, a2⟩ := h.2.2 d hd
  rw [show ((0 : Int) + (d : Nat)).toNat = d by omega] at a1
  exact ⟨a1, a2⟩
theorem xs_149l {v0 : Value} {xs : List Int32} {u : Nat × Nat} {f : Nat → zE} {pl : List Int} {r : Nat → Int} (h175 : f 175 = xr 0 pl) (hpl : pl.length = 8) (hrl : sRL pl 0 r) {W So z wt : Int} (hW : 0 ≤ W ∧ W ≤ 10) (hS : 0 ≤ So ∧ So ≤ 10) (hz : 1 ≤ z ∧ z ≤ 4) (hwt : 0 ≤ wt ∧ wt ≤ 2) : ∀ (w d : Nat) (lv : zL), w + d = 8 → zlv lv 0 = some (.ref 175) → zlv lv 1 = some (xi W) → zlv lv 2 = some (xi So) → zlv lv 3 = some (xi z) → zlv lv 4 = some (xi wt) → zlv lv 5 = some (xi (scnt (fun d => sedge (r d) W So z == wt) d)) → zlv lv 6 = some (xi (d : Nat)) → xz v0 xs u (fun o X => ∃ r' f', o = .inl r' ∧ X = (xh f', u) ∧ (fun r' f' => r' = some (xi (scnt (fun d => sedge (r d) W So z == wt) 8)) ∧ f' = f) r' f') 149 6 lv [] f := by
  intro w
  induction w with
  | zero =>
    intro d lv hw l0 l1 l2 l3 l4 l5 l6
    have e8 : d = 8 := by omega
    subst e8
    refine x_iload rfl l6 ?_
    refine x_bipush rfl (by decide) ?_
    refine x_cge (t := 94) rfl rfl (by decide) (by decide) (fun _ => ?_) (fun h => absurd h (by decide))
    refine x_iload rfl l5 ?_
    exact x_ireturn rfl (Or.inl rfl) ⟨_, _, rfl, rfl, rfl, rfl⟩
  | succ w ih =>
    intro d lv hw l0 l1 l2 l3 l4 l5 l6
    have hd : d < 8 := by omega
    obtain ⟨a1, a2⟩ := sRL_at hrl hd
    have hc := scnt_rg (fun d => sedge (r d) W So z == wt) d
    have hX := sX_rg a2
    have hY := sY_rg a2
    have a3 : 0 ≤ r d ∧ r d < 400 := a2
    refine x_iload rfl l6 ?_
    refine x_bipush rfl (by decide) ?_
    refine x_cge (t := 94) rfl rfl ⟨by omega, by omega⟩ (by decide) (fun h => absurd h (by omega)) (fun _ => ?_)
    refine x_aload_n rfl l0 ?_
    refine x_iload rfl l6 ?_
    refine x_iaload rfl (by decide) h175 ⟨by omega, by omega⟩ (by omega) ?_
    rw [Int.toNat_natCast, a1]
    refine x_iconst rfl ?_
    refine x_idiv rfl ⟨by omega, by omega⟩ (by decide) ?_
    refine x_bipush rfl (by decide) ?_
    refine x_irem rfl ⟨by omega, by omega⟩ (by decide) ?_
    rw [show r d / 4 % 10 = sX (r d) from rfl]
    refine x_iload_n rfl l1 ?_
    refine x_isub rfl ?_
    refine x_istore rfl (show (7 : Nat) < 10 from by decide) ?_
    refine x_aload_n rfl (xst_ne (by decide) l0 (Or.inl rfl)) ?_
    refine x_iload rfl (xst_ne (by decide) l6 (Or.inl rfl)) ?_
    refine x_iaload rfl (by decide) h175 ⟨by omega, by omega⟩ (by omega) ?_
    rw [Int.toNat_natCast, a1]
    refine x_iconst rfl ?_
    refine x_idiv rfl ⟨by omega, by omega⟩ (by decide) ?_
    refine x_bipush rfl (by decide) ?_
    refine x_idiv rfl ⟨by omega, by omega⟩ (by decide) ?_
    rw [show r d / 4 / 10 = sY (r d) by unfold sY; omega]
    refine x_iload_n rfl (xst_ne (by decide) l2 (Or.inl rfl)) ?_
    refine x_isub rfl ?_
    refine x_istore rfl (show (8 : Nat) < 10 from by decide) ?_
    refine x_dia (if sX (r d) - W = 0 ∨ sX (r d) - W = z - 1 then 1 else 0) 57 (fun k => ?_) ?_
    · refine x_iload rfl (xst_ne (by decide) xst_eq (Or.inl rfl)) ?_
      refine x_ifeq (t := 52) rfl rfl ⟨by omega, by omega⟩ (fun h41 => ?_) (fun h41 => ?_)
      · refine x_iconst rfl ?_
        refine x_goto (t := 57) rfl rfl ?_
        first | exact k | (rw [if_pos (by omega)] at k; exact k) | (rw [if_neg (by omega)] at k; exact k)
      · refine x_iload rfl (xst_ne (by decide) xst_eq (Or.inl rfl)) ?_
        refine x_iload_n rfl (xst_ne (by decide) (xst_ne (by decide) l3 (Or.inl rfl)) (Or.inl rfl)) ?_
        refine x_iconst rfl ?_
        refine x_isub rfl ?_
        refine x_cne (t := 56) rfl rfl ⟨by omega, by omega⟩ ⟨by omega, by omega⟩ (fun h49 => ?_) (fun h49 => ?_)
        · refine x_iconst rfl ?_
          first | exact k | (rw [if_pos (by omega)] at k; exact k) | (rw [if_neg (by omega)] at k; exact k)
        · refine x_iconst rfl ?_
          refine x_goto (t := 57) rfl rfl ?_
          first | exact k | (rw [if_pos (by omega)] at k; exact k) | (rw [if_neg (by omega)] at k; exact k)
    refine x_dia (if sY (r d) - So = 0 ∨ sY (r d) - So = z - 1 then 1 else 0) 75 (fun k => ?_) ?_
    · refine x_iload rfl xst_eq ?_
      refine x_ifeq (t := 70) rfl rfl ⟨by omega, by omega⟩ (fun h59 => ?_) (fun h59 => ?_)
      · refine x_iconst rfl ?_
        refine x_goto (t := 75) rfl rfl ?_
        first | exact k | (rw [if_pos (by omega)] at k; exact k) | (rw [if_neg (by omega)] at k; exact k)
      · refine x_iload rfl xst_eq ?_
        refine x_iload_n rfl (xst_ne (by decide) (xst_ne (by decide) l3 (Or.inl rfl)) (Or.inl rfl)) ?_
        refine x_iconst rfl ?_
        refine x_isub rfl ?_
        refine x_cne (t := 74) rfl rfl ⟨by omega, by omega⟩ ⟨by omega, by omega⟩ (fun h67 => ?_) (fun h67 => ?_)
        · refine x_iconst rfl ?_
          first | exact k | (rw [if_pos (by omega)] at k; exact k) | (rw [if_neg (by omega)] at k; exact k)
        · refine x_iconst rfl ?_
          refine x_goto (t := 75) rfl rfl ?_
          first | exact k | (rw [if_pos (by omega)] at k; exact k) | (rw [if_neg (by omega)] at k; exact k)
    refine x_iadd rfl ?_
    rw [show (if sX (r d) - W = 0 ∨ sX (r d) - W = z - 1 then (1 : Int) else 0) + (if sY (r d) - So = 0 ∨ sY (r d) - So = z - 1 then 1 else 0) = sedge (r d) W So z from rfl]
    have he : 0 ≤ sedge (r d) W So z ∧ sedge (r d) W So z ≤ 2 := by unfold sedge; split <;> split <;> omega
    refine x_istore rfl (show (9 : Nat) < 10 from by decide) ?_
    refine x_iload rfl xst_eq ?_
    refine x_iload rfl (xst_ne (by decide) (xst_ne (by decide) (xst_ne (by decide) l4 (Or.inl rfl)) (Or.inl rfl)) (Or.inl rfl)) ?_
    refine x_cne (t := 88) rfl rfl ⟨by omega, by omega⟩ ⟨by omega, by omega⟩ (fun h82 => ?_) (fun h82 => ?_)
    · refine x_iinc rfl (xst_ne (by decide) (xst_ne (by decide) (xst_ne (by decide) l6 (Or.inl rfl)) (Or.inl rfl)) (Or.inl rfl)) (show (6 : Nat) < 10 from by decide) ?_
      refine x_goto (t := 6) rfl rfl ?_
      have e9 : scnt (fun d => sedge (r d) W So z == wt) (d + 1) = scnt (fun d => sedge (r d) W So z == wt) d := by
        show scnt (fun d => sedge (r d) W So z == wt) d + (if (sedge (r d) W So z == wt) = true then 1 else 0) = _
        rw [if_neg (by rw [beq_iff_eq]; exact h82)]; omega
      refine ih (d + 1) _ (by omega) (xst_ne (by decide) (xst_ne (by decide) (xst_ne (by decide) (xst_ne (by decide) l0 (Or.inl rfl)) (Or.inl rfl)) (Or.inl rfl)) (Or.inl rfl)) (xst_ne (by decide) (xst_ne (by decide) (xst_ne (by decide) (xst_ne (by decide) l1 (Or.inl rfl)) (Or.inl rfl)) (Or.inl rfl)) (Or.inl rfl)) (xst_ne (by decide) (xst_ne (by decide) (xst_ne (by decide) (xst_ne (by decide) l2 (Or.inl rfl)) (Or.inl rfl)) (Or.inl rfl)) (Or.inl rfl)) (xst_ne (by decide) (xst_ne (by decide) (xst_ne (by decide) (xst_ne (by decide) l3 (Or.inl rfl)) (Or.inl rfl)) (Or.inl rfl)) (Or.inl rfl)) (xst_ne (by decide) (xst_ne (by decide) (xst_ne (by decide) (xst_ne (by decide) l4 (Or.inl rfl)) (Or.inl rfl)) (Or.inl rfl)) (Or.inl rfl)) ?_ xst_eq
      rw [e9]
      exact (xst_ne (by decide) (xst_ne (by decide) (xst_ne (by decide) (xst_ne (by decide) l5 (Or.inl rfl)) (Or.inl rfl)) (Or.inl rfl)) (Or.inl rfl))
    · refine x_iinc rfl (xst_ne (by decide) (xst_ne (by decide) (xst_ne (by decide) l5 (Or.inl rfl)) (Or.inl rfl)) (Or.inl rfl)) (show (5 : Nat) < 10 from by decide) ?_
      refine x_iinc rfl (xst_ne (by decide) (xst_ne (by decide) (xst_ne (by decide) (xst_ne (by decide) l6 (Or.inl rfl)) (Or.inl rfl)) (Or.inl rfl)) (Or.inl rfl)) (show (6 : Nat) < 10 from by decide) ?_
      refine x_goto (t := 6) rfl rfl ?_
      have e9 : scnt (fun d => sedge (r d) W So z == wt) (d + 1) = scnt (fun d => sedge (r d) W So z == wt) d + 1 := by
        show scnt (fun d => sedge (r d) W So z == wt) d + (if (sedge (r d) W So z == wt) = true then 1 else 0) = _
        rw [if_pos (by rw [beq_iff_eq]; exact h82)]
      refine ih (d + 1) _ (by omega) (xst_ne (by decide) (xst_ne (by decide) (xst_ne (by decide) (xst_ne (by decide) (xst_ne (by decide) l0 (Or.inl rfl)) (Or.inl rfl)) (Or.inl rfl)) (Or.inl rfl)) (Or.inl rfl)) (xst_ne (by decide) (xst_ne (by decide) (xst_ne (by decide) (xst_ne (by decide) (xst_ne (by decide) l1 (Or.inl rfl)) (Or.inl rfl)) (Or.inl rfl)) (Or.inl rfl)) (Or.inl rfl)) (xst_ne (by decide) (xst_ne (by decide) (xst_ne (by decide) (xst_ne (by decide) (xst_ne (by decide) l2 (Or.inl rfl)) (Or.inl rfl)) (Or.inl rfl)) (Or.inl rfl)) (Or.inl rfl)) (xst_ne (by decide) (xst_ne (by decide) (xst_ne (by decide) (xst_ne (by decide) (xst_ne (by decide) l3 (Or.inl rfl)) (Or.inl rfl)) (Or.inl rfl)) (Or.inl rfl)) (Or.inl rfl)) (xst_ne (by decide) (xst_ne (by decide) (xst_ne (by decide) (xst_ne (by decide) (xst_ne (by decide) l4 (Or.inl rfl)) (Or.inl rfl)) (Or.inl rfl)) (Or.inl rfl)) (Or.inl rfl)) ?_ xst_eq
      rw [e9]
      exact (xst_ne (by decide) xst_eq (Or.inl rfl))
theorem xs_149 {v0 : Value} {xs : List Int32} {u : Nat × Nat} {f : Nat → zE} {pl : List Int} {r : Nat → Int} (h175 : f 175 = xr 0 pl) (hpl : pl.length = 8) (hrl : sRL pl 0 r) {W So z wt : Int} (hW : 0 ≤ W ∧ W ≤ 10) (hS : 0 ≤ So ∧ So ≤ 10) (hz : 1 ≤ z ∧ z ≤ 4) (hwt : 0 ≤ wt ∧ wt ≤ 2) : xq v0 xs u 149 [(0, .ref 175), (1, xi W), (2, xi So), (3, xi z), (4, xi wt)] f (fun r' f' => r' = some (xi (scnt (fun d => sedge (r d) W So z == wt) 8)) ∧ f' = f) := by
  unfold xq
  refine x_iconst rfl ?_
  refine x_istore rfl (show (5 : Nat) < 10 from by decide) ?_
  refine x_iconst rfl ?_
  refine x_istore rfl (show (6 : Nat) < 10 from by decide) ?_
  exact xs_149l h175 hpl hrl hW hS hz hwt 8 0 _ rfl (xst_ne (by decide) (xst_ne (by decide) rfl (Or.inl rfl)) (Or.inl rfl)) (xst_ne (by decide) (xst_ne (by decide) rfl (Or.inl rfl)) (Or.inl rfl)) (xst_ne (by decide) (xst_ne (by decide) rfl (Or.inl rfl)) (Or.inl rfl)) (xst_ne (by decide) (xst_ne (by decide) rfl (Or.inl rfl)) (Or.inl rfl)) (xst_ne (by decide) (xst_ne (by decide) rfl (Or.inl rfl)) (Or.inl rfl)) (xst_ne (by decide) xst_eq (Or.inl rfl)) xst_eq
theorem xs_150l {v0 : Value} {xs : List Int32} {u : Nat × Nat} {Q : zO → zX → Prop} {f : Nat → zE} {pl : List Int} {r : Nat → Int} (h175 : f 175 = xr 0 pl) (hpl : pl.length = 8) (hrl : sRL pl 0 r) (hk : ∀ lv : zL, zlv lv 0 = some (.ref 175) → zlv lv 1 = some (xi (slo 10 (fun e => sX (r e)) 8)) → zlv lv 2 = some (xi (shi (fun e => sX (r e)) 8)) → zlv lv 3 = some (xi (slo 10 (fun e => sY (r e)) 8)) → zlv lv 4 = some (xi (shi (fun e => sY (r e)) 8)) → xz v0 xs u Q 150 77 lv [] f) : ∀ (w d : Nat) (lv : zL), w + d = 8 → zlv lv 0 = some (.ref 175) → zlv lv 1 = some (xi (slo 10 (fun e => sX (r e)) d)) → zlv lv 2 = some (xi (shi (fun e => sX (r e)) d)) → zlv lv 3 = some (xi (slo 10 (fun e => sY (r e)) d)) → zlv lv 4 = some (xi (shi (fun e => sY (r e)) d)) → zlv lv 5 = some (xi (d : Nat)) → xz v0 xs u Q 150 14 lv [] f := by
  have hX : ∀ e, e < 8 → 0 ≤ sX (r e) ∧ sX (r e) ≤ 9 := fun e he => sX_rg (sRL_at hrl he).2
  have hY : ∀ e, e < 8 → 0 ≤ sY (r e) ∧ sY (r e) ≤ 9 := fun e he => sY_rg (sRL_at hrl he).2
  intro w
  induction w with
  | zero =>
    intro d lv hw l0 l1 l2 l3 l4 l5
    have e8 : d = 8 := by omega
    subst e8
    refine x_iload rfl l5 ?_
    refine x_bipush rfl (by decide) ?_
    refine x_cge (t := 77) rfl rfl (by decide) (by decide) (fun _ => ?_) (fun h => absurd h (by decide))
    exact hk lv l0 l1 l2 l3 l4
  | succ w ih =>
    intro d lv hw l0 l1 l2 l3 l4 l5
    have hd : d < 8 := by omega
    obtain ⟨a1, a2⟩ := sRL_at hrl hd
    have x1 := slo_rg (i := 10) (by decide) hX d (by omega)
    have x2 := shi_rg hX d (by omega)
    have x3 := slo_rg (i := 10) (by decide) hY d (by omega)
    have x4 := shi_rg hY d (by omega)
    have y1 := hX d hd
    have y2 := hY d hd
    have a3 : 0 ≤ r d ∧ r d < 400 := a2
    refine x_iload rfl l5 ?_
    refine x_bipush rfl (by decide) ?_
    refine x_cge (t := 77) rfl rfl ⟨by omega, by omega⟩ (by decide) (fun h => absurd h (by omega)) (fun _ => ?_)
    refine x_aload_n rfl l0 ?_
    refine x_iload rfl l5 ?_
    refine x_iaload rfl (by decide) h175 ⟨by omega, by omega⟩ (by omega) ?_
    rw [Int.toNat_natCast, a1]
    refine x_iconst rfl ?_
    refine x_idiv rfl ⟨by omega, by omega⟩ (by decide) ?_
    refine x_istore rfl (show (6 : Nat) < 7 from by decide) ?_
    refine x_iload_n rfl (xst_ne (by decide) l1 (Or.inl rfl)) ?_
    refine x_iload rfl xst_eq ?_
    refine x_bipush rfl (by decide) ?_
    refine x_irem rfl ⟨by omega, by omega⟩ (by decide) ?_
    rw [show r d / 4 % 10 = sX (r d) from rfl]
    refine x_mini rfl (show (1 : Nat) ≤ 8 from by decide) ⟨by omega, by omega⟩ ⟨by omega, by omega⟩ ?_
    refine x_istore_n rfl (show (1 : Nat) < 7 from by decide) ?_
    refine x_iload_n rfl (xst_ne (by decide) (xst_ne (by decide) l2 (Or.inl rfl)) (Or.inl rfl)) ?_
    refine x_iload rfl (xst_ne (by decide) xst_eq (Or.inl rfl)) ?_
    refine x_bipush rfl (by decide) ?_
    refine x_irem rfl ⟨by omega, by omega⟩ (by decide) ?_
    rw [show r d / 4 % 10 = sX (r d) from rfl]
    refine x_maxi rfl (show (1 : Nat) ≤ 8 from by decide) ⟨by omega, by omega⟩ ⟨by omega, by omega⟩ ?_
    refine x_istore_n rfl (show (2 : Nat) < 7 from by decide) ?_
    refine x_iload_n rfl (xst_ne (by decide) (xst_ne (by decide) (xst_ne (by decide) l3 (Or.inl rfl)) (Or.inl rfl)) (Or.inl rfl)) ?_
    refine x_iload rfl (xst_ne (by decide) (xst_ne (by decide) xst_eq (Or.inl rfl)) (Or.inl rfl)) ?_
    refine x_bipush rfl (by decide) ?_
    refine x_idiv rfl ⟨by omega, by omega⟩ (by decide) ?_
    rw [show r d / 4 / 10 = sY (r d) by unfold sY; omega]
    refine x_mini rfl (show (1 : Nat) ≤ 8 from by decide) ⟨by omega, by omega⟩ ⟨by omega, by omega⟩ ?_
    refine x_istore_n rfl (show (3 : Nat) < 7 from by decide) ?_
    refine x_iload rfl (xst_ne (by decide) (xst_ne (by decide) (xst_ne (by decide) (xst_ne (by decide) l4 (Or.inl rfl)) (Or.inl rfl)) (Or.inl rfl)) (Or.inl rfl)) ?_
    refine x_iload rfl (xst_ne (by decide) (xst_ne (by decide) (xst_ne (by decide) xst_eq (Or.inl rfl)) (Or.inl rfl)) (Or.inl rfl)) ?_
    refine x_bipush rfl (by decide) ?_
    refine x_idiv rfl ⟨by omega, by omega⟩ (by decide) ?_
    rw [show r d / 4 / 10 = sY (r d) by unfold sY; omega]
    refine x_maxi rfl (show (1 : Nat) ≤ 8 from by decide) ⟨by omega, by omega⟩ ⟨by omega, by omega⟩ ?_
    refine x_istore rfl (show (4 : Nat) < 7 from by decide) ?_
    refine x_iinc rfl (xst_ne (by decide) (xst_ne (by decide) (xst_ne (by decide) (xst_ne (by decide) (xst_ne (by decide) l5 (Or.inl rfl)) (Or.inl rfl)) (Or.inl rfl)) (Or.inl rfl)) (Or.inl rfl)) (show (5 : Nat) < 7 from by decide) ?_
    refine x_goto (t := 14) rfl rfl ?_
    exact ih (d + 1) _ (by omega) (xst_ne (by decide) (xst_ne (by decide) (xst_ne (by decide) (xst_ne (by decide) (xst_ne (by decide) (xst_ne (by decide) l0 (Or.inl rfl)) (Or.inl rfl)) (Or.inl rfl)) (Or.inl rfl)) (Or.inl rfl)) (Or.inl rfl)) (xst_ne (by decide) (xst_ne (by decide) (xst_ne (by decide) (xst_ne (by decide) xst_eq (Or.inl rfl)) (Or.inl rfl)) (Or.inl rfl)) (Or.inl rfl)) (xst_ne (by decide) (xst_ne (by decide) (xst_ne (by decide) xst_eq (Or.inl rfl)) (Or.inl rfl)) (Or.inl rfl)) (xst_ne (by decide) (xst_ne (by decide) xst_eq (Or.inl rfl)) (Or.inl rfl)) (xst_ne (by decide) xst_eq (Or.inl rfl)) xst_eq
set_option maxRecDepth 20000 in
theorem xs_150 {v0 : Value} {xs : List Int32} {u : Nat × Nat} {f : Nat → zE} {pl : List Int} {r : Nat → Int} (h175 : f 175 = xr 0 pl) (hpl : pl.length = 8) (hrl : sRL pl 0 r) : xq v0 xs u 150 [(0, .ref 175)] f (fun r' f' => r' = some (xi (sshape r)) ∧ f' = f) := by
  unfold xq
  refine x_bipush rfl (by decide) ?_
  refine x_istore_n rfl (show (1 : Nat) < 7 from by decide) ?_
  refine x_iconst rfl ?_
  refine x_istore_n rfl (show (2 : Nat) < 7 from by decide) ?_
  refine x_bipush rfl (by decide) ?_
  refine x_istore_n rfl (show (3 : Nat) < 7 from by decide) ?_
  refine x_iconst rfl ?_
  refine x_istore rfl (show (4 : Nat) < 7 from by decide) ?_
  refine x_iconst rfl ?_
  refine x_istore rfl (show (5 : Nat) < 7 from by decide) ?_
  have hsok : ∀ e, e < 8 → sok (r e) := fun e he => (sRL_at hrl he).2
  have hX : ∀ e, e < 8 → 0 ≤ sX (r e) ∧ sX (r e) ≤ 9 := fun e he => sX_rg (hsok e he)
  have hY : ∀ e, e < 8 → 0 ≤ sY (r e) ∧ sY (r e) ≤ 9 := fun e he => sY_rg (hsok e he)
  obtain ⟨⟨x1, x2, x3⟩, y1, y2, y3⟩ := sshape_rg hsok
  refine xs_150l h175 hpl hrl (fun lv m0 m1 m2 m3 m4 => ?_) 8 0 _ rfl (xst_ne (by decide) (xst_ne (by decide) (xst_ne (by decide) (xst_ne (by decide) (xst_ne (by decide) rfl (Or.inl rfl)) (Or.inl rfl)) (Or.inl rfl)) (Or.inl rfl)) (Or.inl rfl)) (xst_ne (by decide) (xst_ne (by decide) (xst_ne (by decide) (xst_ne (by decide) xst_eq (Or.inl rfl)) (Or.inl rfl)) (Or.inl rfl)) (Or.inl rfl)) (xst_ne (by decide) (xst_ne (by decide) (xst_ne (by decide) xst_eq (Or.inl rfl)) (Or.inl rfl)) (Or.inl rfl)) (xst_ne (by decide) (xst_ne (by decide) xst_eq (Or.inl rfl)) (Or.inl rfl)) (xst_ne (by decide) xst_eq (Or.inl rfl)) xst_eq
  rw [slo_10 hX 7 (by decide)] at m1
  rw [slo_10 hY 7 (by decide)] at m3
  have m1 : zlv lv 1 = some (xi (slx r)) := m1
  have m2 : zlv lv 2 = some (xi (shx r)) := m2
  have m3 : zlv lv 3 = some (xi (sly r)) := m3
  have m4 : zlv lv 4 = some (xi (shy r)) := m4
  refine x_iload_n rfl m2 ?_
  refine x_iload_n rfl m1 ?_
  refine x_isub rfl ?_
  refine x_iload rfl m4 ?_
  refine x_iload_n rfl m3 ?_
  refine x_isub rfl ?_
  refine x_maxi rfl (show (1 : Nat) ≤ 8 from by decide) ⟨by omega, by omega⟩ ⟨by omega, by omega⟩ ?_
  refine x_iconst rfl ?_
  refine x_iadd rfl ?_
  refine x_istore rfl (show (5 : Nat) < 7 from by decide) ?_
  refine x_iload_n rfl (xst_ne (by decide) m2 (Or.inl rfl)) ?_
  refine x_iload_n rfl (xst_ne (by decide) m1 (Or.inl rfl)) ?_
  refine x_isub rfl ?_
  refine x_iload rfl (xst_ne (by decide) m4 (Or.inl rfl)) ?_
  refine x_iload_n rfl (xst_ne (by decide) m3 (Or.inl rfl)) ?_
  refine x_isub rfl ?_
  refine x_mini rfl (show (1 : Nat) ≤ 8 from by decide) ⟨by omega, by omega⟩ ⟨by omega, by omega⟩ ?_
  refine x_iconst rfl ?_
  refine x_iadd rfl ?_
  obtain ⟨b, hb9⟩ : ∃ b : Int, b = (if shx r - slx r < shy r - sly r then shy r - sly r else shx r - slx r) + 1 := ⟨_, rfl⟩
  obtain ⟨a, ha9⟩ : ∃ a : Int, a = (if shy r - sly r < shx r - slx r then shy r - sly r else shx r - slx r) + 1 := ⟨_, rfl⟩
  rw [← hb9, ← ha9, ← sshC_eq hsok ha9 hb9]
  have hb10 : 1 ≤ b ∧ b ≤ 10 := by rw [hb9]; split <;> omega
  have ha10 : 1 ≤ a ∧ a ≤ 10 := by rw [ha9]; split <;> omega
  clear ha9 hb9
  refine x_istore rfl (show (6 : Nat) < 7 from by decide) ?_
  have c4 := scnt_rg (fun d => sedge (r d) (slx r) (sly r) 4 == 1) 8
  have c3 := scnt_rg (fun d => sedge (r d) (slx r) (sly r) 3 == 0) 8
  refine x_iload rfl xst_eq ?_
  refine x_iconst rfl ?_
  refine x_cne (t := 120) rfl rfl ⟨by omega, by omega⟩ ⟨by omega, by omega⟩ (fun h108 => ?_) (fun h108 => ?_)
  · refine x_iload rfl xst_eq ?_
    refine x_iconst rfl ?_
    refine x_cne (t := 134) rfl rfl ⟨by omega, by omega⟩ ⟨by omega, by omega⟩ (fun h123 => ?_) (fun h123 => ?_)
    · refine x_iload rfl xst_eq ?_
      refine x_iconst rfl ?_
      refine x_cne (t := 161) rfl rfl ⟨by omega, by omega⟩ ⟨by omega, by omega⟩ (fun h137 => ?_) (fun h137 => ?_)
      · refine x_iload rfl xst_eq ?_
        refine x_iconst rfl ?_
        refine x_cne (t := 186) rfl rfl ⟨by omega, by omega⟩ ⟨by omega, by omega⟩ (fun h164 => ?_) (fun h164 => ?_)
        · refine x_iconst rfl ?_
          refine x_ireturn rfl (Or.inl rfl) ⟨_, _, rfl, rfl, ?_, rfl⟩
          first | (exfalso; omega) | (congr 2; unfold sshC; first | rw [if_pos (by omega)] | rw [if_neg (by omega), if_pos (by omega)] | rw [if_neg (by omega), if_neg (by omega), if_pos (by omega)] | rw [if_neg (by omega), if_neg (by omega), if_neg (by omega), if_pos (by omega)] | rw [if_neg (by omega), if_neg (by omega), if_neg (by omega), if_neg (by omega)])
        · refine x_iload rfl (xst_ne (by decide) xst_eq (Or.inl rfl)) ?_
          refine x_iconst rfl ?_
          refine x_cne (t := 186) rfl rfl ⟨by omega, by omega⟩ ⟨by omega, by omega⟩ (fun h170 => ?_) (fun h170 => ?_)
          · refine x_iconst rfl ?_
            refine x_ireturn rfl (Or.inl rfl) ⟨_, _, rfl, rfl, ?_, rfl⟩
            first | (exfalso; omega) | (congr 2; unfold sshC; first | rw [if_pos (by omega)] | rw [if_neg (by omega), if_pos (by omega)] | rw [if_neg (by omega), if_neg (by omega), if_pos (by omega)] | rw [if_neg (by omega), if_neg (by omega), if_neg (by omega), if_pos (by omega)] | rw [if_neg (by omega), if_neg (by omega), if_neg (by omega), if_neg (by omega)])
          · refine x_aload_n rfl (xst_ne (by decide) (xst_ne (by decide) m0 (Or.inl rfl)) (Or.inl rfl)) ?_
            refine x_iload_n rfl (xst_ne (by decide) (xst_ne (by decide) m1 (Or.inl rfl)) (Or.inl rfl)) ?_
            refine x_iload_n rfl (xst_ne (by decide) (xst_ne (by decide) m3 (Or.inl rfl)) (Or.inl rfl)) ?_
            refine x_iconst rfl ?_
            refine x_iconst rfl ?_
            refine x_call [_, _, _, _, _] rfl rfl (show (0 : Nat) ≤ 8 from by decide) (show (5 : Nat) ≤ 10 from by decide) rfl (xs_149 h175 hpl hrl (W := slx r) (So := sly r) (z := 3) (wt := 0) ⟨by omega, by omega⟩ ⟨by omega, by omega⟩ (by decide) (by decide)) ?_
            intro r' f9 hP
            obtain ⟨rfl, hPe⟩ := hP
            subst f9
            refine x_ifne (t := 186) rfl rfl ⟨by omega, by omega⟩ (fun h181 => ?_) (fun h181 => ?_)
            · refine x_iconst rfl ?_
              refine x_ireturn rfl (Or.inl rfl) ⟨_, _, rfl, rfl, ?_, rfl⟩
              first | (exfalso; omega) | (congr 2; unfold sshC; first | rw [if_pos (by omega)] | rw [if_neg (by omega), if_pos (by omega)] | rw [if_neg (by omega), if_neg (by omega), if_pos (by omega)] | rw [if_neg (by omega), if_neg (by omega), if_neg (by omega), if_pos (by omega)] | rw [if_neg (by omega), if_neg (by omega), if_neg (by omega), if_neg (by omega)])
            · refine x_iconst rfl ?_
              refine x_ireturn rfl (Or.inl rfl) ⟨_, _, rfl, rfl, ?_, rfl⟩
              first | (exfalso; omega) | (congr 2; unfold sshC; first | rw [if_pos (by omega)] | rw [if_neg (by omega), if_pos (by omega)] | rw [if_neg (by omega), if_neg (by omega), if_pos (by omega)] | rw [if_neg (by omega), if_neg (by omega), if_neg (by omega), if_pos (by omega)] | rw [if_neg (by omega), if_neg (by omega), if_neg (by omega), if_neg (by omega)])
      · refine x_iload rfl (xst_ne (by decide) xst_eq (Or.inl rfl)) ?_
        refine x_iconst rfl ?_
        refine x_cne (t := 161) rfl rfl ⟨by omega, by omega⟩ ⟨by omega, by omega⟩ (fun h143 => ?_) (fun h143 => ?_)
        · refine x_iload rfl xst_eq ?_
          refine x_iconst rfl ?_
          refine x_cne (t := 186) rfl rfl ⟨by omega, by omega⟩ ⟨by omega, by omega⟩ (fun h164 => ?_) (fun h164 => ?_)
          · refine x_iconst rfl ?_
            refine x_ireturn rfl (Or.inl rfl) ⟨_, _, rfl, rfl, ?_, rfl⟩
            first | (exfalso; omega) | (congr 2; unfold sshC; first | rw [if_pos (by omega)] | rw [if_neg (by omega), if_pos (by omega)] | rw [if_neg (by omega), if_neg (by omega), if_pos (by omega)] | rw [if_neg (by omega), if_neg (by omega), if_neg (by omega), if_pos (by omega)] | rw [if_neg (by omega), if_neg (by omega), if_neg (by omega), if_neg (by omega)])
          · refine x_iload rfl (xst_ne (by decide) xst_eq (Or.inl rfl)) ?_
            refine x_iconst rfl ?_
            refine x_cne (t := 186) rfl rfl ⟨by omega, by omega⟩ ⟨by omega, by omega⟩ (fun h170 => ?_) (fun h170 => ?_)
            · refine x_iconst rfl ?_
              refine x_ireturn rfl (Or.inl rfl) ⟨_, _, rfl, rfl, ?_, rfl⟩
              first | (exfalso; omega) | (congr 2; unfold sshC; first | rw [if_pos (by omega)] | rw [if_neg (by omega), if_pos (by omega)] | rw [if_neg (by omega), if_neg (by omega), if_pos (by omega)] | rw [if_neg (by omega), if_neg (by omega), if_neg (by omega), if_pos (by omega)] | rw [if_neg (by omega), if_neg (by omega), if_neg (by omega), if_neg (by omega)])
            · refine x_aload_n rfl (xst_ne (by decide) (xst_ne (by decide) m0 (Or.inl rfl)) (Or.inl rfl)) ?_
              refine x_iload_n rfl (xst_ne (by decide) (xst_ne (by decide) m1 (Or.inl rfl)) (Or.inl rfl)) ?_
              refine x_iload_n rfl (xst_ne (by decide) (xst_ne (by decide) m3 (Or.inl rfl)) (Or.inl rfl)) ?_
              refine x_iconst rfl ?_
              refine x_iconst rfl ?_
              refine x_call [_, _, _, _, _] rfl rfl (show (0 : Nat) ≤ 8 from by decide) (show (5 : Nat) ≤ 10 from by decide) rfl (xs_149 h175 hpl hrl (W := slx r) (So := sly r) (z := 3) (wt := 0) ⟨by omega, by omega⟩ ⟨by omega, by omega⟩ (by decide) (by decide)) ?_
              intro r' f9 hP
              obtain ⟨rfl, hPe⟩ := hP
              subst f9
              refine x_ifne (t := 186) rfl rfl ⟨by omega, by omega⟩ (fun h181 => ?_) (fun h181 => ?_)
              · refine x_iconst rfl ?_
                refine x_ireturn rfl (Or.inl rfl) ⟨_, _, rfl, rfl, ?_, rfl⟩
                first | (exfalso; omega) | (congr 2; unfold sshC; first | rw [if_pos (by omega)] | rw [if_neg (by omega), if_pos (by omega)] | rw [if_neg (by omega), if_neg (by omega), if_pos (by omega)] | rw [if_neg (by omega), if_neg (by omega), if_neg (by omega), if_pos (by omega)] | rw [if_neg (by omega), if_neg (by omega), if_neg (by omega), if_neg (by omega)])
              · refine x_iconst rfl ?_
                refine x_ireturn rfl (Or.inl rfl) ⟨_, _, rfl, rfl, ?_, rfl⟩
                first | (exfalso; omega) | (congr 2; unfold sshC; first | rw [if_pos (by omega)] | rw [if_neg (by omega), if_pos (by omega)] | rw [if_neg (by omega), if_neg (by omega), if_pos (by omega)] | rw [if_neg (by omega), if_neg (by omega), if_neg (by omega), if_pos (by omega)] | rw [if_neg (by omega), if_neg (by omega), if_neg (by omega), if_neg (by omega)])
        · refine x_aload_n rfl (xst_ne (by decide) (xst_ne (by decide) m0 (Or.inl rfl)) (Or.inl rfl)) ?_
          refine x_iload_n rfl (xst_ne (by decide) (xst_ne (by decide) m1 (Or.inl rfl)) (Or.inl rfl)) ?_
          refine x_iload_n rfl (xst_ne (by decide) (xst_ne (by decide) m3 (Or.inl rfl)) (Or.inl rfl)) ?_
          refine x_iconst rfl ?_
          refine x_iconst rfl ?_
          refine x_call [_, _, _, _, _] rfl rfl (show (0 : Nat) ≤ 8 from by decide) (show (5 : Nat) ≤ 10 from by decide) rfl (xs_149 h175 hpl hrl (W := slx r) (So := sly r) (z := 4) (wt := 1) ⟨by omega, by omega⟩ ⟨by omega, by omega⟩ (by decide) (by decide)) ?_
          intro r' f9 hP
          obtain ⟨rfl, hPe⟩ := hP
          subst f9
          refine x_bipush rfl (by decide) ?_
          refine x_cne (t := 161) rfl rfl ⟨by omega, by omega⟩ ⟨by omega, by omega⟩ (fun h156 => ?_) (fun h156 => ?_)
          · refine x_iload rfl xst_eq ?_
            refine x_iconst rfl ?_
            refine x_cne (t := 186) rfl rfl ⟨by omega, by omega⟩ ⟨by omega, by omega⟩ (fun h164 => ?_) (fun h164 => ?_)
            · refine x_iconst rfl ?_
              refine x_ireturn rfl (Or.inl rfl) ⟨_, _, rfl, rfl, ?_, rfl⟩
              first | (exfalso; omega) | (congr 2; unfold sshC; first | rw [if_pos (by omega)] | rw [if_neg (by omega), if_pos (by omega)] | rw [if_neg (by omega), if_neg (by omega), if_pos (by omega)] | rw [if_neg (by omega), if_neg (by omega), if_neg (by omega), if_pos (by omega)] | rw [if_neg (by omega), if_neg (by omega), if_neg (by omega), if_neg (by omega)])
            · refine x_iload rfl (xst_ne (by decide) xst_eq (Or.inl rfl)) ?_
              refine x_iconst rfl ?_
              refine x_cne (t := 186) rfl rfl ⟨by omega, by omega⟩ ⟨by omega, by omega⟩ (fun h170 => ?_) (fun h170 => ?_)
              · refine x_iconst rfl ?_
                refine x_ireturn rfl (Or.inl rfl) ⟨_, _, rfl, rfl, ?_, rfl⟩
                first | (exfalso; omega) | (congr 2; unfold sshC; first | rw [if_pos (by omega)] | rw [if_neg (by omega), if_pos (by omega)] | rw [if_neg (by omega), if_neg (by omega), if_pos (by omega)] | rw [if_neg (by omega), if_neg (by omega), if_neg (by omega), if_pos (by omega)] | rw [if_neg (by omega), if_neg (by omega), if_neg (by omega), if_neg (by omega)])
              · refine x_aload_n rfl (xst_ne (by decide) (xst_ne (by decide) m0 (Or.inl rfl)) (Or.inl rfl)) ?_
                refine x_iload_n rfl (xst_ne (by decide) (xst_ne (by decide) m1 (Or.inl rfl)) (Or.inl rfl)) ?_
                refine x_iload_n rfl (xst_ne (by decide) (xst_ne (by decide) m3 (Or.inl rfl)) (Or.inl rfl)) ?_
                refine x_iconst rfl ?_
                refine x_iconst rfl ?_
                refine x_call [_, _, _, _, _] rfl rfl (show (0 : Nat) ≤ 8 from by decide) (show (5 : Nat) ≤ 10 from by decide) rfl (xs_149 h175 hpl hrl (W := slx r) (So := sly r) (z := 3) (wt := 0) ⟨by omega, by omega⟩ ⟨by omega, by omega⟩ (by decide) (by decide)) ?_
                intro r' f9 hP
                obtain ⟨rfl, hPe⟩ := hP
                subst f9
                refine x_ifne (t := 186) rfl rfl ⟨by omega, by omega⟩ (fun h181 => ?_) (fun h181 => ?_)
                · refine x_iconst rfl ?_
                  refine x_ireturn rfl (Or.inl rfl) ⟨_, _, rfl, rfl, ?_, rfl⟩
                  first | (exfalso; omega) | (congr 2; unfold sshC; first | rw [if_pos (by omega)] | rw [if_neg (by omega), if_pos (by omega)] | rw [if_neg (by omega), if_neg (by omega), if_pos (by omega)] | rw [if_neg (by omega), if_neg (by omega), if_neg (by omega), if_pos (by omega)] | rw [if_neg (by omega), if_neg (by omega), if_neg (by omega), if_neg (by omega)])
                · refine x_iconst rfl ?_
                  refine x_ireturn rfl (Or.inl rfl) ⟨_, _, rfl, rfl, ?_, rfl⟩
                  first | (exfalso; omega) | (congr 2; unfold sshC; first | rw [if_pos (by omega)] | rw [if_neg (by omega), if_pos (by omega)] | rw [if_neg (by omega), if_neg (by omega), if_pos (by omega)] | rw [if_neg (by omega), if_neg (by omega), if_neg (by omega), if_pos (by omega)] | rw [if_neg (by omega), if_neg (by omega), if_neg (by omega), if_neg (by omega)])
          · refine x_iconst rfl ?_
            refine x_ireturn rfl (Or.inl rfl) ⟨_, _, rfl, rfl, ?_, rfl⟩
            first | (exfalso; omega) | (congr 2; unfold sshC; first | rw [if_pos (by omega)] | rw [if_neg (by omega), if_pos (by omega)] | rw [if_neg (by omega), if_neg (by omega), if_pos (by omega)] | rw [if_neg (by omega), if_neg (by omega), if_neg (by omega), if_pos (by omega)] | rw [if_neg (by omega), if_neg (by omega), if_neg (by omega), if_neg (by omega)])
    · refine x_iload rfl (xst_ne (by decide) xst_eq (Or.inl rfl)) ?_
      refine x_iconst rfl ?_
      refine x_cne (t := 134) rfl rfl ⟨by omega, by omega⟩ ⟨by omega, by omega⟩ (fun h129 => ?_) (fun h129 => ?_)
      · refine x_iload rfl xst_eq ?_
        refine x_iconst rfl ?_
        refine x_cne (t := 161) rfl rfl ⟨by omega, by omega⟩ ⟨by omega, by omega⟩ (fun h137 => ?_) (fun h137 => ?_)
        · refine x_iload rfl xst_eq ?_
          refine x_iconst rfl ?_
          refine x_cne (t := 186) rfl rfl ⟨by omega, by omega⟩ ⟨by omega, by omega⟩ (fun h164 => ?_) (fun h164 => ?_)
          · refine x_iconst rfl ?_
            refine x_ireturn rfl (Or.inl rfl) ⟨_, _, rfl, rfl, ?_, rfl⟩
            first | (exfalso; omega) | (congr 2; unfold sshC; first | rw [if_pos (by omega)] | rw [if_neg (by omega), if_pos (by omega)] | rw [if_neg (by omega), if_neg (by omega), if_pos (by omega)] | rw [if_neg (by omega), if_neg (by omega), if_neg (by omega), if_pos (by omega)] | rw [if_neg (by omega), if_neg (by omega), if_neg (by omega), if_neg (by omega)])
          · refine x_iload rfl (xst_ne (by decide) xst_eq (Or.inl rfl)) ?_
            refine x_iconst rfl ?_
            refine x_cne (t := 186) rfl rfl ⟨by omega, by omega⟩ ⟨by omega, by omega⟩ (fun h170 => ?_) (fun h170 => ?_)
            · refine x_iconst rfl ?_
              refine x_ireturn rfl (Or.inl rfl) ⟨_, _, rfl, rfl, ?_, rfl⟩
              first | (exfalso; omega) | (congr 2; unfold sshC; first | rw [if_pos (by omega)] | rw [if_neg (by omega), if_pos (by omega)] | rw [if_neg (by omega), if_neg (by omega), if_pos (by omega)] | rw [if_neg (by omega), if_neg (by omega), if_neg (by omega), if_pos (by omega)] | rw [if_neg (by omega), if_neg (by omega), if_neg (by omega), if_neg (by omega)])
            · refine x_aload_n rfl (xst_ne (by decide) (xst_ne (by decide) m0 (Or.inl rfl)) (Or.inl rfl)) ?_
              refine x_iload_n rfl (xst_ne (by decide) (xst_ne (by decide) m1 (Or.inl rfl)) (Or.inl rfl)) ?_
              refine x_iload_n rfl (xst_ne (by decide) (xst_ne (by decide) m3 (Or.inl rfl)) (Or.inl rfl)) ?_
              refine x_iconst rfl ?_
              refine x_iconst rfl ?_
              refine x_call [_, _, _, _, _] rfl rfl (show (0 : Nat) ≤ 8 from by decide) (show (5 : Nat) ≤ 10 from by decide) rfl (xs_149 h175 hpl hrl (W := slx r) (So := sly r) (z := 3) (wt := 0) ⟨by omega, by omega⟩ ⟨by omega, by omega⟩ (by decide) (by decide)) ?_
              intro r' f9 hP
              obtain ⟨rfl, hPe⟩ := hP
              subst f9
              refine x_ifne (t := 186) rfl rfl ⟨by omega, by omega⟩ (fun h181 => ?_) (fun h181 => ?_)
              · refine x_iconst rfl ?_
                refine x_ireturn rfl (Or.inl rfl) ⟨_, _, rfl, rfl, ?_, rfl⟩
                first | (exfalso; omega) | (congr 2; unfold sshC; first | rw [if_pos (by omega)] | rw [if_neg (by omega), if_pos (by omega)] | rw [if_neg (by omega), if_neg (by omega), if_pos (by omega)] | rw [if_neg (by omega), if_neg (by omega), if_neg (by omega), if_pos (by omega)] | rw [if_neg (by omega), if_neg (by omega), if_neg (by omega), if_neg (by omega)])
              · refine x_iconst rfl ?_
                refine x_ireturn rfl (Or.inl rfl) ⟨_, _, rfl, rfl, ?_, rfl⟩
                first | (exfalso; omega) | (congr 2; unfold sshC; first | rw [if_pos (by omega)] | rw [if_neg (by omega), if_pos (by omega)] | rw [if_neg (by omega), if_neg (by omega), if_pos (by omega)] | rw [if_neg (by omega), if_neg (by omega), if_neg (by omega), if_pos (by omega)] | rw [if_neg (by omega), if_neg (by omega), if_neg (by omega), if_neg (by omega)])
        · refine x_iload rfl (xst_ne (by decide) xst_eq (Or.inl rfl)) ?_
          refine x_iconst rfl ?_
          refine x_cne (t := 161) rfl rfl ⟨by omega, by omega⟩ ⟨by omega, by omega⟩ (fun h143 => ?_) (fun h143 => ?_)
          · refine x_iload rfl xst_eq ?_
            refine x_iconst rfl ?_
            refine x_cne (t := 186) rfl rfl ⟨by omega, by omega⟩ ⟨by omega, by omega⟩ (fun h164 => ?_) (fun h164 => ?_)
            · refine x_iconst rfl ?_
              refine x_ireturn rfl (Or.inl rfl) ⟨_, _, rfl, rfl, ?_, rfl⟩
              first | (exfalso; omega) | (congr 2; unfold sshC; first | rw [if_pos (by omega)] | rw [if_neg (by omega), if_pos (by omega)] | rw [if_neg (by omega), if_neg (by omega), if_pos (by omega)] | rw [if_neg (by omega), if_neg (by omega), if_neg (by omega), if_pos (by omega)] | rw [if_neg (by omega), if_neg (by omega), if_neg (by omega), if_neg (by omega)])
            · refine x_iload rfl (xst_ne (by decide) xst_eq (Or.inl rfl)) ?_
              refine x_iconst rfl ?_
              refine x_cne (t := 186) rfl rfl ⟨by omega, by omega⟩ ⟨by omega, by omega⟩ (fun h170 => ?_) (fun h170 => ?_)
              · refine x_iconst rfl ?_
                refine x_ireturn rfl (Or.inl rfl) ⟨_, _, rfl, rfl, ?_, rfl⟩
                first | (exfalso; omega) | (congr 2; unfold sshC; first | rw [if_pos (by omega)] | rw [if_neg (by omega), if_pos (by omega)] | rw [if_neg (by omega), if_neg (by omega), if_pos (by omega)] | rw [if_neg (by omega), if_neg (by omega), if_neg (by omega), if_pos (by omega)] | rw [if_neg (by omega), if_neg (by omega), if_neg (by omega), if_neg (by omega)])
              · refine x_aload_n rfl (xst_ne (by decide) (xst_ne (by decide) m0 (Or.inl rfl)) (Or.inl rfl)) ?_
                refine x_iload_n rfl (xst_ne (by decide) (xst_ne (by decide) m1 (Or.inl rfl)) (Or.inl rfl)) ?_
                refine x_iload_n rfl (xst_ne (by decide) (xst_ne (by decide) m3 (Or.inl rfl)) (Or.inl rfl)) ?_
                refine x_iconst rfl ?_
                refine x_iconst rfl ?_
                refine x_call [_, _, _, _, _] rfl rfl (show (0 : Nat) ≤ 8 from by decide) (show (5 : Nat) ≤ 10 from by decide) rfl (xs_149 h175 hpl hrl (W := slx r) (So := sly r) (z := 3) (wt := 0) ⟨by omega, by omega⟩ ⟨by omega, by omega⟩ (by decide) (by decide)) ?_
                intro r' f9 hP
                obtain ⟨rfl, hPe⟩ := hP
                subst f9
                refine x_ifne (t := 186) rfl rfl ⟨by omega, by omega⟩ (fun h181 => ?_) (fun h181 => ?_)
                · refine x_iconst rfl ?_
                  refine x_ireturn rfl (Or.inl rfl) ⟨_, _, rfl, rfl, ?_, rfl⟩
                  first | (exfalso; omega) | (congr 2; unfold sshC; first | rw [if_pos (by omega)] | rw [if_neg (by omega), if_pos (by omega)] | rw [if_neg (by omega), if_neg (by omega), if_pos (by omega)] | rw [if_neg (by omega), if_neg (by omega), if_neg (by omega), if_pos (by omega)] | rw [if_neg (by omega), if_neg (by omega), if_neg (by omega), if_neg (by omega)])
                · refine x_iconst rfl ?_
                  refine x_ireturn rfl (Or.inl rfl) ⟨_, _, rfl, rfl, ?_, rfl⟩
                  first | (exfalso; omega) | (congr 2; unfold sshC; first | rw [if_pos (by omega)] | rw [if_neg (by omega), if_pos (by omega)] | rw [if_neg (by omega), if_neg (by omega), if_pos (by omega)] | rw [if_neg (by omega), if_neg (by omega), if_neg (by omega), if_pos (by omega)] | rw [if_neg (by omega), if_neg (by omega), if_neg (by omega), if_neg (by omega)])
          · refine x_aload_n rfl (xst_ne (by decide) (xst_ne (by decide) m0 (Or.inl rfl)) (Or.inl rfl)) ?_
            refine x_iload_n rfl (xst_ne (by decide) (xst_ne (by decide) m1 (Or.inl rfl)) (Or.inl rfl)) ?_
            refine x_iload_n rfl (xst_ne (by decide) (xst_ne (by decide) m3 (Or.inl rfl)) (Or.inl rfl)) ?_
            refine x_iconst rfl ?_
            refine x_iconst rfl ?_
            refine x_call [_, _, _, _, _] rfl rfl (show (0 : Nat) ≤ 8 from by decide) (show (5 : Nat) ≤ 10 from by decide) rfl (xs_149 h175 hpl hrl (W := slx r) (So := sly r) (z := 4) (wt := 1) ⟨by omega, by omega⟩ ⟨by omega, by omega⟩ (by decide) (by decide)) ?_
            intro r' f9 hP
            obtain ⟨rfl, hPe⟩ := hP
            subst f9
            refine x_bipush rfl (by decide) ?_
            refine x_cne (t := 161) rfl rfl ⟨by omega, by omega⟩ ⟨by omega, by omega⟩ (fun h156 => ?_) (fun h156 => ?_)
            · refine x_iload rfl xst_eq ?_
              refine x_iconst rfl ?_
              refine x_cne (t := 186) rfl rfl ⟨by omega, by omega⟩ ⟨by omega, by omega⟩ (fun h164 => ?_) (fun h164 => ?_)
              · refine x_iconst rfl ?_
                refine x_ireturn rfl (Or.inl rfl) ⟨_, _, rfl, rfl, ?_, rfl⟩
                first | (exfalso; omega) | (congr 2; unfold sshC; first | rw [if_pos (by omega)] | rw [if_neg (by omega), if_pos (by omega)] | rw [if_neg (by omega), if_neg (by omega), if_pos (by omega)] | rw [if_neg (by omega), if_neg (by omega), if_neg (by omega), if_pos (by omega)] | rw [if_neg (by omega), if_neg (by omega), if_neg (by omega), if_neg (by omega)])
              · refine x_iload rfl (xst_ne (by decide) xst_eq (Or.inl rfl)) ?_
                refine x_iconst rfl ?_
                refine x_cne (t := 186) rfl rfl ⟨by omega, by omega⟩ ⟨by omega, by omega⟩ (fun h170 => ?_) (fun h170 => ?_)
                · refine x_iconst rfl ?_
                  refine x_ireturn rfl (Or.inl rfl) ⟨_, _, rfl, rfl, ?_, rfl⟩
                  first | (exfalso; omega) | (congr 2; unfold sshC; first | rw [if_pos (by omega)] | rw [if_neg (by omega), if_pos (by omega)] | rw [if_neg (by omega), if_neg (by omega), if_pos (by omega)] | rw [if_neg (by omega), if_neg (by omega), if_neg (by omega), if_pos (by omega)] | rw [if_neg (by omega), if_neg (by omega), if_neg (by omega), if_neg (by omega)])
                · refine x_aload_n rfl (xst_ne (by decide) (xst_ne (by decide) m0 (Or.inl rfl)) (Or.inl rfl)) ?_
                  refine x_iload_n rfl (xst_ne (by decide) (xst_ne (by decide) m1 (Or.inl rfl)) (Or.inl rfl)) ?_
                  refine x_iload_n rfl (xst_ne (by decide) (xst_ne (by decide) m3 (Or.inl rfl)) (Or.inl rfl)) ?_
                  refine x_iconst rfl ?_
                  refine x_iconst rfl ?_
                  refine x_call [_, _, _, _, _] rfl rfl (show (0 : Nat) ≤ 8 from by decide) (show (5 : Nat) ≤ 10 from by decide) rfl (xs_149 h175 hpl hrl (W := slx r) (So := sly r) (z := 3) (wt := 0) ⟨by omega, by omega⟩ ⟨by omega, by omega⟩ (by decide) (by decide)) ?_
                  intro r' f9 hP
                  obtain ⟨rfl, hPe⟩ := hP
                  subst f9
                  refine x_ifne (t := 186) rfl rfl ⟨by omega, by omega⟩ (fun h181 => ?_) (fun h181 => ?_)
                  · refine x_iconst rfl ?_
                    refine x_ireturn rfl (Or.inl rfl) ⟨_, _, rfl, rfl, ?_, rfl⟩
                    first | (exfalso; omega) | (congr 2; unfold sshC; first | rw [if_pos (by omega)] | rw [if_neg (by omega), if_pos (by omega)] | rw [if_neg (by omega), if_neg (by omega), if_pos (by omega)] | rw [if_neg (by omega), if_neg (by omega), if_neg (by omega), if_pos (by omega)] | rw [if_neg (by omega), if_neg (by omega), if_neg (by omega), if_neg (by omega)])
                  · refine x_iconst rfl ?_
                    refine x_ireturn rfl (Or.inl rfl) ⟨_, _, rfl, rfl, ?_, rfl⟩
                    first | (exfalso; omega) | (congr 2; unfold sshC; first | rw [if_pos (by omega)] | rw [if_neg (by omega), if_pos (by omega)] | rw [if_neg (by omega), if_neg (by omega), if_pos (by omega)] | rw [if_neg (by omega), if_neg (by omega), if_neg (by omega), if_pos (by omega)] | rw [if_neg (by omega), if_neg (by omega), if_neg (by omega), if_neg (by omega)])
            · refine x_iconst rfl ?_
              refine x_ireturn rfl (Or.inl rfl) ⟨_, _, rfl, rfl, ?_, rfl⟩
              first | (exfalso; omega) | (congr 2; unfold sshC; first | rw [if_pos (by omega)] | rw [if_neg (by omega), if_pos (by omega)] | rw [if_neg (by omega), if_neg (by omega), if_pos (by omega)] | rw [if_neg (by omega), if_neg (by omega), if_neg (by omega), if_pos (by omega)] | rw [if_neg (by omega), if_neg (by omega), if_neg (by omega), if_neg (by omega)])
      · refine x_iconst rfl ?_
        refine x_ireturn rfl (Or.inl rfl) ⟨_, _, rfl, rfl, ?_, rfl⟩
        first | (exfalso; omega) | (congr 2; unfold sshC; first | rw [if_pos (by omega)] | rw [if_neg (by omega), if_pos (by omega)] | rw [if_neg (by omega), if_neg (by omega), if_pos (by omega)] | rw [if_neg (by omega), if_neg (by omega), if_neg (by omega), if_pos (by omega)] | rw [if_neg (by omega), if_neg (by omega), if_neg (by omega), if_neg (by omega)])
  · refine x_iload rfl (xst_ne (by decide) xst_eq (Or.inl rfl)) ?_
    refine x_bipush rfl (by decide) ?_
    refine x_cne (t := 120) rfl rfl ⟨by omega, by omega⟩ ⟨by omega, by omega⟩ (fun h115 => ?_) (fun h115 => ?_)
    · refine x_iload rfl xst_eq ?_
      refine x_iconst rfl ?_
      refine x_cne (t := 134) rfl rfl ⟨by omega, by omega⟩ ⟨by omega, by omega⟩ (fun h123 => ?_) (fun h123 => ?_)
      · refine x_iload rfl xst_eq ?_
        refine x_iconst rfl ?_
        refine x_cne (t := 161) rfl rfl ⟨by omega, by omega⟩ ⟨by omega, by omega⟩ (fun h137 => ?_) (fun h137 => ?_)
        · refine x_iload rfl xst_eq ?_
          refine x_iconst rfl ?_
          refine x_cne (t := 186) rfl rfl ⟨by omega, by omega⟩ ⟨by omega, by omega⟩ (fun h164 => ?_) (fun h164 => ?_)
          · refine x_iconst rfl ?_
            refine x_ireturn rfl (Or.inl rfl) ⟨_, _, rfl, rfl, ?_, rfl⟩
            first | (exfalso; omega) | (congr 2; unfold sshC; first | rw [if_pos (by omega)] | rw [if_neg (by omega), if_pos (by omega)] | rw [if_neg (by omega), if_neg (by omega), if_pos (by omega)] | rw [if_neg (by omega), if_neg (by omega), if_neg (by omega), if_pos (by omega)] | rw [if_neg (by omega), if_neg (by omega), if_neg (by omega), if_neg (by omega)])
          · refine x_iload rfl (xst_ne (by decide) xst_eq (Or.inl rfl)) ?_
            refine x_iconst rfl ?_
            refine x_cne (t := 186) rfl rfl ⟨by omega, by omega⟩ ⟨by omega, by omega⟩ (fun h170 => ?_) (fun h170 => ?_)
            · refine x_iconst rfl ?_
              refine x_ireturn rfl (Or.inl rfl) ⟨_, _, rfl, rfl, ?_, rfl⟩
              first | (exfalso; omega) | (congr 2; unfold sshC; first | rw [if_pos (by omega)] | rw [if_neg (by omega), if_pos (by omega)] | rw [if_neg (by omega), if_neg (by omega), if_pos (by omega)] | rw [if_neg (by omega), if_neg (by omega), if_neg (by omega), if_pos (by omega)] | rw [if_neg (by omega), if_neg (by omega), if_neg (by omega), if_neg (by omega)])
            · refine x_aload_n rfl (xst_ne (by decide) (xst_ne (by decide) m0 (Or.inl rfl)) (Or.inl rfl)) ?_
              refine x_iload_n rfl (xst_ne (by decide) (xst_ne (by decide) m1 (Or.inl rfl)) (Or.inl rfl)) ?_
              refine x_iload_n rfl (xst_ne (by decide) (xst_ne (by decide) m3 (Or.inl rfl)) (Or.inl rfl)) ?_
              refine x_iconst rfl ?_
              refine x_iconst rfl ?_
              refine x_call [_, _, _, _, _] rfl rfl (show (0 : Nat) ≤ 8 from by decide) (show (5 : Nat) ≤ 10 from by decide) rfl (xs_149 h175 hpl hrl (W := slx r) (So := sly r) (z := 3) (wt := 0) ⟨by omega, by omega⟩ ⟨by omega, by omega⟩ (by decide) (by decide)) ?_
              intro r' f9 hP
              obtain ⟨rfl, hPe⟩ := hP
              subst f9
              refine x_ifne (t := 186) rfl rfl ⟨by omega, by omega⟩ (fun h181 => ?_) (fun h181 => ?_)
              · refine x_iconst rfl ?_
                refine x_ireturn rfl (Or.inl rfl) ⟨_, _, rfl, rfl, ?_, rfl⟩
                first | (exfalso; omega) | (congr 2; unfold sshC; first | rw [if_pos (by omega)] | rw [if_neg (by omega), if_pos (by omega)] | rw [if_neg (by omega), if_neg (by omega), if_pos (by omega)] | rw [if_neg (by omega), if_neg (by omega), if_neg (by omega), if_pos (by omega)] | rw [if_neg (by omega), if_neg (by omega), if_neg (by omega), if_neg (by omega)])
              · refine x_iconst rfl ?_
                refine x_ireturn rfl (Or.inl rfl) ⟨_, _, rfl, rfl, ?_, rfl⟩
                first | (exfalso; omega) | (congr 2; unfold sshC; first | rw [if_pos (by omega)] | rw [if_neg (by omega), if_pos (by omega)] | rw [if_neg (by omega), if_neg (by omega), if_pos (by omega)] | rw [if_neg (by omega), if_neg (by omega), if_neg (by omega), if_pos (by omega)] | rw [if_neg (by omega), if_neg (by omega), if_neg (by omega), if_neg (by omega)])
        · refine x_iload rfl (xst_ne (by decide) xst_eq (Or.inl rfl)) ?_
          refine x_iconst rfl ?_
          refine x_cne (t := 161) rfl rfl ⟨by omega, by omega⟩ ⟨by omega, by omega⟩ (fun h143 => ?_) (fun h143 => ?_)
          · refine x_iload rfl xst_eq ?_
            refine x_iconst rfl ?_
            refine x_cne (t := 186) rfl rfl ⟨by omega, by omega⟩ ⟨by omega, by omega⟩ (fun h164 => ?_) (fun h164 => ?_)
            · refine x_iconst rfl ?_
              refine x_ireturn rfl (Or.inl rfl) ⟨_, _, rfl, rfl, ?_, rfl⟩
              first | (exfalso; omega) | (congr 2; unfold sshC; first | rw [if_pos (by omega)] | rw [if_neg (by omega), if_pos (by omega)] | rw [if_neg (by omega), if_neg (by omega), if_pos (by omega)] | rw [if_neg (by omega), if_neg (by omega), if_neg (by omega), if_pos (by omega)] | rw [if_neg (by omega), if_neg (by omega), if_neg (by omega), if_neg (by omega)])
            · refine x_iload rfl (xst_ne (by decide) xst_eq (Or.inl rfl)) ?_
              refine x_iconst rfl ?_
              refine x_cne (t := 186) rfl rfl ⟨by omega, by omega⟩ ⟨by omega, by omega⟩ (fun h170 => ?_) (fun h170 => ?_)
              · refine x_iconst rfl ?_
                refine x_ireturn rfl (Or.inl rfl) ⟨_, _, rfl, rfl, ?_, rfl⟩
                first | (exfalso; omega) | (congr 2; unfold sshC; first | rw [if_pos (by omega)] | rw [if_neg (by omega), if_pos (by omega)] | rw [if_neg (by omega), if_neg (by omega), if_pos (by omega)] | rw [if_neg (by omega), if_neg (by omega), if_neg (by omega), if_pos (by omega)] | rw [if_neg (by omega), if_neg (by omega), if_neg (by omega), if_neg (by omega)])
              · refine x_aload_n rfl (xst_ne (by decide) (xst_ne (by decide) m0 (Or.inl rfl)) (Or.inl rfl)) ?_
                refine x_iload_n rfl (xst_ne (by decide) (xst_ne (by decide) m1 (Or.inl rfl)) (Or.inl rfl)) ?_
                refine x_iload_n rfl (xst_ne (by decide) (xst_ne (by decide) m3 (Or.inl rfl)) (Or.inl rfl)) ?_
                refine x_iconst rfl ?_
                refine x_iconst rfl ?_
                refine x_call [_, _, _, _, _] rfl rfl (show (0 : Nat) ≤ 8 from by decide) (show (5 : Nat) ≤ 10 from by decide) rfl (xs_149 h175 hpl hrl (W := slx r) (So := sly r) (z := 3) (wt := 0) ⟨by omega, by omega⟩ ⟨by omega, by omega⟩ (by decide) (by decide)) ?_
                intro r' f9 hP
                obtain ⟨rfl, hPe⟩ := hP
                subst f9
                refine x_ifne (t := 186) rfl rfl ⟨by omega, by omega⟩ (fun h181 => ?_) (fun h181 => ?_)
                · refine x_iconst rfl ?_
                  refine x_ireturn rfl (Or.inl rfl) ⟨_, _, rfl, rfl, ?_, rfl⟩
                  first | (exfalso; omega) | (congr 2; unfold sshC; first | rw [if_pos (by omega)] | rw [if_neg (by omega), if_pos (by omega)] | rw [if_neg (by omega), if_neg (by omega), if_pos (by omega)] | rw [if_neg (by omega), if_neg (by omega), if_neg (by omega), if_pos (by omega)] | rw [if_neg (by omega), if_neg (by omega), if_neg (by omega), if_neg (by omega)])
                · refine x_iconst rfl ?_
                  refine x_ireturn rfl (Or.inl rfl) ⟨_, _, rfl, rfl, ?_, rfl⟩
                  first | (exfalso; omega) | (congr 2; unfold sshC; first | rw [if_pos (by omega)] | rw [if_neg (by omega), if_pos (by omega)] | rw [if_neg (by omega), if_neg (by omega), if_pos (by omega)] | rw [if_neg (by omega), if_neg (by omega), if_neg (by omega), if_pos (by omega)] | rw [if_neg (by omega), if_neg (by omega), if_neg (by omega), if_neg (by omega)])
          · refine x_aload_n rfl (xst_ne (by decide) (xst_ne (by decide) m0 (Or.inl rfl)) (Or.inl rfl)) ?_
            refine x_iload_n rfl (xst_ne (by decide) (xst_ne (by decide) m1 (Or.inl rfl)) (Or.inl rfl)) ?_
            refine x_iload_n rfl (xst_ne (by decide) (xst_ne (by decide) m3 (Or.inl rfl)) (Or.inl rfl)) ?_
            refine x_iconst rfl ?_
            refine x_iconst rfl ?_
            refine x_call [_, _, _, _, _] rfl rfl (show (0 : Nat) ≤ 8 from by decide) (show (5 : Nat) ≤ 10 from by decide) rfl (xs_149 h175 hpl hrl (W := slx r) (So := sly r) (z := 4) (wt := 1) ⟨by omega, by omega⟩ ⟨by omega, by omega⟩ (by decide) (by decide)) ?_
            intro r' f9 hP
            obtain ⟨rfl, hPe⟩ := hP
            subst f9
            refine x_bipush rfl (by decide) ?_
            refine x_cne (t := 161) rfl rfl ⟨by omega, by omega⟩ ⟨by omega, by omega⟩ (fun h156 => ?_) (fun h156 => ?_)
            · refine x_iload rfl xst_eq ?_
              refine x_iconst rfl ?_
              refine x_cne (t := 186) rfl rfl ⟨by omega, by omega⟩ ⟨by omega, by omega⟩ (fun h164 => ?_) (fun h164 => ?_)
              · refine x_iconst rfl ?_
                refine x_ireturn rfl (Or.inl rfl) ⟨_, _, rfl, rfl, ?_, rfl⟩
                first | (exfalso; omega) | (congr 2; unfold sshC; first | rw [if_pos (by omega)] | rw [if_neg (by omega), if_pos (by omega)] | rw [if_neg (by omega), if_neg (by omega), if_pos (by omega)] | rw [if_neg (by omega), if_neg (by omega), if_neg (by omega), if_pos (by omega)] | rw [if_neg (by omega), if_neg (by omega), if_neg (by omega), if_neg (by omega)])
              · refine x_iload rfl (xst_ne (by decide) xst_eq (Or.inl rfl)) ?_
                refine x_iconst rfl ?_
                refine x_cne (t := 186) rfl rfl ⟨by omega, by omega⟩ ⟨by omega, by omega⟩ (fun h170 => ?_) (fun h170 => ?_)
                · refine x_iconst rfl ?_
                  refine x_ireturn rfl (Or.inl rfl) ⟨_, _, rfl, rfl, ?_, rfl⟩
                  first | (exfalso; omega) | (congr 2; unfold sshC; first | rw [if_pos (by omega)] | rw [if_neg (by omega), if_pos (by omega)] | rw [if_neg (by omega), if_neg (by omega), if_pos (by omega)] | rw [if_neg (by omega), if_neg (by omega), if_neg (by omega), if_pos (by omega)] | rw [if_neg (by omega), if_neg (by omega), if_neg (by omega), if_neg (by omega)])
                · refine x_aload_n rfl (xst_ne (by decide) (xst_ne (by decide) m0 (Or.inl rfl)) (Or.inl rfl)) ?_
                  refine x_iload_n rfl (xst_ne (by decide) (xst_ne (by decide) m1 (Or.inl rfl)) (Or.inl rfl)) ?_
                  refine x_iload_n rfl (xst_ne (by decide) (xst_ne (by decide) m3 (Or.inl rfl)) (Or.inl rfl)) ?_
                  refine x_iconst rfl ?_
                  refine x_iconst rfl ?_
                  refine x_call [_, _, _, _, _] rfl rfl (show (0 : Nat) ≤ 8 from by decide) (show (5 : Nat) ≤ 10 from by decide) rfl (xs_149 h175 hpl hrl (W := slx r) (So := sly r) (z := 3) (wt := 0) ⟨by omega, by omega⟩ ⟨by omega, by omega⟩ (by decide) (by decide)) ?_
                  intro r' f9 hP
                  obtain ⟨rfl, hPe⟩ := hP
                  subst f9
                  refine x_ifne (t := 186) rfl rfl ⟨by omega, by omega⟩ (fun h181 => ?_) (fun h181 => ?_)
                  · refine x_iconst rfl ?_
                    refine x_ireturn rfl (Or.inl rfl) ⟨_, _, rfl, rfl, ?_, rfl⟩
                    first | (exfalso; omega) | (congr 2; unfold sshC; first | rw [if_pos (by omega)] | rw [if_neg (by omega), if_pos (by omega)] | rw [if_neg (by omega), if_neg (by omega), if_pos (by omega)] | rw [if_neg (by omega), if_neg (by omega), if_neg (by omega), if_pos (by omega)] | rw [if_neg (by omega), if_neg (by omega), if_neg (by omega), if_neg (by omega)])
                  · refine x_iconst rfl ?_
                    refine x_ireturn rfl (Or.inl rfl) ⟨_, _, rfl, rfl, ?_, rfl⟩
                    first | (exfalso; omega) | (congr 2; unfold sshC; first | rw [if_pos (by omega)] | rw [if_neg (by omega), if_pos (by omega)] | rw [if_neg (by omega), if_neg (by omega), if_pos (by omega)] | rw [if_neg (by omega), if_neg (by omega), if_neg (by omega), if_pos (by omega)] | rw [if_neg (by omega), if_neg (by omega), if_neg (by omega), if_neg (by omega)])
            · refine x_iconst rfl ?_
              refine x_ireturn rfl (Or.inl rfl) ⟨_, _, rfl, rfl, ?_, rfl⟩
              first | (exfalso; omega) | (congr 2; unfold sshC; first | rw [if_pos (by omega)] | rw [if_neg (by omega), if_pos (by omega)] | rw [if_neg (by omega), if_neg (by omega), if_pos (by omega)] | rw [if_neg (by omega), if_neg (by omega), if_neg (by omega), if_pos (by omega)] | rw [if_neg (by omega), if_neg (by omega), if_neg (by omega), if_neg (by omega)])
      · refine x_iload rfl (xst_ne (by decide) xst_eq (Or.inl rfl)) ?_
        refine x_iconst rfl ?_
        refine x_cne (t := 134) rfl rfl ⟨by omega, by omega⟩ ⟨by omega, by omega⟩ (fun h129 => ?_) (fun h129 => ?_)
        · refine x_iload rfl xst_eq ?_
          refine x_iconst rfl ?_
          refine x_cne (t := 161) rfl rfl ⟨by omega, by omega⟩ ⟨by omega, by omega⟩ (fun h137 => ?_) (fun h137 => ?_)
          · refine x_iload rfl xst_eq ?_
            refine x_iconst rfl ?_
            refine x_cne (t := 186) rfl rfl ⟨by omega, by omega⟩ ⟨by omega, by omega⟩ (fun h164 => ?_) (fun h164 => ?_)
            · refine x_iconst rfl ?_
              refine x_ireturn rfl (Or.inl rfl) ⟨_, _, rfl, rfl, ?_, rfl⟩
              first | (exfalso; omega) | (congr 2; unfold sshC; first | rw [if_pos (by omega)] | rw [if_neg (by omega), if_pos (by omega)] | rw [if_neg (by omega), if_neg (by omega), if_pos (by omega)] | rw [if_neg (by omega), if_neg (by omega), if_neg (by omega), if_pos (by omega)] | rw [if_neg (by omega), if_neg (by omega), if_neg (by omega), if_neg (by omega)])
            · refine x_iload rfl (xst_ne (by decide) xst_eq (Or.inl rfl)) ?_
              refine x_iconst rfl ?_
              refine x_cne (t := 186) rfl rfl ⟨by omega, by omega⟩ ⟨by omega, by omega⟩ (fun h170 => ?_) (fun h170 => ?_)
              · refine x_iconst rfl ?_
                refine x_ireturn rfl (Or.inl rfl) ⟨_, _, rfl, rfl, ?_, rfl⟩
                first | (exfalso; omega) | (congr 2; unfold sshC; first | rw [if_pos (by omega)] | rw [if_neg (by omega), if_pos (by omega)] | rw [if_neg (by omega), if_neg (by omega), if_pos (by omega)] | rw [if_neg (by omega), if_neg (by omega), if_neg (by omega), if_pos (by omega)] | rw [if_neg (by omega), if_neg (by omega), if_neg (by omega), if_neg (by omega)])
              · refine x_aload_n rfl (xst_ne (by decide) (xst_ne (by decide) m0 (Or.inl rfl)) (Or.inl rfl)) ?_
                refine x_iload_n rfl (xst_ne (by decide) (xst_ne (by decide) m1 (Or.inl rfl)) (Or.inl rfl)) ?_
                refine x_iload_n rfl (xst_ne (by decide) (xst_ne (by decide) m3 (Or.inl rfl)) (Or.inl rfl)) ?_
                refine x_iconst rfl ?_
                refine x_iconst rfl ?_
                refine x_call [_, _, _, _, _] rfl rfl (show (0 : Nat) ≤ 8 from by decide) (show (5 : Nat) ≤ 10 from by decide) rfl (xs_149 h175 hpl hrl (W := slx r) (So := sly r) (z := 3) (wt := 0) ⟨by omega, by omega⟩ ⟨by omega, by omega⟩ (by decide) (by decide)) ?_
                intro r' f9 hP
                obtain ⟨rfl, hPe⟩ := hP
                subst f9
                refine x_ifne (t := 186) rfl rfl ⟨by omega, by omega⟩ (fun h181 => ?_) (fun h181 => ?_)
                · refine x_iconst rfl ?_
                  refine x_ireturn rfl (Or.inl rfl) ⟨_, _, rfl, rfl, ?_, rfl⟩
                  first | (exfalso; omega) | (congr 2; unfold sshC; first | rw [if_pos (by omega)] | rw [if_neg (by omega), if_pos (by omega)] | rw [if_neg (by omega), if_neg (by omega), if_pos (by omega)] | rw [if_neg (by omega), if_neg (by omega), if_neg (by omega), if_pos (by omega)] | rw [if_neg (by omega), if_neg (by omega), if_neg (by omega), if_neg (by omega)])
                · refine x_iconst rfl ?_
                  refine x_ireturn rfl (Or.inl rfl) ⟨_, _, rfl, rfl, ?_, rfl⟩
                  first | (exfalso; omega) | (congr 2; unfold sshC; first | rw [if_pos (by omega)] | rw [if_neg (by omega), if_pos (by omega)] | rw [if_neg (by omega), if_neg (by omega), if_pos (by omega)] | rw [if_neg (by omega), if_neg (by omega), if_neg (by omega), if_pos (by omega)] | rw [if_neg (by omega), if_neg (by omega), if_neg (by omega), if_neg (by omega)])
          · refine x_iload rfl (xst_ne (by decide) xst_eq (Or.inl rfl)) ?_
            refine x_iconst rfl ?_
            refine x_cne (t := 161) rfl rfl ⟨by omega, by omega⟩ ⟨by omega, by omega⟩ (fun h143 => ?_) (fun h143 => ?_)
            · refine x_iload rfl xst_eq ?_
              refine x_iconst rfl ?_
              refine x_cne (t := 186) rfl rfl ⟨by omega, by omega⟩ ⟨by omega, by omega⟩ (fun h164 => ?_) (fun h164 => ?_)
              · refine x_iconst rfl ?_
                refine x_ireturn rfl (Or.inl rfl) ⟨_, _, rfl, rfl, ?_, rfl⟩
                first | (exfalso; omega) | (congr 2; unfold sshC; first | rw [if_pos (by omega)] | rw [if_neg (by omega), if_pos (by omega)] | rw [if_neg (by omega), if_neg (by omega), if_pos (by omega)] | rw [if_neg (by omega), if_neg (by omega), if_neg (by omega), if_pos (by omega)] | rw [if_neg (by omega), if_neg (by omega), if_neg (by omega), if_neg (by omega)])
              · refine x_iload rfl (xst_ne (by decide) xst_eq (Or.inl rfl)) ?_
                refine x_iconst rfl ?_
                refine x_cne (t := 186) rfl rfl ⟨by omega, by omega⟩ ⟨by omega, by omega⟩ (fun h170 => ?_) (fun h170 => ?_)
                · refine x_iconst rfl ?_
                  refine x_ireturn rfl (Or.inl rfl) ⟨_, _, rfl, rfl, ?_, rfl⟩
                  first | (exfalso; omega) | (congr 2; unfold sshC; first | rw [if_pos (by omega)] | rw [if_neg (by omega), if_pos (by omega)] | rw [if_neg (by omega), if_neg (by omega), if_pos (by omega)] | rw [if_neg (by omega), if_neg (by omega), if_neg (by omega), if_pos (by omega)] | rw [if_neg (by omega), if_neg (by omega), if_neg (by omega), if_neg (by omega)])
                · refine x_aload_n rfl (xst_ne (by decide) (xst_ne (by decide) m0 (Or.inl rfl)) (Or.inl rfl)) ?_
                  refine x_iload_n rfl (xst_ne (by decide) (xst_ne (by decide) m1 (Or.inl rfl)) (Or.inl rfl)) ?_
                  refine x_iload_n rfl (xst_ne (by decide) (xst_ne (by decide) m3 (Or.inl rfl)) (Or.inl rfl)) ?_
                  refine x_iconst rfl ?_
                  refine x_iconst rfl ?_
                  refine x_call [_, _, _, _, _] rfl rfl (show (0 : Nat) ≤ 8 from by decide) (show (5 : Nat) ≤ 10 from by decide) rfl (xs_149 h175 hpl hrl (W := slx r) (So := sly r) (z := 3) (wt := 0) ⟨by omega, by omega⟩ ⟨by omega, by omega⟩ (by decide) (by decide)) ?_
                  intro r' f9 hP
                  obtain ⟨rfl, hPe⟩ := hP
                  subst f9
                  refine x_ifne (t := 186) rfl rfl ⟨by omega, by omega⟩ (fun h181 => ?_) (fun h181 => ?_)
                  · refine x_iconst rfl ?_
                    refine x_ireturn rfl (Or.inl rfl) ⟨_, _, rfl, rfl, ?_, rfl⟩
                    first | (exfalso; omega) | (congr 2; unfold sshC; first | rw [if_pos (by omega)] | rw [if_neg (by omega), if_pos (by omega)] | rw [if_neg (by omega), if_neg (by omega), if_pos (by omega)] | rw [if_neg (by omega), if_neg (by omega), if_neg (by omega), if_pos (by omega)] | rw [if_neg (by omega), if_neg (by omega), if_neg (by omega), if_neg (by omega)])
                  · refine x_iconst rfl ?_
                    refine x_ireturn rfl (Or.inl rfl) ⟨_, _, rfl, rfl, ?_, rfl⟩
                    first | (exfalso; omega) | (congr 2; unfold sshC; first | rw [if_pos (by omega)] | rw [if_neg (by omega), if_pos (by omega)] | rw [if_neg (by omega), if_neg (by omega), if_pos (by omega)] | rw [if_neg (by omega), if_neg (by omega), if_neg (by omega), if_pos (by omega)] | rw [if_neg (by omega), if_neg (by omega), if_neg (by omega), if_neg (by omega)])
            · refine x_aload_n rfl (xst_ne (by decide) (xst_ne (by decide) m0 (Or.inl rfl)) (Or.inl rfl)) ?_
              refine x_iload_n rfl (xst_ne (by decide) (xst_ne (by decide) m1 (Or.inl rfl)) (Or.inl rfl)) ?_
              refine x_iload_n rfl (xst_ne (by decide) (xst_ne (by decide) m3 (Or.inl rfl)) (Or.inl rfl)) ?_
              refine x_iconst rfl ?_
              refine x_iconst rfl ?_
              refine x_call [_, _, _, _, _] rfl rfl (show (0 : Nat) ≤ 8 from by decide) (show (5 : Nat) ≤ 10 from by decide) rfl (xs_149 h175 hpl hrl (W := slx r) (So := sly r) (z := 4) (wt := 1) ⟨by omega, by omega⟩ ⟨by omega, by omega⟩ (by decide) (by decide)) ?_
              intro r' f9 hP
              obtain ⟨rfl, hPe⟩ := hP
              subst f9
              refine x_bipush rfl (by decide) ?_
              refine x_cne (t := 161) rfl rfl ⟨by omega, by omega⟩ ⟨by omega, by omega⟩ (fun h156 => ?_) (fun h156 => ?_)
              · refine x_iload rfl xst_eq ?_
                refine x_iconst rfl ?_
                refine x_cne (t := 186) rfl rfl ⟨by omega, by omega⟩ ⟨by omega, by omega⟩ (fun h164 => ?_) (fun h164 => ?_)
                · refine x_iconst rfl ?_
                  refine x_ireturn rfl (Or.inl rfl) ⟨_, _, rfl, rfl, ?_, rfl⟩
                  first | (exfalso; omega) | (congr 2; unfold sshC; first | rw [if_pos (by omega)] | rw [if_neg (by omega), if_pos (by omega)] | rw [if_neg (by omega), if_neg (by omega), if_pos (by omega)] | rw [if_neg (by omega), if_neg (by omega), if_neg (by omega), if_pos (by omega)] | rw [if_neg (by omega), if_neg (by omega), if_neg (by omega), if_neg (by omega)])
                · refine x_iload rfl (xst_ne (by decide) xst_eq (Or.inl rfl)) ?_
                  refine x_iconst rfl ?_
                  refine x_cne (t := 186) rfl rfl ⟨by omega, by omega⟩ ⟨by omega, by omega⟩ (fun h170 => ?_) (fun h170 => ?_)
                  · refine x_iconst rfl ?_
                    refine x_ireturn rfl (Or.inl rfl) ⟨_, _, rfl, rfl, ?_, rfl⟩
                    first | (exfalso; omega) | (congr 2; unfold sshC; first | rw [if_pos (by omega)] | rw [if_neg (by omega), if_pos (by omega)] | rw [if_neg (by omega), if_neg (by omega), if_pos (by omega)] | rw [if_neg (by omega), if_neg (by omega), if_neg (by omega), if_pos (by omega)] | rw [if_neg (by omega), if_neg (by omega), if_neg (by omega), if_neg (by omega)])
                  · refine x_aload_n rfl (xst_ne (by decide) (xst_ne (by decide) m0 (Or.inl rfl)) (Or.inl rfl)) ?_
                    refine x_iload_n rfl (xst_ne (by decide) (xst_ne (by decide) m1 (Or.inl rfl)) (Or.inl rfl)) ?_
                    refine x_iload_n rfl (xst_ne (by decide) (xst_ne (by decide) m3 (Or.inl rfl)) (Or.inl rfl)) ?_
                    refine x_iconst rfl ?_
                    refine x_iconst rfl ?_
                    refine x_call [_, _, _, _, _] rfl rfl (show (0 : Nat) ≤ 8 from by decide) (show (5 : Nat) ≤ 10 from by decide) rfl (xs_149 h175 hpl hrl (W := slx r) (So := sly r) (z := 3) (wt := 0) ⟨by omega, by omega⟩ ⟨by omega, by omega⟩ (by decide) (by decide)) ?_
                    intro r' f9 hP
                    obtain ⟨rfl, hPe⟩ := hP
                    subst f9
                    refine x_ifne (t := 186) rfl rfl ⟨by omega, by omega⟩ (fun h181 => ?_) (fun h181 => ?_)
                    · refine x_iconst rfl ?_
                      refine x_ireturn rfl (Or.inl rfl) ⟨_, _, rfl, rfl, ?_, rfl⟩
                      first | (exfalso; omega) | (congr 2; unfold sshC; first | rw [if_pos (by omega)] | rw [if_neg (by omega), if_pos (by omega)] | rw [if_neg (by omega), if_neg (by omega), if_pos (by omega)] | rw [if_neg (by omega), if_neg (by omega), if_neg (by omega), if_pos (by omega)] | rw [if_neg (by omega), if_neg (by omega), if_neg (by omega), if_neg (by omega)])
                    · refine x_iconst rfl ?_
                      refine x_ireturn rfl (Or.inl rfl) ⟨_, _, rfl, rfl, ?_, rfl⟩
                      first | (exfalso; omega) | (congr 2; unfold sshC; first | rw [if_pos (by omega)] | rw [if_neg (by omega), if_pos (by omega)] | rw [if_neg (by omega), if_neg (by omega), if_pos (by omega)] | rw [if_neg (by omega), if_neg (by omega), if_neg (by omega), if_pos (by omega)] | rw [if_neg (by omega), if_neg (by omega), if_neg (by omega), if_neg (by omega)])
              · refine x_iconst rfl ?_
                refine x_ireturn rfl (Or.inl rfl) ⟨_, _, rfl, rfl, ?_, rfl⟩
                first | (exfalso; omega) | (congr 2; unfold sshC; first | rw [if_pos (by omega)] | rw [if_neg (by omega), if_pos (by omega)] | rw [if_neg (by omega), if_neg (by omega), if_pos (by omega)] | rw [if_neg (by omega), if_neg (by omega), if_neg (by omega), if_pos (by omega)] | rw [if_neg (by omega), if_neg (by omega), if_neg (by omega), if_neg (by omega)])
        · refine x_iconst rfl ?_
          refine x_ireturn rfl (Or.inl rfl) ⟨_, _, rfl, rfl, ?_, rfl⟩
          first | (exfalso; omega) | (congr 2; unfold sshC; first | rw [if_pos (by omega)] | rw [if_neg (by omega), if_pos (by omega)] | rw [if_neg (by omega), if_neg (by omega), if_pos (by omega)] | rw [if_neg (by omega), if_neg (by omega), if_neg (by omega), if_pos (by omega)] | rw [if_neg (by omega), if_neg (by omega), if_neg (by omega), if_neg (by omega)])
    · refine x_iconst rfl ?_
      refine x_ireturn rfl (Or.inl rfl) ⟨_, _, rfl, rfl, ?_, rfl⟩
      first | (exfalso; omega) | (congr 2; unfold sshC; first | rw [if_pos (by omega)] | rw [if_neg (by omega), if_pos (by omega)] | rw [if_neg (by omega), if_neg (by omega), if_pos (by omega)] | rw [if_neg (by omega), if_neg (by omega), if_neg (by omega), if_pos (by omega)] | rw [if_neg (by omega), if_neg (by omega), if_neg (by omega), if_neg (by omega)])
theorem xs_151 {v0 : Value} {xs : List Int32} {u : Nat × Nat} {f : Nat → zE} {K : List (Int × Int)} {G : Nat → List xBt} {S : sS} (hT : sCT f K G S) : xz v0 xs u (sCQ f u K G exD (0, sshape S.1, S)) 151 0 [(0, .ref 50)] [] f := by
  obtain ⟨⟨lf, h50⟩, ⟨pl, h175, hpl, hrl⟩, -⟩ := id hT
  refine x_aload_n rfl rfl ?_
  refine x_getfield rfl (by decide) h50 rfl ?_
  refine x_call [_] rfl rfl (show (0 : Nat) ≤ 8 from by decide) (show (1 : Nat) ≤ 7 from by decide) rfl (xs_150 h175 hpl hrl) (fun r' f9 hP => ?_)
  obtain ⟨rfl, hPe⟩ := hP
  subst f9
  exact x_ireturn rfl (Or.inl rfl) ⟨f, Or.inl ⟨rfl, rfl, rfl⟩, hT, fun _ _ _ _ _ => rfl⟩
