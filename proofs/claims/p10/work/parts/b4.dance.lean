/-! Whom a selector has, the class's way. A row of eight places in an array. -/
def sRW (f : Nat → zE) (p : Nat) (fr : Int) (r : Nat → Int) : Prop := (50 ≤ p ∧ p < 204) ∧ ∃ l : List Int, f p = xr 0 l ∧ l.length ≤ 5000 ∧ 0 ≤ fr ∧ fr + 8 ≤ (l.length : Nat) ∧ ∀ d, d < 8 → l.getD (fr + (d : Nat)).toNat 0 = r d ∧ sok (r d)
theorem xs_96l {v0 : Value} {xs : List Int32} {u : Nat × Nat} {f : Nat → zE} {p : Nat} {fr w : Int} {r : Nat → Int} (hw : -100 ≤ w ∧ w ≤ 100) (hr : sRW f p fr r) : ∀ (k d : Nat) (lv : zL), k + d = 8 → zlv lv 0 = some (.ref p) → zlv lv 1 = some (xi fr) → zlv lv 2 = some (xi w) → zlv lv 3 = some (xi (smk (fun d => sF (r d) == w) d)) → zlv lv 4 = some (xi (d : Nat)) → xz v0 xs u (fun o X => ∃ r' f', o = .inl r' ∧ X = (xh f', u) ∧ r' = some (xi (smk (fun d => sF (r d) == w) 8)) ∧ f' = f) 96 5 lv [] f := by
  obtain ⟨hp, l, hf, hl, h0, h8, hrd⟩ := hr
  intro k
  induction k with
  | zero =>
    intro d lv hk l0 l1 l2 l3 l4
    have e : d = 8 := by omega
    subst e
    refine x_iload rfl l4 ?_
    refine x_bipush rfl (by decide) ?_
    refine x_cge (t := 37) rfl rfl (by decide) (by decide) (fun _ => ?_) (fun h => absurd h (by decide))
    refine x_iload_n rfl l3 ?_
    exact x_ireturn rfl (Or.inl rfl) ⟨_, _, rfl, rfl, rfl, rfl⟩
  | succ k ih =>
    intro d lv hk l0 l1 l2 l3 l4
    have hd : d < 8 := by omega
    obtain ⟨e1, e2⟩ := hrd d hd
    have e3 := e2
    unfold sok at e3
    refine x_iload rfl l4 ?_
    refine x_bipush rfl (by decide) ?_
    refine x_cge (t := 37) rfl rfl ⟨by omega, by omega⟩ (by decide) (fun h => by omega) (fun _ => ?_)
    refine x_aload_n rfl l0 ?_
    refine x_iload_n rfl l1 ?_
    refine x_iload rfl l4 ?_
    refine x_iadd rfl ?_
    refine x_iaload rfl hp hf ⟨by omega, by omega⟩ hl ?_
    rw [e1]
    refine x_iconst rfl ?_
    refine x_irem rfl ⟨by omega, by omega⟩ (by decide) ?_
    refine x_iload_n rfl l2 ?_
    refine x_cne (t := 31) rfl rfl ⟨by omega, by omega⟩ ⟨by omega, by omega⟩ (fun hne => ?_) (fun heq => ?_)
    · refine x_iinc rfl l4 (show (4 : Nat) < 5 from by decide) ?_
      refine x_goto (t := 5) rfl rfl ?_
      refine ih (d + 1) _ (by omega) (xst_ne (by decide) l0 (Or.inl rfl)) (xst_ne (by decide) l1 (Or.inl rfl)) (xst_ne (by decide) l2 (Or.inl rfl)) ?_ xst_eq
      have e4 : smk (fun d => sF (r d) == w) (d + 1) = smk (fun d => sF (r d) == w) d := by
        simp only [smk]
        rw [if_neg (by rw [beq_iff_eq]; exact hne), Int.add_zero]
      rw [e4]
      exact xst_ne (by decide) l3 (Or.inl rfl)
    · refine x_iload_n rfl l3 ?_
      refine x_iconst rfl ?_
      refine x_iload rfl l4 ?_
      refine x_ishl rfl ?_
      refine x_iorg rfl (sm_orbit _ hd) ?_
      refine x_istore_n rfl (show (3 : Nat) < 5 from by decide) ?_
      refine x_iinc rfl (xst_ne (by decide) l4 (Or.inl rfl)) (show (4 : Nat) < 5 from by decide) ?_
      refine x_goto (t := 5) rfl rfl ?_
      refine ih (d + 1) _ (by omega) (xst_ne (by decide) (xst_ne (by decide) l0 (Or.inl rfl)) (Or.inl rfl)) (xst_ne (by decide) (xst_ne (by decide) l1 (Or.inl rfl)) (Or.inl rfl)) (xst_ne (by decide) (xst_ne (by decide) l2 (Or.inl rfl)) (Or.inl rfl)) ?_ xst_eq
      have e4 : smk (fun d => sF (r d) == w) (d + 1) = smk (fun d => sF (r d) == w) d + ((2 ^ d : Nat) : Int) := by
        simp only [smk]
        rw [if_pos (by rw [beq_iff_eq]; exact heq)]
      rw [e4]
      exact xst_ne (by decide) xst_eq (Or.inl rfl)
theorem xs_96 {v0 : Value} {xs : List Int32} {u : Nat × Nat} {f : Nat → zE} {p : Nat} {fr w : Int} {r : Nat → Int} (hw : -100 ≤ w ∧ w ≤ 100) (hr : sRW f p fr r) : xq v0 xs u 96 [(0, .ref p), (1, xi fr), (2, xi w)] f (fun r' f' => r' = some (xi (smk (fun d => sF (r d) == w) 8)) ∧ f' = f) := by
  unfold xq
  refine x_iconst rfl ?_
  refine x_istore_n rfl (show (3 : Nat) < 5 from by decide) ?_
  refine x_iconst rfl ?_
  refine x_istore rfl (show (4 : Nat) < 5 from by decide) ?_
  exact xs_96l hw hr 8 0 _ rfl (xst_ne (by decide) (xst_ne (by decide) rfl (Or.inl rfl)) (Or.inl rfl)) (xst_ne (by decide) (xst_ne (by decide) rfl (Or.inl rfl)) (Or.inl rfl)) (xst_ne (by decide) (xst_ne (by decide) rfl (Or.inl rfl)) (Or.inl rfl)) (xst_ne (by decide) xst_eq (Or.inl rfl)) xst_eq
/-! The class's measure: 92. -/
theorem xs_92a {v0 : Value} {xs : List Int32} {u : Nat × Nat} {Q : zO → zX → Prop} {f : Nat → zE} {p : Nat} {fr : Int} {r : Nat → Int} (hr : sRW f p fr r) (hk : ∀ lv : zL, zlv lv 0 = some (.ref 114) → zlv lv 1 = some (.ref p) → zlv lv 2 = some (xi fr) → zlv lv 3 = some (xi (ssum (fun e => sX (r e)) 8)) → zlv lv 4 = some (xi (ssum (fun e => sY (r e)) 8)) → xz v0 xs u Q 92 49 lv [] f) : ∀ (k d : Nat) (lv : zL), k + d = 8 → zlv lv 0 = some (.ref 114) → zlv lv 1 = some (.ref p) → zlv lv 2 = some (xi fr) → zlv lv 3 = some (xi (ssum (fun e => sX (r e)) d)) → zlv lv 4 = some (xi (ssum (fun e => sY (r e)) d)) → zlv lv 5 = some (xi (d : Nat)) → xz v0 xs u Q 92 8 lv [] f := by
  obtain ⟨hp, l, hf, hl, h0, h8, hrd⟩ := hr
  intro k
  induction k with
  | zero =>
    intro d lv hk2 l0 l1 l2 l3 l4 l5
    have e : d = 8 := by omega
    subst e
    refine x_iload rfl l5 ?_
    refine x_bipush rfl (by decide) ?_
    refine x_cge (t := 49) rfl rfl (by decide) (by decide) (fun _ => ?_) (fun h => absurd h (by decide))
    exact hk lv l0 l1 l2 l3 l4
  | succ k ih =>
    intro d lv hk2 l0 l1 l2 l3 l4 l5
    have hd : d < 8 := by omega
    obtain ⟨e1, e2⟩ := hrd d hd
    have e3 := e2
    unfold sok at e3
    refine x_iload rfl l5 ?_
    refine x_bipush rfl (by decide) ?_
    refine x_cge (t := 49) rfl rfl ⟨by omega, by omega⟩ (by decide) (fun h => by omega) (fun _ => ?_)
    refine x_aload_n rfl l1 ?_
    refine x_iload_n rfl l2 ?_
    refine x_iload rfl l5 ?_
    refine x_iadd rfl ?_
    refine x_iaload rfl hp hf ⟨by omega, by omega⟩ hl ?_
    rw [e1]
    refine x_iconst rfl ?_
    refine x_idiv rfl ⟨by omega, by omega⟩ (by decide) ?_
    refine x_istore rfl (show (6 : Nat) < 9 from by decide) ?_
    refine x_iload_n rfl (xst_ne (by decide) l3 (Or.inl rfl)) ?_
    refine x_iload rfl xst_eq ?_
    refine x_bipush rfl (by decide) ?_
    refine x_irem rfl ⟨by omega, by omega⟩ (by decide) ?_
    refine x_iadd rfl ?_
    refine x_istore_n rfl (show (3 : Nat) < 9 from by decide) ?_
    refine x_iload rfl (xst_ne (by decide) (xst_ne (by decide) l4 (Or.inl rfl)) (Or.inl rfl)) ?_
    refine x_iload rfl (xst_ne (by decide) xst_eq (Or.inl rfl)) ?_
    refine x_bipush rfl (by decide) ?_
    refine x_idiv rfl ⟨by omega, by omega⟩ (by decide) ?_
    refine x_iadd rfl ?_
    refine x_istore rfl (show (4 : Nat) < 9 from by decide) ?_
    refine x_iinc rfl (xst_ne (by decide) (xst_ne (by decide) (xst_ne (by decide) l5 (Or.inl rfl)) (Or.inl rfl)) (Or.inl rfl)) (show (5 : Nat) < 9 from by decide) ?_
    refine x_goto (t := 8) rfl rfl ?_
    have e4 : r d / 4 / 10 = sY (r d) := by unfold sY; omega
    rw [e4]
    exact ih (d + 1) _ (by omega) (xst_ne (by decide) (xst_ne (by decide) (xst_ne (by decide) (xst_ne (by decide) l0 (Or.inl rfl)) (Or.inl rfl)) (Or.inl rfl)) (Or.inl rfl)) (xst_ne (by decide) (xst_ne (by decide) (xst_ne (by decide) (xst_ne (by decide) l1 (Or.inl rfl)) (Or.inl rfl)) (Or.inl rfl)) (Or.inl rfl)) (xst_ne (by decide) (xst_ne (by decide) (xst_ne (by decide) (xst_ne (by decide) l2 (Or.inl rfl)) (Or.inl rfl)) (Or.inl rfl)) (Or.inl rfl)) (xst_ne (by decide) (xst_ne (by decide) xst_eq (Or.inl rfl)) (Or.inl rfl)) (xst_ne (by decide) xst_eq (Or.inl rfl)) xst_eq
/-- the distances d of a row are in their array -/
def sDS (f : Nat → zE) (r : Nat → Int) (d : Nat) : Prop := ∃ dl : List Int, f 115 = xr 0 dl ∧ dl.length = 8 ∧ ∀ e, e < d → dl.getD e 0 = sfar r e
theorem xs_92b {v0 : Value} {xs : List Int32} {u : Nat × Nat} {f0 : Nat → zE} {p : Nat} {fr : Int} {r : Nat → Int} (hp5 : p ≠ 115) (h114 : f0 114 = .inl (7, [.ref 115])) (hr : sRW f0 p fr r) : ∀ (k d : Nat) (lv : zL) (f : Nat → zE), k + d = 8 → (∀ q, q ≠ 115 → f q = f0 q) → sDS f r d → zlv lv 0 = some (.ref 114) → zlv lv 1 = some (.ref p) → zlv lv 2 = some (xi fr) → zlv lv 3 = some (xi (ssum (fun e => sX (r e)) 8)) → zlv lv 4 = some (xi (ssum (fun e => sY (r e)) 8)) → zlv lv 5 = some (xi (d : Nat)) → xz v0 xs u (fun o X => ∃ r' f', o = .inl r' ∧ X = (xh f', u) ∧ r' = none ∧ sDS f' r 8 ∧ ∀ q, q ≠ 115 → f' q = f0 q) 92 52 lv [] f := by
  obtain ⟨hp, l, hf, hl, h0, h8, hrd⟩ := hr
  intro k
  induction k with
  | zero =>
    intro d lv f hk2 hfr hds l0 l1 l2 l3 l4 l5
    have e : d = 8 := by omega
    subst e
    refine x_iload rfl l5 ?_
    refine x_bipush rfl (by decide) ?_
    refine x_cge (t := 127) rfl rfl (by decide) (by decide) (fun _ => ?_) (fun h => absurd h (by decide))
    exact x_return rfl ⟨_, _, rfl, rfl, rfl, hds, hfr⟩
  | succ k ih =>
    intro d lv f hk2 hfr hds l0 l1 l2 l3 l4 l5
    have hd : d < 8 := by omega
    obtain ⟨e1, e2⟩ := hrd d hd
    have e3 := e2
    unfold sok at e3
    obtain ⟨dl, hdl, hdn, hdv⟩ := hds
    refine x_iload rfl l5 ?_
    refine x_bipush rfl (by decide) ?_
    refine x_cge (t := 127) rfl rfl ⟨by omega, by omega⟩ (by decide) (fun h => by omega) (fun _ => ?_)
    refine x_aload_n rfl l1 ?_
    refine x_iload_n rfl l2 ?_
    refine x_iload rfl l5 ?_
    refine x_iadd rfl ?_
    refine x_iaload rfl hp ((hfr p hp5).trans hf) ⟨by omega, by omega⟩ hl ?_
    rw [e1]
    refine x_iconst rfl ?_
    refine x_idiv rfl ⟨by omega, by omega⟩ (by decide) ?_
    refine x_istore rfl (show (6 : Nat) < 9 from by decide) ?_
    refine x_bipush rfl (by decide) ?_
    refine x_iload rfl xst_eq ?_
    refine x_bipush rfl (by decide) ?_
    refine x_irem rfl ⟨by omega, by omega⟩ (by decide) ?_
    refine x_imul rfl ?_
    refine x_iload_n rfl (xst_ne (by decide) l3 (Or.inl rfl)) ?_
    refine x_isub rfl ?_
    refine x_istore rfl (show (7 : Nat) < 9 from by decide) ?_
    refine x_bipush rfl (by decide) ?_
    refine x_iload rfl (xst_ne (by decide) xst_eq (Or.inl rfl)) ?_
    refine x_bipush rfl (by decide) ?_
    refine x_idiv rfl ⟨by omega, by omega⟩ (by decide) ?_
    refine x_imul rfl ?_
    refine x_iload rfl (xst_ne (by decide) (xst_ne (by decide) l4 (Or.inl rfl)) (Or.inl rfl)) ?_
    refine x_isub rfl ?_
    refine x_istore rfl (show (8 : Nat) < 9 from by decide) ?_
    refine x_aload_n rfl (xst_ne (by decide) (xst_ne (by decide) (xst_ne (by decide) l0 (Or.inl rfl)) (Or.inl rfl)) (Or.inl rfl)) ?_
    refine x_getfield rfl (by decide) ((hfr 114 (by decide)).trans h114) rfl ?_
    refine x_iload rfl (xst_ne (by decide) (xst_ne (by decide) (xst_ne (by decide) l5 (Or.inl rfl)) (Or.inl rfl)) (Or.inl rfl)) ?_
    refine x_iload rfl (xst_ne (by decide) xst_eq (Or.inl rfl)) ?_
    refine x_iload rfl (xst_ne (by decide) xst_eq (Or.inl rfl)) ?_
    refine x_imul rfl ?_
    refine x_iload rfl xst_eq ?_
    refine x_iload rfl xst_eq ?_
    refine x_imul rfl ?_
    refine x_iadd rfl ?_
    refine x_bipush rfl (by decide) ?_
    refine x_imul rfl ?_
    refine x_bipush rfl (by decide) ?_
    refine x_imul rfl ?_
    refine x_iload rfl (xst_ne (by decide) (xst_ne (by decide) xst_eq (Or.inl rfl)) (Or.inl rfl)) ?_
    refine x_iadd rfl ?_
    refine x_iastore rfl (by decide) hdl ⟨by omega, by omega⟩ (by omega) ?_
    refine x_iinc rfl (xst_ne (by decide) (xst_ne (by decide) (xst_ne (by decide) l5 (Or.inl rfl)) (Or.inl rfl)) (Or.inl rfl)) (show (5 : Nat) < 9 from by decide) ?_
    refine x_goto (t := 52) rfl rfl ?_
    have e4 : r d / 4 / 10 = sY (r d) := by unfold sY; omega
    have e5 : r d / 4 % 10 = sX (r d) := rfl
    rw [e4, e5, ← sfar_cls r d, Int.toNat_natCast]
    refine ih (d + 1) _ _ (by omega) (fun q hq => xu_ne hq (hfr q hq)) ⟨dl.set d (sfar r d), xu_eq, by rw [List.length_set]; exact hdn, fun e he => ?_⟩ (xst_ne (by decide) (xst_ne (by decide) (xst_ne (by decide) (xst_ne (by decide) l0 (Or.inl rfl)) (Or.inl rfl)) (Or.inl rfl)) (Or.inl rfl)) (xst_ne (by decide) (xst_ne (by decide) (xst_ne (by decide) (xst_ne (by decide) l1 (Or.inl rfl)) (Or.inl rfl)) (Or.inl rfl)) (Or.inl rfl)) (xst_ne (by decide) (xst_ne (by decide) (xst_ne (by decide) (xst_ne (by decide) l2 (Or.inl rfl)) (Or.inl rfl)) (Or.inl rfl)) (Or.inl rfl)) (xst_ne (by decide) (xst_ne (by decide) (xst_ne (by decide) (xst_ne (by decide) l3 (Or.inl rfl)) (Or.inl rfl)) (Or.inl rfl)) (Or.inl rfl)) (xst_ne (by decide) (xst_ne (by decide) (xst_ne (by decide) (xst_ne (by decide) l4 (Or.inl rfl)) (Or.inl rfl)) (Or.inl rfl)) (Or.inl rfl)) xst_eq
    rw [x_gset]
    by_cases h9 : d = e
    · rw [if_pos ⟨h9, by omega⟩, h9]
    · rw [if_neg (fun h => h9 h.1)]
      exact hdv e (by omega)
theorem xs_92 {v0 : Value} {xs : List Int32} {u : Nat × Nat} {f : Nat → zE} {p : Nat} {fr : Int} {r : Nat → Int} {dl : List Int} (hp5 : p ≠ 115) (h114 : f 114 = .inl (7, [.ref 115])) (h115 : f 115 = xr 0 dl) (hdl : dl.length = 8) (hr : sRW f p fr r) : xq v0 xs u 92 [(0, .ref 114), (1, .ref p), (2, xi fr)] f (fun r' f' => r' = none ∧ sDS f' r 8 ∧ ∀ q, q ≠ 115 → f' q = f q) := by
  unfold xq
  refine x_iconst rfl ?_
  refine x_istore_n rfl (show (3 : Nat) < 9 from by decide) ?_
  refine x_iconst rfl ?_
  refine x_istore rfl (show (4 : Nat) < 9 from by decide) ?_
  refine x_iconst rfl ?_
  refine x_istore rfl (show (5 : Nat) < 9 from by decide) ?_
  refine xs_92a hr (fun lv l0 l1 l2 l3 l4 => ?_) 8 0 _ rfl (xst_ne (by decide) (xst_ne (by decide) (xst_ne (by decide) rfl (Or.inl rfl)) (Or.inl rfl)) (Or.inl rfl)) (xst_ne (by decide) (xst_ne (by decide) (xst_ne (by decide) rfl (Or.inl rfl)) (Or.inl rfl)) (Or.inl rfl)) (xst_ne (by decide) (xst_ne (by decide) (xst_ne (by decide) rfl (Or.inl rfl)) (Or.inl rfl)) (Or.inl rfl)) (xst_ne (by decide) (xst_ne (by decide) xst_eq (Or.inl rfl)) (Or.inl rfl)) (xst_ne (by decide) xst_eq (Or.inl rfl)) xst_eq
  refine x_iconst rfl ?_
  refine x_istore rfl (show (5 : Nat) < 9 from by decide) ?_
  exact xs_92b hp5 h114 hr 8 0 _ f rfl (fun _ _ => rfl) ⟨dl, h115, hdl, fun e he => absurd he (Nat.not_lt_zero e)⟩ (xst_ne (by decide) l0 (Or.inl rfl)) (xst_ne (by decide) l1 (Or.inl rfl)) (xst_ne (by decide) l2 (Or.inl rfl)) (xst_ne (by decide) l3 (Or.inl rfl)) (xst_ne (by decide) l4 (Or.inl rfl)) xst_eq
/-! The class's centres: 93. -/
theorem xs_93i {v0 : Value} {xs : List Int32} {u : Nat × Nat} {Q : zO → zX → Prop} {f : Nat → zE} {r : Nat → Int} {d : Nat} {ch : Int} (h114 : f 114 = .inl (7, [.ref 115])) (hds : sDS f r 8) (hrg : ∀ e, e < 8 → 0 ≤ sfar r e ∧ sfar r e < 2000000) (hd : d < 8) (hk : ∀ lv : zL, zlv lv 0 = some (.ref 114) → zlv lv 3 = some (xi ch) → zlv lv 4 = some (xi (d : Nat)) → zlv lv 5 = some (xi (scnt (fun e => decide (sfar r e < sfar r d)) 8)) → xz v0 xs u Q 93 57 lv [] f) : ∀ (k e : Nat) (lv : zL), k + e = 8 → zlv lv 0 = some (.ref 114) → zlv lv 3 = some (xi ch) → zlv lv 4 = some (xi (d : Nat)) → zlv lv 5 = some (xi (scnt (fun e => decide (sfar r e < sfar r d)) e)) → zlv lv 6 = some (xi (e : Nat)) → xz v0 xs u Q 93 24 lv [] f := by
  obtain ⟨dl, hdl, hdn, hdv⟩ := hds
  intro k
  induction k with
  | zero =>
    intro e lv hk2 l0 l3 l4 l5 l6
    have e9 : e = 8 := by omega
    subst e9
    refine x_iload rfl l6 ?_
    refine x_bipush rfl (by decide) ?_
    refine x_cge (t := 57) rfl rfl (by decide) (by decide) (fun _ => ?_) (fun h => absurd h (by decide))
    exact hk lv l0 l3 l4 l5
  | succ k ih =>
    intro e lv hk2 l0 l3 l4 l5 l6
    have he : e < 8 := by omega
    have r1 := hrg e he
    have r2 := hrg d hd
    refine x_iload rfl l6 ?_
    refine x_bipush rfl (by decide) ?_
    refine x_cge (t := 57) rfl rfl ⟨by omega, by omega⟩ (by decide) (fun h => by omega) (fun _ => ?_)
    refine x_aload_n rfl l0 ?_
    refine x_getfield rfl (by decide) h114 rfl ?_
    refine x_iload rfl l6 ?_
    refine x_iaload rfl (by decide) hdl ⟨by omega, by omega⟩ (by omega) ?_
    rw [Int.toNat_natCast, hdv e he]
    refine x_aload_n rfl l0 ?_
    refine x_getfield rfl (by decide) h114 rfl ?_
    refine x_iload rfl l4 ?_
    refine x_iaload rfl (by decide) hdl ⟨by omega, by omega⟩ (by omega) ?_
    rw [Int.toNat_natCast, hdv d hd]
    refine x_cge (t := 51) rfl rfl ⟨by omega, by omega⟩ ⟨by omega, by omega⟩ (fun hge => ?_) (fun hlt => ?_)
    · refine x_iinc rfl l6 (show (6 : Nat) < 7 from by decide) ?_
      refine x_goto (t := 24) rfl rfl ?_
      refine ih (e + 1) _ (by omega) (xst_ne (by decide) l0 (Or.inl rfl)) (xst_ne (by decide) l3 (Or.inl rfl)) (xst_ne (by decide) l4 (Or.inl rfl)) ?_ xst_eq
      have e4 : scnt (fun e => decide (sfar r e < sfar r d)) (e + 1) = scnt (fun e => decide (sfar r e < sfar r d)) e := by
        simp only [scnt]
        rw [if_neg (by rw [decide_eq_true_eq]; omega), Int.add_zero]
      rw [e4]
      exact xst_ne (by decide) l5 (Or.inl rfl)
    · refine x_iinc rfl l5 (show (5 : Nat) < 7 from by decide) ?_
      refine x_iinc rfl (xst_ne (by decide) l6 (Or.inl rfl)) (show (6 : Nat) < 7 from by decide) ?_
      refine x_goto (t := 24) rfl rfl ?_
      refine ih (e + 1) _ (by omega) (xst_ne (by decide) (xst_ne (by decide) l0 (Or.inl rfl)) (Or.inl rfl)) (xst_ne (by decide) (xst_ne (by decide) l3 (Or.inl rfl)) (Or.inl rfl)) (xst_ne (by decide) (xst_ne (by decide) l4 (Or.inl rfl)) (Or.inl rfl)) ?_ xst_eq
      have e4 : scnt (fun e => decide (sfar r e < sfar r d)) (e + 1) = scnt (fun e => decide (sfar r e < sfar r d)) e + 1 := by
        simp only [scnt]
        rw [if_pos (by rw [decide_eq_true_eq]; omega)]
      rw [e4]
      exact xst_ne (by decide) xst_eq (Or.inl rfl)
theorem xs_93o {v0 : Value} {xs : List Int32} {u : Nat × Nat} {f : Nat → zE} {r : Nat → Int} (h114 : f 114 = .inl (7, [.ref 115])) (hds : sDS f r 8) (hrg : ∀ e, e < 8 → 0 ≤ sfar r e ∧ sfar r e < 2000000) : ∀ (k d : Nat) (lv : zL), k + d = 8 → zlv lv 0 = some (.ref 114) → zlv lv 3 = some (xi (smk (scen r) d)) → zlv lv 4 = some (xi (d : Nat)) → xz v0 xs u (fun o X => ∃ r' f', o = .inl r' ∧ X = (xh f', u) ∧ r' = some (xi (smk (scen r) 8)) ∧ f' = f) 93 11 lv [] f := by
  intro k
  induction k with
  | zero =>
    intro d lv hk2 l0 l3 l4
    have e9 : d = 8 := by omega
    subst e9
    refine x_iload rfl l4 ?_
    refine x_bipush rfl (by decide) ?_
    refine x_cge (t := 76) rfl rfl (by decide) (by decide) (fun _ => ?_) (fun h => absurd h (by decide))
    refine x_iload_n rfl l3 ?_
    exact x_ireturn rfl (Or.inl rfl) ⟨_, _, rfl, rfl, rfl, rfl⟩
  | succ k ih =>
    intro d lv hk2 l0 l3 l4
    have hd : d < 8 := by omega
    refine x_iload rfl l4 ?_
    refine x_bipush rfl (by decide) ?_
    refine x_cge (t := 76) rfl rfl ⟨by omega, by omega⟩ (by decide) (fun h => by omega) (fun _ => ?_)
    refine x_iconst rfl ?_
    refine x_istore rfl (show (5 : Nat) < 7 from by decide) ?_
    refine x_iconst rfl ?_
    refine x_istore rfl (show (6 : Nat) < 7 from by decide) ?_
    refine xs_93i h114 hds hrg hd (ch := smk (scen r) d) (fun lv2 m0 m3 m4 m5 => ?_) 8 0 _ rfl (xst_ne (by decide) (xst_ne (by decide) l0 (Or.inl rfl)) (Or.inl rfl)) (xst_ne (by decide) (xst_ne (by decide) l3 (Or.inl rfl)) (Or.inl rfl)) (xst_ne (by decide) (xst_ne (by decide) l4 (Or.inl rfl)) (Or.inl rfl)) (xst_ne (by decide) xst_eq (Or.inl rfl)) xst_eq
    have hcn := scnt_rg (fun e => decide (sfar r e < sfar r d)) 8
    refine x_iload rfl m5 ?_
    refine x_iconst rfl ?_
    refine x_cge (t := 70) rfl rfl ⟨by omega, by omega⟩ (by decide) (fun hge => ?_) (fun hlt => ?_)
    · refine x_iinc rfl m4 (show (4 : Nat) < 7 from by decide) ?_
      refine x_goto (t := 11) rfl rfl ?_
      refine ih (d + 1) _ (by omega) (xst_ne (by decide) m0 (Or.inl rfl)) ?_ xst_eq
      have e4 : smk (scen r) (d + 1) = smk (scen r) d := by
        simp only [smk]
        rw [if_neg (by unfold scen; rw [decide_eq_true_eq]; omega), Int.add_zero]
      rw [e4]
      exact xst_ne (by decide) m3 (Or.inl rfl)
    · refine x_iload_n rfl m3 ?_
      refine x_iconst rfl ?_
      refine x_iload rfl m4 ?_
      refine x_ishl rfl ?_
      refine x_iorg rfl (sm_orbit _ hd) ?_
      refine x_istore_n rfl (show (3 : Nat) < 7 from by decide) ?_
      refine x_iinc rfl (xst_ne (by decide) m4 (Or.inl rfl)) (show (4 : Nat) < 7 from by decide) ?_
      refine x_goto (t := 11) rfl rfl ?_
      refine ih (d + 1) _ (by omega) (xst_ne (by decide) (xst_ne (by decide) m0 (Or.inl rfl)) (Or.inl rfl)) ?_ xst_eq
      have e4 : smk (scen r) (d + 1) = smk (scen r) d + ((2 ^ d : Nat) : Int) := by
        simp only [smk]
        rw [if_pos (by unfold scen; rw [decide_eq_true_eq]; omega)]
      rw [e4]
      exact xst_ne (by decide) xst_eq (Or.inl rfl)
theorem sRW_sok {f : Nat → zE} {p : Nat} {fr : Int} {r : Nat → Int} (h : sRW f p fr r) : ∀ d, d < 8 → sok (r d) := by
  obtain ⟨-, l, -, -, -, -, h⟩ := h
  exact fun d hd => (h d hd).2
theorem sRW_mv {f f' : Nat → zE} {p : Nat} {fr : Int} {r : Nat → Int} (e : f' p = f p) (h : sRW f p fr r) : sRW f' p fr r := by
  obtain ⟨hp, l, h1, h2⟩ := h
  exact ⟨hp, l, e.trans h1, h2⟩
theorem xs_93 {v0 : Value} {xs : List Int32} {u : Nat × Nat} {f : Nat → zE} {p : Nat} {fr : Int} {r : Nat → Int} {dl : List Int} (hp5 : p ≠ 115) (h114 : f 114 = .inl (7, [.ref 115])) (h115 : f 115 = xr 0 dl) (hdl : dl.length = 8) (hr : sRW f p fr r) : xq v0 xs u 93 [(0, .ref 114), (1, .ref p), (2, xi fr)] f (fun r' f' => r' = some (xi (smk (scen r) 8)) ∧ sDS f' r 8 ∧ ∀ q, q ≠ 115 → f' q = f q) := by
  unfold xq
  refine x_aload_n rfl rfl ?_
  refine x_aload_n rfl rfl ?_
  refine x_iload_n rfl rfl ?_
  refine x_call [_, _, _] rfl rfl (show (0 : Nat) ≤ 8 from by decide) (show (3 : Nat) ≤ 9 from by decide) (x_rcv (by decide) h114) (xs_92 hp5 h114 h115 hdl hr) (fun r' f1 hP => ?_)
  obtain ⟨rfl, hds, hfr⟩ := hP
  refine x_iconst rfl ?_
  refine x_istore_n rfl (show (3 : Nat) < 7 from by decide) ?_
  refine x_iconst rfl ?_
  refine x_istore rfl (show (4 : Nat) < 7 from by decide) ?_
  refine zwp_mono (xs_93o ((hfr 114 (by decide)).trans h114) hds (sfar_rg (sRW_sok hr)) 8 0 _ rfl (xst_ne (by decide) (xst_ne (by decide) rfl (Or.inl rfl)) (Or.inl rfl)) (xst_ne (by decide) xst_eq (Or.inl rfl)) xst_eq) ?_
  intro o X' hq
  obtain ⟨r9, f9, e1, e2, e3, rfl⟩ := hq
  exact ⟨r9, f9, e1, e2, e3, hds, hfr⟩
