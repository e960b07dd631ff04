/-! The model looks for the way home: its small methods. -/
/-- the next allowed call among the last j -/
def sfr (al : Nat → Bool) (n : Nat) : Nat → Int
  | 0 => -1
  | j + 1 => if al (n - 1 - j) = true then ((n - 1 - j : Nat) : Int) else sfr al n j
theorem sfr_rg (al : Nat → Bool) (n : Nat) : ∀ j, j ≤ n → -1 ≤ sfr al n j ∧ sfr al n j < (n : Nat) := by
  intro j
  induction j with
  | zero => intro _; exact ⟨by show (-1 : Int) ≤ -1; omega, by show (-1 : Int) < _; omega⟩
  | succ j ih =>
    intro h
    have := ih (by omega)
    simp only [sfr]
    split <;> omega
theorem xs_165l {v0 : Value} {xs : List Int32} {u : Nat × Nat} {f : Nat → zE} {fs : List Value} {n : Nat} {al : Nat → Bool} {bl : List Int} (h177 : f 177 = .inl (10, fs)) (h9 : fs[9]? = some (xi (n : Nat))) (h35 : fs[35]? = some (.ref 198)) (hn : n ≤ 12) (h198 : f 198 = xr 2 bl) (hbl : bl.length = 12) (hb : ∀ i, i < 12 → bl.getD i 0 = if al i = true then 1 else 0) {c : Nat} (hc : c ≤ 13) : ∀ (w j : Nat) (lv : zL), w + j = n - c → zlv lv 0 = some (.ref 177) → zlv lv 1 = some (xi (c : Nat)) → zlv lv 2 = some (xi (sfr al n j)) → zlv lv 3 = some (xi ((n : Nat) - 1 - (j : Nat))) → xz v0 xs u (fun o X => ∃ r' f', o = .inl r' ∧ X = (xh f', u) ∧ (fun r' f' => r' = some (xi (sfr al n (n - c))) ∧ f' = f) r' f') 165 9 lv [] f := by
  intro w
  induction w with
  | zero =>
    intro j lv hw l0 l1 l2 l3
    have ej : j = n - c := by omega
    subst ej
    refine x_iload_n rfl l3 ?_
    refine x_iload_n rfl l1 ?_
    refine x_clt (t := 35) rfl rfl ⟨by omega, by omega⟩ ⟨by omega, by omega⟩ (fun _ => ?_) (fun h => absurd h (by omega))
    refine x_iload_n rfl l2 ?_
    exact x_ireturn rfl (Or.inl rfl) ⟨_, _, rfl, rfl, rfl, rfl⟩
  | succ w ih =>
    intro j lv hw l0 l1 l2 l3
    have hbk := hb (n - 1 - j) (by omega)
    rw [show ((n : Nat) : Int) - 1 - (j : Nat) = ((n - 1 - j : Nat) : Int) by omega] at l3
    refine x_iload_n rfl l3 ?_
    refine x_iload_n rfl l1 ?_
    refine x_clt (t := 35) rfl rfl ⟨by omega, by omega⟩ ⟨by omega, by omega⟩ (fun h => absurd h (by omega)) (fun _ => ?_)
    refine x_dia (sfr al n (j + 1)) 28 (fun k => ?_) ?_
    · refine x_aload_n rfl l0 ?_
      refine x_getfield rfl (by decide) h177 h35 ?_
      refine x_iload_n rfl l3 ?_
      refine x_baload rfl (by decide) h198 ⟨by omega, by omega⟩ (by omega) ?_
      rw [Int.toNat_natCast, hbk]
      by_cases ha : al (n - 1 - j) = true
      · rw [if_pos ha]
        refine x_ifeq (t := 27) rfl rfl (by decide) (fun h => absurd h (by decide)) (fun _ => ?_)
        refine x_iload_n rfl l3 ?_
        refine x_goto (t := 28) rfl rfl ?_
        rw [show sfr al n (j + 1) = ((n - 1 - j : Nat) : Int) from if_pos ha] at k
        exact k
      · rw [if_neg ha]
        refine x_ifeq (t := 27) rfl rfl (by decide) (fun _ => ?_) (fun h => absurd rfl h)
        refine x_iload_n rfl l2 ?_
        rw [show sfr al n (j + 1) = sfr al n j from if_neg ha] at k
        exact k
    refine x_istore_n rfl (show (2 : Nat) < 4 from by decide) ?_
    refine x_iinc rfl (xst_ne (by decide) l3 (Or.inl rfl)) (show (3 : Nat) < 4 from by decide) ?_
    refine x_goto (t := 9) rfl rfl ?_
    refine ih (j + 1) _ (by omega) (xst_ne (by decide) (xst_ne (by decide) l0 (Or.inl rfl)) (Or.inl rfl)) (xst_ne (by decide) (xst_ne (by decide) l1 (Or.inl rfl)) (Or.inl rfl)) (xst_ne (by decide) xst_eq (Or.inl rfl)) ?_
    rw [show ((n : Nat) : Int) - 1 - ((j + 1 : Nat) : Int) = ((n - 1 - j : Nat) : Int) + -1 by omega]
    exact xst_eq
theorem xs_165 {v0 : Value} {xs : List Int32} {u : Nat × Nat} {f : Nat → zE} {fs : List Value} {n : Nat} {al : Nat → Bool} {bl : List Int} (h177 : f 177 = .inl (10, fs)) (h9 : fs[9]? = some (xi (n : Nat))) (h35 : fs[35]? = some (.ref 198)) (hn : n ≤ 12) (h198 : f 198 = xr 2 bl) (hbl : bl.length = 12) (hb : ∀ i, i < 12 → bl.getD i 0 = if al i = true then 1 else 0) {c : Nat} (hc : c ≤ 13) : xq v0 xs u 165 [(0, .ref 177), (1, xi (c : Nat))] f (fun r' f' => r' = some (xi (sfr al n (n - c))) ∧ f' = f) := by
  unfold xq
  refine x_iconst rfl ?_
  refine x_istore_n rfl (show (2 : Nat) < 4 from by decide) ?_
  refine x_aload_n rfl (xst_ne (by decide) rfl (Or.inl rfl)) ?_
  refine x_getfield rfl (by decide) h177 h9 ?_
  refine x_iconst rfl ?_
  refine x_isub rfl ?_
  refine x_istore_n rfl (show (3 : Nat) < 4 from by decide) ?_
  refine xs_165l h177 h9 h35 hn h198 hbl hb hc (n - c) 0 _ (by omega) (xst_ne (by decide) (xst_ne (by decide) rfl (Or.inl rfl)) (Or.inl rfl)) (xst_ne (by decide) (xst_ne (by decide) rfl (Or.inl rfl)) (Or.inl rfl)) (xst_ne (by decide) xst_eq (Or.inl rfl)) ?_
  rw [show ((n : Nat) : Int) - 1 - ((0 : Nat) : Int) = ((n : Nat) : Int) - 1 by omega]
  exact xst_eq
theorem xs_164l {v0 : Value} {xs : List Int32} {u : Nat × Nat} {f : Nat → zE} {fs : List Value} {sl : List Int} {k : Nat} {r : Nat → Int} (h177 : f 177 = .inl (10, fs)) (h39 : fs[39]? = some (.ref 201)) (h201 : f 201 = xr 0 sl) (hsl : sl.length = 40) (hk : k ≤ 4) (hr : ∀ d, d < 8 → sl.getD (8 * k + d) 0 = r d ∧ sok (r d)) : ∀ (w d : Nat) (lv : zL), w + d = 8 → zlv lv 0 = some (.ref 177) → zlv lv 1 = some (xi (k : Nat)) → zlv lv 2 = some (xi (if sall (fun d => r d == shome d) d = true then 1 else 0)) → zlv lv 3 = some (xi (d : Nat)) → xz v0 xs u (fun o X => ∃ r' f', o = .inl r' ∧ X = (xh f', u) ∧ (fun r' f' => r' = some (xi (if sall (fun d => r d == shome d) 8 = true then 1 else 0)) ∧ f' = f) r' f') 164 4 lv [] f := by
  intro w
  induction w with
  | zero =>
    intro d lv hw l0 l1 l2 l3
    have e8 : d = 8 := by omega
    subst e8
    refine x_iload_n rfl l3 ?_
    refine x_bipush rfl (by decide) ?_
    refine x_cge (t := 59) rfl rfl (by decide) (by decide) (fun _ => ?_) (fun h => absurd h (by decide))
    refine x_iload_n rfl l2 ?_
    exact x_ireturn rfl (Or.inr (Or.inl ⟨rfl, by split <;> decide⟩)) ⟨_, _, rfl, rfl, rfl, rfl⟩
  | succ w ih =>
    intro d lv hw l0 l1 l2 l3
    have hd : d < 8 := by omega
    obtain ⟨a1, a2⟩ := hr d hd
    have a3 : 0 ≤ r d ∧ r d < 400 := a2
    have b3 : 0 ≤ shome d ∧ shome d < 400 := shome_ok d
    have b6 := s_eq (shome d)
    have es : sall (fun d => r d == shome d) (d + 1) = (sall (fun d => r d == shome d) d && (r d == shome d)) := rfl
    refine x_iload_n rfl l3 ?_
    refine x_bipush rfl (by decide) ?_
    refine x_cge (t := 59) rfl rfl ⟨by omega, by omega⟩ (by decide) (fun h => absurd h (by omega)) (fun _ => ?_)
    refine x_dia (if sall (fun d => r d == shome d) (d + 1) = true then 1 else 0) 52 (fun kk => ?_) ?_
    · refine x_iload_n rfl l2 ?_
      by_cases hs : sall (fun d => r d == shome d) d = true
      · rw [if_pos hs]
        refine x_ifeq (t := 51) rfl rfl (by decide) (fun h => absurd h (by decide)) (fun _ => ?_)
        refine x_aload_n rfl l0 ?_
        refine x_getfield rfl (by decide) h177 h39 ?_
        refine x_bipush rfl (by decide) ?_
        refine x_iload_n rfl l1 ?_
        refine x_imul rfl ?_
        refine x_iload_n rfl l3 ?_
        refine x_iadd rfl ?_
        refine x_iaload rfl (by decide) h201 ⟨by omega, by omega⟩ (by omega) ?_
        rw [show (8 * ((k : Nat) : Int) + (d : Nat)).toNat = 8 * k + d by omega, a1]
        refine x_iconst rfl ?_
        refine x_bipush rfl (by decide) ?_
        refine x_iload_n rfl l3 ?_
        refine x_call [_] rfl rfl (show (3 : Nat) ≤ 8 from by decide) (show (1 : Nat) ≤ 1 from by decide) rfl (xs_14 hd) ?_
        intro r' f9 hP
        obtain ⟨rfl, hPe⟩ := hP
        subst f9
        refine x_imul rfl ?_
        refine x_iload_n rfl l3 ?_
        refine x_call [_] rfl rfl (show (3 : Nat) ≤ 8 from by decide) (show (1 : Nat) ≤ 1 from by decide) rfl (xs_13 hd) ?_
        intro r' f9 hP
        obtain ⟨rfl, hPe⟩ := hP
        subst f9
        refine x_iadd rfl ?_
        refine x_imul rfl ?_
        refine x_iload_n rfl l3 ?_
        refine x_call [_] rfl rfl (show (2 : Nat) ≤ 8 from by decide) (show (1 : Nat) ≤ 1 from by decide) rfl (xs_15 hd) ?_
        intro r' f9 hP
        obtain ⟨rfl, hPe⟩ := hP
        subst f9
        refine x_iadd rfl ?_
        rw [← b6]
        refine x_cne (t := 51) rfl rfl ⟨by omega, by omega⟩ ⟨by omega, by omega⟩ (fun h44 => ?_) (fun h44 => ?_)
        · refine x_iconst rfl ?_
          rw [if_neg (show ¬ sall (fun d => r d == shome d) (d + 1) = true by rw [es, beq_eq_false_iff_ne.mpr h44, Bool.and_false]; decide)] at kk
          exact kk
        · refine x_iconst rfl ?_
          refine x_goto (t := 52) rfl rfl ?_
          rw [if_pos (show sall (fun d => r d == shome d) (d + 1) = true by rw [es, hs, beq_iff_eq.mpr h44]; rfl)] at kk
          exact kk
      · rw [if_neg hs]
        refine x_ifeq (t := 51) rfl rfl (by decide) (fun _ => ?_) (fun h => absurd rfl h)
        refine x_iconst rfl ?_
        rw [if_neg (show ¬ sall (fun d => r d == shome d) (d + 1) = true by rw [es, bool_f hs, Bool.false_and]; decide)] at kk
        exact kk
    refine x_istore_n rfl (show (2 : Nat) < 4 from by decide) ?_
    refine x_iinc rfl (xst_ne (by decide) l3 (Or.inl rfl)) (show (3 : Nat) < 4 from by decide) ?_
    refine x_goto (t := 4) rfl rfl ?_
    exact ih (d + 1) _ (by omega) (xst_ne (by decide) (xst_ne (by decide) l0 (Or.inl rfl)) (Or.inl rfl)) (xst_ne (by decide) (xst_ne (by decide) l1 (Or.inl rfl)) (Or.inl rfl)) (xst_ne (by decide) xst_eq (Or.inl rfl)) xst_eq
theorem xs_164 {v0 : Value} {xs : List Int32} {u : Nat × Nat} {f : Nat → zE} {fs : List Value} {sl : List Int} {k : Nat} {r : Nat → Int} (h177 : f 177 = .inl (10, fs)) (h39 : fs[39]? = some (.ref 201)) (h201 : f 201 = xr 0 sl) (hsl : sl.length = 40) (hk : k ≤ 4) (hr : ∀ d, d < 8 → sl.getD (8 * k + d) 0 = r d ∧ sok (r d)) : xq v0 xs u 164 [(0, .ref 177), (1, xi (k : Nat))] f (fun r' f' => r' = some (xi (if sall (fun d => r d == shome d) 8 = true then 1 else 0)) ∧ f' = f) := by
  unfold xq
  refine x_iconst rfl ?_
  refine x_istore_n rfl (show (2 : Nat) < 4 from by decide) ?_
  refine x_iconst rfl ?_
  refine x_istore_n rfl (show (3 : Nat) < 4 from by decide) ?_
  exact xs_164l h177 h39 h201 hsl hk hr 8 0 _ rfl (xst_ne (by decide) (xst_ne (by decide) rfl (Or.inl rfl)) (Or.inl rfl)) (xst_ne (by decide) (xst_ne (by decide) rfl (Or.inl rfl)) (Or.inl rfl)) (xst_ne (by decide) xst_eq (Or.inl rfl)) xst_eq
theorem xs_166a {v0 : Value} {xs : List Int32} {u : Nat × Nat} {Q : zO → zX → Prop} {f0 : Nat → zE} {fs : List Value} {ca dn cl : Int} {sl : List Int} {k : Nat} {r : Nat → Int} (hB : sMB f0 fs ca dn cl) (h39 : fs[39]? = some (.ref 201)) (h201 : f0 201 = xr 0 sl) (hsl : sl.length = 40) (hk : k ≤ 3) (hr : ∀ d, d < 8 → sl.getD (8 * k + d) 0 = r d ∧ sok (r d))
    (hkk : ∀ (lv : zL) (f : Nat → zE), zlv lv 0 = some (.ref 177) → zlv lv 1 = some (xi (k : Nat)) → (∃ ax ay af : List Int, sMC f ax ay af ∧ ∀ e, e < 8 → sMP ax ay af ((e : Nat) : Int) (r e)) → (∀ q, q ≠ 192 → q ≠ 193 → q ≠ 194 → f q = f0 q) → xz v0 xs u Q 166 30 lv [] f) : ∀ (w d : Nat) (lv : zL) (f : Nat → zE), w + d = 8 → zlv lv 0 = some (.ref 177) → zlv lv 1 = some (xi (k : Nat)) → zlv lv 2 = some (xi (d : Nat)) → (∃ ax ay af : List Int, sMC f ax ay af ∧ ∀ e, e < d → sMP ax ay af ((e : Nat) : Int) (r e)) → (∀ q, q ≠ 192 → q ≠ 193 → q ≠ 194 → f q = f0 q) → xz v0 xs u Q 166 2 lv [] f := by
  have hB0 := hB
  obtain ⟨⟨h177, hfl, ⟨f11, f13, f14, f15, f17, f18⟩, h25, h26, h27⟩, ⟨a1, a2, a3, a4, a5, a6⟩, h9, h31, h30⟩ := hB
  intro w
  induction w with
  | zero =>
    intro d lv f hw l0 l1 l2 hrow hfr
    have e8 : d = 8 := by omega
    subst e8
    refine x_iload_n rfl l2 ?_
    refine x_bipush rfl (by decide) ?_
    refine x_cge (t := 30) rfl rfl (by decide) (by decide) (fun _ => ?_) (fun h => absurd h (by decide))
    exact hkk lv f l0 l1 hrow hfr
  | succ w ih =>
    intro d lv f hw l0 l1 l2 hrow hfr
    obtain ⟨ax, ay, af, hmc, hrow⟩ := hrow
    have hd : d < 8 := by omega
    obtain ⟨r1, r2⟩ := hr d hd
    have hB2 := sMB_f hB0 (f' := f) (hfr 177 (by decide) (by decide) (by decide))
    refine x_iload_n rfl l2 ?_
    refine x_bipush rfl (by decide) ?_
    refine x_cge (t := 30) rfl rfl ⟨by omega, by omega⟩ (by decide) (fun h => absurd h (by omega)) (fun _ => ?_)
    refine x_aload_n rfl l0 ?_
    refine x_iload_n rfl l2 ?_
    refine x_aload_n rfl l0 ?_
    refine x_getfield rfl (by decide) ((hfr 177 (by decide) (by decide) (by decide)).trans h177) h39 ?_
    refine x_bipush rfl (by decide) ?_
    refine x_iload_n rfl l1 ?_
    refine x_imul rfl ?_
    refine x_iload_n rfl l2 ?_
    refine x_iadd rfl ?_
    refine x_iaload rfl (by decide) ((hfr 201 (by decide) (by decide) (by decide)).trans h201) ⟨by omega, by omega⟩ (by omega) ?_
    rw [show (8 * ((k : Nat) : Int) + (d : Nat)).toNat = 8 * k + d by omega, r1]
    refine x_call [_, _, _] rfl rfl (show (0 : Nat) ≤ 8 from by decide) (show (3 : Nat) ≤ 3 from by decide) (x_rcv (by decide) ((hfr 177 (by decide) (by decide) (by decide)).trans h177)) (xs_133 hB2 hmc hd r2) ?_
    intro r' f1 hP
    obtain ⟨rfl, hmc1, hfr1⟩ := hP
    refine x_iinc rfl l2 (show (2 : Nat) < 5 from by decide) ?_
    refine x_goto (t := 2) rfl rfl ?_
    refine ih (d + 1) _ _ (by omega) (xst_ne (by decide) l0 (Or.inl rfl)) (xst_ne (by decide) l1 (Or.inl rfl)) xst_eq ⟨_, _, _, hmc1, sMP_set (n := 8) hmc.2.2.2 (by omega) hrow rfl rfl rfl⟩ (fun q b1 b2 b3 => (hfr1 q b1 b2 b3).trans (hfr q b1 b2 b3))
theorem xs_166b {v0 : Value} {xs : List Int32} {u : Nat × Nat} {f0 : Nat → zE} {fs : List Value} {ax ay af sl : List Int} {k Lc : Nat} (h177 : f0 177 = .inl (10, fs)) (h25 : fs[25]? = some (.ref 192)) (h26 : fs[26]? = some (.ref 193)) (h27 : fs[27]? = some (.ref 194)) (h39 : fs[39]? = some (.ref 201)) (hmc : sMC f0 ax ay af) (h201 : f0 201 = xr 0 sl) (hsl : sl.length = 40) (hk : k ≤ 3) (hL : Lc ≤ 16) : ∀ (w d : Nat) (lv : zL) (f : Nat → zE) (s2 : List Int), w + d = 8 → zlv lv 0 = some (.ref 177) → zlv lv 1 = some (xi (k : Nat)) → zlv lv 3 = some (xi (8 * (Lc : Nat))) → zlv lv 4 = some (xi (d : Nat)) → f 201 = xr 0 s2 → s2.length = 40 → (∀ i, i < 8 * k + 8 → s2.getD i 0 = sl.getD i 0) → (∀ e, e < d → s2.getD (8 * k + 8 + e) 0 = 4 * (10 * ay.getD (8 * (Lc : Nat) + (e : Nat) : Int).toNat 0 + ax.getD (8 * (Lc : Nat) + (e : Nat) : Int).toNat 0) + af.getD (8 * (Lc : Nat) + (e : Nat) : Int).toNat 0) → (∀ q, q ≠ 201 → f q = f0 q) → xz v0 xs u (fun o X => ∃ r' f', o = .inl r' ∧ X = (xh f', u) ∧ (fun r' f' => r' = some (xi 1) ∧ (∃ s2 : List Int, f' 201 = xr 0 s2 ∧ s2.length = 40 ∧ (∀ i, i < 8 * k + 8 → s2.getD i 0 = sl.getD i 0) ∧ ∀ e, e < 8 → s2.getD (8 * k + 8 + e) 0 = 4 * (10 * ay.getD (8 * (Lc : Nat) + (e : Nat) : Int).toNat 0 + ax.getD (8 * (Lc : Nat) + (e : Nat) : Int).toNat 0) + af.getD (8 * (Lc : Nat) + (e : Nat) : Int).toNat 0) ∧ ∀ q, q ≠ 201 → f' q = f0 q) r' f') 166 61 lv [] f := by
  obtain ⟨c1, c2, c3, y1, y2, y3⟩ := id hmc
  intro w
  induction w with
  | zero =>
    intro d lv f s2 hw l0 l1 l3 l4 g201 gl hold hnew hfr
    have e8 : d = 8 := by omega
    subst e8
    refine x_iload rfl l4 ?_
    refine x_bipush rfl (by decide) ?_
    refine x_cge (t := 123) rfl rfl (by decide) (by decide) (fun _ => ?_) (fun h => absurd h (by decide))
    refine x_iconst rfl ?_
    exact x_ireturn rfl (Or.inr (Or.inl ⟨rfl, by decide⟩)) ⟨_, _, rfl, rfl, rfl, ⟨s2, g201, gl, hold, hnew⟩, hfr⟩
  | succ w ih =>
    intro d lv f s2 hw l0 l1 l3 l4 g201 gl hold hnew hfr
    have hd : d < 8 := by omega
    refine x_iload rfl l4 ?_
    refine x_bipush rfl (by decide) ?_
    refine x_cge (t := 123) rfl rfl ⟨by omega, by omega⟩ (by decide) (fun h => absurd h (by omega)) (fun _ => ?_)
    refine x_aload_n rfl l0 ?_
    refine x_getfield rfl (by decide) ((hfr 177 (by decide)).trans h177) h39 ?_
    refine x_bipush rfl (by decide) ?_
    refine x_iload_n rfl l1 ?_
    refine x_imul rfl ?_
    refine x_bipush rfl (by decide) ?_
    refine x_iadd rfl ?_
    refine x_iload rfl l4 ?_
    refine x_iadd rfl ?_
    refine x_iconst rfl ?_
    refine x_bipush rfl (by decide) ?_
    refine x_aload_n rfl l0 ?_
    refine x_getfield rfl (by decide) ((hfr 177 (by decide)).trans h177) h26 ?_
    refine x_iload_n rfl l3 ?_
    refine x_iload rfl l4 ?_
    refine x_iadd rfl ?_
    refine x_iaload rfl (by decide) ((hfr 193 (by decide)).trans c2) ⟨by omega, by omega⟩ (by omega) ?_
    refine x_imul rfl ?_
    refine x_aload_n rfl l0 ?_
    refine x_getfield rfl (by decide) ((hfr 177 (by decide)).trans h177) h25 ?_
    refine x_iload_n rfl l3 ?_
    refine x_iload rfl l4 ?_
    refine x_iadd rfl ?_
    refine x_iaload rfl (by decide) ((hfr 192 (by decide)).trans c1) ⟨by omega, by omega⟩ (by omega) ?_
    refine x_iadd rfl ?_
    refine x_imul rfl ?_
    refine x_aload_n rfl l0 ?_
    refine x_getfield rfl (by decide) ((hfr 177 (by decide)).trans h177) h27 ?_
    refine x_iload_n rfl l3 ?_
    refine x_iload rfl l4 ?_
    refine x_iadd rfl ?_
    refine x_iaload rfl (by decide) ((hfr 194 (by decide)).trans c3) ⟨by omega, by omega⟩ (by omega) ?_
    refine x_iadd rfl ?_
    refine x_iastore rfl (by decide) g201 ⟨by omega, by omega⟩ (by omega) ?_
    refine x_iinc rfl l4 (show (4 : Nat) < 5 from by decide) ?_
    refine x_goto (t := 61) rfl rfl ?_
    rw [show (8 * ((k : Nat) : Int) + 8 + (d : Nat)).toNat = 8 * k + 8 + d by omega]
    refine ih (d + 1) _ _ _ (by omega) (xst_ne (by decide) l0 (Or.inl rfl)) (xst_ne (by decide) l1 (Or.inl rfl)) (xst_ne (by decide) l3 (Or.inl rfl)) xst_eq xu_eq (by rw [List.length_set]; exact gl) (fun i hi => ?_) (fun e he => ?_) (fun q b1 => xu_ne b1 (hfr q b1))
    · rw [x_gset, if_neg (by omega)]
      exact hold i hi
    · rw [x_gset]
      by_cases h2 : d = e
      · subst h2
        rw [if_pos ⟨rfl, by omega⟩]
      · rw [if_neg (by omega)]
        exact hnew e (by omega)
set_option maxRecDepth 20000 in
theorem xs_166 {v0 : Value} {xs : List Int32} {u : Nat × Nat} {f : Nat → zE} {fs : List Value} {ca dn cl : Int} {K : List (Int × Int)} {G : List xBt} {ax ay af tl sl : List Int} {k c : Nat} {r : Nat → Int} (hB : sMB f fs ca dn cl) (h38 : fs[38]? = some (.ref 200)) (h39 : fs[39]? = some (.ref 201)) (hmc : sMC f ax ay af) (hKM : sKM f K c G) (hG : sGok K G) (h200 : f 200 = xr 0 tl) (htl : tl.length = 5) (hk : k ≤ 3) (ht : tl.getD k 0 = (c : Nat)) (h201 : f 201 = xr 0 sl) (hsl : sl.length = 40) (hr : ∀ d, d < 8 → sl.getD (8 * k + d) 0 = r d ∧ sok (r d)) : xq v0 xs u 166 [(0, .ref 177), (1, xi (k : Nat))] f (fun r' f' => r' = some (xi (if sres (sbt K G) false r (sbt K G).length = 0 then 1 else 0)) ∧ (∃ fs' : List Value, sMO f' fs' ∧ ∀ j, j ≠ 28 → j ≠ 29 → fs'[j]? = fs[j]?) ∧ (∃ ax ay af : List Int, sMC f' ax ay af) ∧ (∃ s2 : List Int, f' 201 = xr 0 s2 ∧ s2.length = 40 ∧ (∀ i, i < 8 * k + 8 → s2.getD i 0 = sl.getD i 0) ∧ (sres (sbt K G) false r (sbt K G).length = 0 → ∀ d, d < 8 → s2.getD (8 * k + 8 + d) 0 = srow (sbt K G) false r (sbt K G).length d ∧ sok (srow (sbt K G) false r (sbt K G).length d))) ∧ ∀ q, q ≠ 177 → ¬ (192 ≤ q ∧ q ≤ 194) → q ≠ 201 → f' q = f q) := by
  unfold xq
  have hla := hG.1
  have hlA : (sbt K G).length ≤ 16 := by rw [sbt_len]; exact hla
  refine x_iconst rfl ?_
  refine x_istore_n rfl (show (2 : Nat) < 5 from by decide) ?_
  refine xs_166a hB h39 h201 hsl hk hr (fun lv f1 m0 m1 hrow hfr1 => ?_) 8 0 _ f rfl (xst_ne (by decide) rfl (Or.inl rfl)) (xst_ne (by decide) rfl (Or.inl rfl)) xst_eq ⟨ax, ay, af, hmc, fun e he => absurd he (Nat.not_lt_zero e)⟩ (fun _ _ _ _ => rfl)
  obtain ⟨ax1, ay1, af1, hmc1, hrow⟩ := hrow
  have hB1 := sMB_f hB (f' := f1) (hfr1 177 (by decide) (by decide) (by decide))
  have hmo1 : sMO f1 fs := hB1.1
  have hml1 : sML ax1 ay1 af1 0 r := sML_of hrow fun d hd => (hr d hd).2
  have hKM1 : sKM f1 K c G := sKM_f hKM fun q b1 b2 => hfr1 q (by omega) (by omega) (by omega)
  refine x_aload_n rfl m0 ?_
  refine x_getfield rfl (by decide) hmo1.1 h38 ?_
  refine x_iload_n rfl m1 ?_
  refine x_iaload rfl (by decide) ((hfr1 200 (by decide) (by decide) (by decide)).trans h200) ⟨by omega, by omega⟩ (by omega) ?_
  rw [Int.toNat_natCast, ht]
  refine x_istore_n rfl (show (2 : Nat) < 5 from by decide) ?_
  refine x_aload_n rfl (xst_ne (by decide) m0 (Or.inl rfl)) ?_
  refine x_iload_n rfl xst_eq ?_
  refine x_iconst rfl ?_
  refine x_call [_, _, _] rfl rfl (show (0 : Nat) ≤ 8 from by decide) (show (3 : Nat) ≤ 10 from by decide) (x_rcv (by decide) hmo1.1) (xs_122 (back := false) hKM1 hG hmo1 hmc1 hml1) (fun r' f2 hP => ?_)
  obtain ⟨rfl, ⟨fs2, hmo2, hfs2, -⟩, ⟨ax2, ay2, af2, hmc2, hml2⟩, hfr2⟩ := hP
  rw [show G.length = (sbt K G).length from (sbt_len K G).symm] at hml2 ⊢
  have h201' : f2 201 = xr 0 sl := (hfr2 201 (by decide) (by decide) (by decide) (by decide)).trans ((hfr1 201 (by decide) (by decide) (by decide)).trans h201)
  have hff : ∀ q, q ≠ 177 → ¬ (192 ≤ q ∧ q ≤ 194) → f2 q = f q := fun q b1 b2 => (hfr2 q b1 (by omega) (by omega) (by omega)).trans (hfr1 q (by omega) (by omega) (by omega))
  obtain ⟨i177, ifl, ⟨i11, -, -, -, -, -⟩, i25, i26, i27⟩ := id hmo2
  have i39 : fs2[39]? = some (.ref 201) := (hfs2 39 (by decide) (by decide)).trans h39
  by_cases hz : sres (sbt K G) false r (sbt K G).length = 0
  rotate_left
  · rw [if_neg hz]
    refine x_ifne (t := 48) rfl rfl (by decide) (fun h => absurd rfl h) (fun _ => ?_)
    refine x_iconst rfl ?_
    exact x_ireturn rfl (Or.inr (Or.inl ⟨rfl, by decide⟩)) ⟨_, _, rfl, rfl, rfl, ⟨fs2, hmo2, hfs2⟩, ⟨ax2, ay2, af2, hmc2⟩, ⟨sl, h201', hsl, fun _ _ => rfl, fun h => absurd h hz⟩, fun q b1 b2 b3 => hff q b1 b2⟩
  rw [if_pos hz]
  refine x_ifne (t := 48) rfl rfl (by decide) (fun _ => ?_) (fun h => absurd h (by decide))
  have hKM2 : sKM f2 K c G := sKM_f hKM fun q b1 b2 => hff q (by omega) (by omega)
  obtain ⟨hc12, cn, tk, pf, pq, se, at', k180, -, -, -, -, -, ⟨kl, -⟩, hcnt, -⟩ := hKM2
  rw [show G.length = (sbt K G).length from (sbt_len K G).symm] at hcnt
  refine x_bipush rfl (by decide) ?_
  refine x_aload_n rfl (xst_ne (by decide) m0 (Or.inl rfl)) ?_
  refine x_getfield rfl (by decide) i177 i11 ?_
  refine x_iload_n rfl xst_eq ?_
  refine x_iaload rfl (by decide) k180 ⟨by omega, by omega⟩ (by omega) ?_
  rw [Int.toNat_natCast, hcnt]
  refine x_imul rfl ?_
  refine x_istore_n rfl (show (3 : Nat) < 5 from by decide) ?_
  refine x_iconst rfl ?_
  refine x_istore rfl (show (4 : Nat) < 5 from by decide) ?_
  refine zwp_mono (xs_166b i177 i25 i26 i27 i39 hmc2 h201' hsl hk hlA 8 0 _ f2 sl rfl (xst_ne (by decide) (xst_ne (by decide) (xst_ne (by decide) m0 (Or.inl rfl)) (Or.inl rfl)) (Or.inl rfl)) (xst_ne (by decide) (xst_ne (by decide) (xst_ne (by decide) m1 (Or.inl rfl)) (Or.inl rfl)) (Or.inl rfl)) (xst_ne (by decide) xst_eq (Or.inl rfl)) xst_eq h201' hsl (fun _ _ => rfl) (fun e he => absurd he (Nat.not_lt_zero e)) (fun _ _ => rfl)) ?_
  rintro o X' ⟨r9, f9, e1, e2, e3, ⟨s2, g1, g2, g3, g4⟩, e5⟩
  refine ⟨r9, f9, e1, e2, e3, ⟨fs2, ⟨(e5 177 (by decide)).trans i177, hmo2.2⟩, hfs2⟩, ⟨ax2, ay2, af2, (e5 192 (by decide)).trans hmc2.1, (e5 193 (by decide)).trans hmc2.2.1, (e5 194 (by decide)).trans hmc2.2.2.1, hmc2.2.2.2⟩, ⟨s2, g1, g2, g3, fun _ d hd => ?_⟩, fun q b1 b2 b3 => (e5 q b3).trans (hff q b1 b2)⟩
  obtain ⟨⟨b1, b2, b3⟩, b4⟩ := (hml2 hz _ (Nat.le_refl _)).2.2 d hd
  refine ⟨?_, b4⟩
  rw [g4 d hd, b1, b2, b3]
  exact (s_eq _).symm
