/-! Same: the model. -/
theorem shomeT_xyf {t : Int} (d : Nat) (ht : 0 ≤ t ∧ t ≤ 3) : sX (shomeT t d) = sX (shome d) ∧ sY (shomeT t d) = sY (shome d) ∧ sF (shomeT t d) = (sF (shome d) + t) % 4 := by
  have h := shome_ok d
  unfold sok at h
  unfold shomeT sX sY sF
  refine ⟨?_, ?_, ?_⟩ <;> omega
theorem xs_175l {v0 : Value} {xs : List Int32} {u : Nat × Nat} {f0 : Nat → zE} {fs : List Value} {t : Int} (h177 : f0 177 = .inl (10, fs)) (h25 : fs[25]? = some (.ref 192)) (h26 : fs[26]? = some (.ref 193)) (h27 : fs[27]? = some (.ref 194)) (ht : 0 ≤ t ∧ t ≤ 3) : ∀ (w d : Nat) (lv : zL) (f : Nat → zE), w + d = 8 → zlv lv 0 = some (.ref 177) → zlv lv 1 = some (xi t) → zlv lv 2 = some (xi (d : Nat)) → (∃ ax ay af : List Int, sMC f ax ay af ∧ ∀ e, e < d → sMP ax ay af ((e : Nat) : Int) (shomeT t e)) → (∀ q, q ≠ 192 → q ≠ 193 → q ≠ 194 → f q = f0 q) → xz v0 xs u (fun o X => ∃ r' f', o = .inl r' ∧ X = (xh f', u) ∧ (fun r' f' => r' = none ∧ (∃ ax ay af : List Int, sMC f' ax ay af ∧ sML ax ay af 0 (shomeT t)) ∧ (∀ q, q ≠ 192 → q ≠ 193 → q ≠ 194 → f' q = f0 q)) r' f') 175 2 lv [] f := by
  intro w
  induction w with
  | zero =>
    intro d lv f hw l0 l1 l2 hrow hfr
    have e8 : d = 8 := by omega
    subst e8
    obtain ⟨ax, ay, af, hmc, hrow⟩ := hrow
    refine x_iload_n rfl l2 ?_
    refine x_bipush rfl (by decide) ?_
    refine x_cge (t := 48) rfl rfl (by decide) (by decide) (fun _ => ?_) (fun h => absurd h (by decide))
    exact x_return rfl ⟨_, _, rfl, rfl, rfl, ⟨ax, ay, af, hmc, sML_of hrow fun d _ => shomeT_ok d ht⟩, hfr⟩
  | succ w ih =>
    intro d lv f hw l0 l1 l2 hrow hfr
    obtain ⟨ax, ay, af, hmc, hrow⟩ := hrow
    have hd : d < 8 := by omega
    obtain ⟨e1, e2, e3⟩ := shomeT_xyf d ht
    have hsf := sF_rg (shome d)
    obtain ⟨y1, y2, y3⟩ := id hmc.2.2.2
    refine x_iload_n rfl l2 ?_
    refine x_bipush rfl (by decide) ?_
    refine x_cge (t := 48) rfl rfl ⟨by omega, by omega⟩ (by decide) (fun h => absurd h (by omega)) (fun _ => ?_)
    refine x_aload_n rfl l0 ?_
    refine x_getfield rfl (by decide) ((hfr 177 (by decide) (by decide) (by decide)).trans h177) h25 ?_
    refine x_iload_n rfl l2 ?_
    refine x_iload_n rfl l2 ?_
    refine x_call [_] rfl rfl (show (2 : Nat) ≤ 8 from by decide) (show (1 : Nat) ≤ 1 from by decide) rfl (xs_13 hd) ?_
    intro r' f9 hP
    obtain ⟨rfl, hPe⟩ := hP
    subst f9
    refine x_iastore rfl (by decide) hmc.1 ⟨by omega, by omega⟩ (by omega) ?_
    refine x_aload_n rfl l0 ?_
    refine x_getfield rfl (by decide) (xu_ne (by decide) ((hfr 177 (by decide) (by decide) (by decide)).trans h177)) h26 ?_
    refine x_iload_n rfl l2 ?_
    refine x_iload_n rfl l2 ?_
    refine x_call [_] rfl rfl (show (2 : Nat) ≤ 8 from by decide) (show (1 : Nat) ≤ 1 from by decide) rfl (xs_14 hd) ?_
    intro r' f9 hP
    obtain ⟨rfl, hPe⟩ := hP
    subst f9
    refine x_iastore rfl (by decide) (xu_ne (by decide) hmc.2.1) ⟨by omega, by omega⟩ (by omega) ?_
    refine x_aload_n rfl l0 ?_
    refine x_getfield rfl (by decide) (xu_ne (by decide) (xu_ne (by decide) ((hfr 177 (by decide) (by decide) (by decide)).trans h177))) h27 ?_
    refine x_iload_n rfl l2 ?_
    refine x_iload_n rfl l2 ?_
    refine x_call [_] rfl rfl (show (2 : Nat) ≤ 8 from by decide) (show (1 : Nat) ≤ 1 from by decide) rfl (xs_15 hd) ?_
    intro r' f9 hP
    obtain ⟨rfl, hPe⟩ := hP
    subst f9
    refine x_iload_n rfl l1 ?_
    refine x_iadd rfl ?_
    refine x_iconst rfl ?_
    refine x_irem rfl ⟨by omega, by omega⟩ (by decide) ?_
    refine x_iastore rfl (by decide) (xu_ne (by decide) (xu_ne (by decide) hmc.2.2.1)) ⟨by omega, by omega⟩ (by omega) ?_
    refine x_iinc rfl l2 (show (2 : Nat) < 3 from by decide) ?_
    refine x_goto (t := 2) rfl rfl ?_
    refine ih (d + 1) _ _ (by omega) (xst_ne (by decide) l0 (Or.inl rfl)) (xst_ne (by decide) l1 (Or.inl rfl)) xst_eq ⟨_, _, _, ⟨(xu_ne (by decide) (xu_ne (by decide) xu_eq)), (xu_ne (by decide) xu_eq), xu_eq, by rw [List.length_set]; exact y1, by rw [List.length_set]; exact y2, by rw [List.length_set]; exact y3⟩, ?_⟩ (fun q b1 b2 b3 => xu_ne b3 (xu_ne b2 (xu_ne b1 (hfr q b1 b2 b3))))
    rw [Int.toNat_natCast]
    exact sMP_set (n := 8) hmc.2.2.2 (by omega) hrow e1.symm e2.symm e3.symm
theorem xs_175 {v0 : Value} {xs : List Int32} {u : Nat × Nat} {f0 : Nat → zE} {fs : List Value} {t : Int} (h177 : f0 177 = .inl (10, fs)) (h25 : fs[25]? = some (.ref 192)) (h26 : fs[26]? = some (.ref 193)) (h27 : fs[27]? = some (.ref 194)) (ht : 0 ≤ t ∧ t ≤ 3) {ax ay af : List Int} (hmc : sMC f0 ax ay af) : xq v0 xs u 175 [(0, .ref 177), (1, xi t)] f0 (fun r' f' => r' = none ∧ (∃ ax ay af : List Int, sMC f' ax ay af ∧ sML ax ay af 0 (shomeT t)) ∧ (∀ q, q ≠ 192 → q ≠ 193 → q ≠ 194 → f' q = f0 q)) := by
  unfold xq
  refine x_iconst rfl ?_
  refine x_istore_n rfl (show (2 : Nat) < 3 from by decide) ?_
  exact xs_175l h177 h25 h26 h27 ht 8 0 _ _ rfl (xst_ne (by decide) rfl (Or.inl rfl)) (xst_ne (by decide) rfl (Or.inl rfl)) xst_eq ⟨ax, ay, af, hmc, fun e he => absurd he (Nat.not_lt_zero _)⟩ (fun _ _ _ _ => rfl)
theorem xs_176k {v0 : Value} {xs : List Int32} {u : Nat × Nat} {Q : zO → zX → Prop} {f0 : Nat → zE} {fs : List Value} {ax ay af cn : List Int} {a L : Nat} (h177 : f0 177 = .inl (10, fs)) (f11 : fs[11]? = some (.ref 180)) (h25 : fs[25]? = some (.ref 192)) (h26 : fs[26]? = some (.ref 193)) (h27 : fs[27]? = some (.ref 194)) (h40 : fs[40]? = some (.ref 202)) (h180 : f0 180 = xr 0 cn) (hcl : cn.length = 13) (ha : a < 12) (hcn : cn.getD a 0 = (L : Nat)) (hL : L ≤ 16) (hmc : sMC f0 ax ay af) {i3 i4 i5 : Int} {b : Nat}
    (hk : ∀ (lv : zL) (f : Nat → zE) (kp : List Int), zlv lv 0 = some (.ref 177) → zlv lv 1 = some (xi (a : Nat)) → zlv lv 2 = some (xi (b : Nat)) → zlv lv 3 = some (xi i3) → zlv lv 4 = some (xi i4) → zlv lv 5 = some (xi i5) → f 202 = xr 0 kp → kp.length = 8 → (∀ e, e < 8 → kp.getD e 0 = 4 * (10 * ay.getD (8 * (L : Nat) + (e : Nat) : Int).toNat 0 + ax.getD (8 * (L : Nat) + (e : Nat) : Int).toNat 0) + af.getD (8 * (L : Nat) + (e : Nat) : Int).toNat 0) → (∀ q, q ≠ 202 → f q = f0 q) → xz v0 xs u Q 176 130 lv [] f) : ∀ (w d : Nat) (lv : zL) (f : Nat → zE) (kp : List Int), w + d = 8 → zlv lv 0 = some (.ref 177) → zlv lv 1 = some (xi (a : Nat)) → zlv lv 2 = some (xi (b : Nat)) → zlv lv 3 = some (xi i3) → zlv lv 4 = some (xi i4) → zlv lv 5 = some (xi i5) → zlv lv 6 = some (xi (d : Nat)) → f 202 = xr 0 kp → kp.length = 8 → (∀ e, e < d → kp.getD e 0 = 4 * (10 * ay.getD (8 * (L : Nat) + (e : Nat) : Int).toNat 0 + ax.getD (8 * (L : Nat) + (e : Nat) : Int).toNat 0) + af.getD (8 * (L : Nat) + (e : Nat) : Int).toNat 0) → (∀ q, q ≠ 202 → f q = f0 q) → xz v0 xs u Q 176 68 lv [] f := by
  obtain ⟨c1, c2, c3, y1, y2, y3⟩ := id hmc
  intro w
  induction w with
  | zero =>
    intro d lv f kp hw l0 l1 l2 l3 l4 l5 l6 g202 gl hv hfr
    have e8 : d = 8 := by omega
    subst e8
    refine x_iload rfl l6 ?_
    refine x_bipush rfl (by decide) ?_
    refine x_cge (t := 130) rfl rfl (by decide) (by decide) (fun _ => ?_) (fun h => absurd h (by decide))
    exact hk lv f kp l0 l1 l2 l3 l4 l5 g202 gl hv hfr
  | succ w ih =>
    intro d lv f kp hw l0 l1 l2 l3 l4 l5 l6 g202 gl hv hfr
    have hd : d < 8 := by omega
    refine x_iload rfl l6 ?_
    refine x_bipush rfl (by decide) ?_
    refine x_cge (t := 130) rfl rfl ⟨by omega, by omega⟩ (by decide) (fun h => absurd h (by omega)) (fun _ => ?_)
    refine x_bipush rfl (by decide) ?_
    refine x_aload_n rfl l0 ?_
    refine x_getfield rfl (by decide) ((hfr 177 (by decide)).trans h177) f11 ?_
    refine x_iload_n rfl l1 ?_
    refine x_iaload rfl (by decide) ((hfr 180 (by decide)).trans h180) ⟨by omega, by omega⟩ (by omega) ?_
    rw [Int.toNat_natCast, hcn]
    refine x_imul rfl ?_
    refine x_iload rfl l6 ?_
    refine x_iadd rfl ?_
    refine x_istore rfl (show (7 : Nat) < 9 from by decide) ?_
    refine x_aload_n rfl (xst_ne (by decide) l0 (Or.inl rfl)) ?_
    refine x_getfield rfl (by decide) ((hfr 177 (by decide)).trans h177) h40 ?_
    refine x_iload rfl (xst_ne (by decide) l6 (Or.inl rfl)) ?_
    refine x_iconst rfl ?_
    refine x_bipush rfl (by decide) ?_
    refine x_aload_n rfl (xst_ne (by decide) l0 (Or.inl rfl)) ?_
    refine x_getfield rfl (by decide) ((hfr 177 (by decide)).trans h177) h26 ?_
    refine x_iload rfl xst_eq ?_
    refine x_iaload rfl (by decide) ((hfr 193 (by decide)).trans c2) ⟨by omega, by omega⟩ (by omega) ?_
    refine x_imul rfl ?_
    refine x_aload_n rfl (xst_ne (by decide) l0 (Or.inl rfl)) ?_
    refine x_getfield rfl (by decide) ((hfr 177 (by decide)).trans h177) h25 ?_
    refine x_iload rfl xst_eq ?_
    refine x_iaload rfl (by decide) ((hfr 192 (by decide)).trans c1) ⟨by omega, by omega⟩ (by omega) ?_
    refine x_iadd rfl ?_
    refine x_imul rfl ?_
    refine x_aload_n rfl (xst_ne (by decide) l0 (Or.inl rfl)) ?_
    refine x_getfield rfl (by decide) ((hfr 177 (by decide)).trans h177) h27 ?_
    refine x_iload rfl xst_eq ?_
    refine x_iaload rfl (by decide) ((hfr 194 (by decide)).trans c3) ⟨by omega, by omega⟩ (by omega) ?_
    refine x_iadd rfl ?_
    refine x_iastore rfl (by decide) g202 ⟨by omega, by omega⟩ (by omega) ?_
    refine x_iinc rfl (xst_ne (by decide) l6 (Or.inl rfl)) (show (6 : Nat) < 9 from by decide) ?_
    refine x_goto (t := 68) rfl rfl ?_
    rw [Int.toNat_natCast]
    refine ih (d + 1) _ _ _ (by omega) (xst_ne (by decide) (xst_ne (by decide) l0 (Or.inl rfl)) (Or.inl rfl)) (xst_ne (by decide) (xst_ne (by decide) l1 (Or.inl rfl)) (Or.inl rfl)) (xst_ne (by decide) (xst_ne (by decide) l2 (Or.inl rfl)) (Or.inl rfl)) (xst_ne (by decide) (xst_ne (by decide) l3 (Or.inl rfl)) (Or.inl rfl)) (xst_ne (by decide) (xst_ne (by decide) l4 (Or.inl rfl)) (Or.inl rfl)) (xst_ne (by decide) (xst_ne (by decide) l5 (Or.inl rfl)) (Or.inl rfl)) xst_eq xu_eq (by rw [List.length_set]; exact gl) (fun e he => ?_) (fun q b1 => xu_ne b1 (hfr q b1))
    rw [x_gset]
    by_cases h2 : d = e
    · subst h2
      rw [if_pos ⟨rfl, by omega⟩]
    · rw [if_neg (fun h => h2 h.1)]
      exact hv e (by omega)
theorem xs_176c {v0 : Value} {xs : List Int32} {u : Nat × Nat} {Q : zO → zX → Prop} {f : Nat → zE} {fs : List Value} {ax ay af cn kp : List Int} {b L : Nat} {r1 r2 : Nat → Int} (h177 : f 177 = .inl (10, fs)) (f11 : fs[11]? = some (.ref 180)) (h25 : fs[25]? = some (.ref 192)) (h26 : fs[26]? = some (.ref 193)) (h27 : fs[27]? = some (.ref 194)) (h40 : fs[40]? = some (.ref 202)) (h180 : f 180 = xr 0 cn) (hcl : cn.length = 13) (hb : b < 12) (hcn : cn.getD b 0 = (L : Nat)) (hL : L ≤ 16) (hmc : sMC f ax ay af) (g202 : f 202 = xr 0 kp) (gl : kp.length = 8) (hr1 : ∀ e, e < 8 → kp.getD e 0 = r1 e ∧ sok (r1 e)) (hr2 : sML ax ay af (8 * (L : Nat)) r2) {i4 : Int} {a : Nat}
    (hk : ∀ (lv : zL), zlv lv 0 = some (.ref 177) → zlv lv 1 = some (xi (a : Nat)) → zlv lv 2 = some (xi (b : Nat)) → zlv lv 3 = some (xi (if sall (fun d => r1 d == r2 d) 8 = true then 1 else 0)) → zlv lv 4 = some (xi i4) → xz v0 xs u Q 176 240 lv [] f) : ∀ (w d : Nat) (lv : zL), w + d = 8 → zlv lv 0 = some (.ref 177) → zlv lv 1 = some (xi (a : Nat)) → zlv lv 2 = some (xi (b : Nat)) → zlv lv 3 = some (xi (if sall (fun d => r1 d == r2 d) d = true then 1 else 0)) → zlv lv 4 = some (xi i4) → zlv lv 5 = some (xi 1) → zlv lv 7 = some (xi (d : Nat)) → xz v0 xs u Q 176 160 lv [] f := by
  obtain ⟨c1, c2, c3, y1, y2, y3⟩ := id hmc
  intro w
  induction w with
  | zero =>
    intro d lv hw l0 l1 l2 l3 l4 l5 l7
    have e8 : d = 8 := by omega
    subst e8
    refine x_iload rfl l7 ?_
    refine x_bipush rfl (by decide) ?_
    refine x_cge (t := 240) rfl rfl (by decide) (by decide) (fun _ => ?_) (fun h => absurd h (by decide))
    exact hk lv l0 l1 l2 l3 l4
  | succ w ih =>
    intro d lv hw l0 l1 l2 l3 l4 l5 l7
    have hd : d < 8 := by omega
    have es : sall (fun d => r1 d == r2 d) (d + 1) = (sall (fun d => r1 d == r2 d) d && (r1 d == r2 d)) := rfl
    obtain ⟨a1, a2⟩ := hr1 d hd
    obtain ⟨⟨b1, b2, b3⟩, b4⟩ := hr2.2.2 d hd
    have a3 : 0 ≤ r1 d ∧ r1 d < 400 := a2
    have b5 : 0 ≤ r2 d ∧ r2 d < 400 := b4
    have b6 := s_eq (r2 d)
    refine x_iload rfl l7 ?_
    refine x_bipush rfl (by decide) ?_
    refine x_cge (t := 240) rfl rfl ⟨by omega, by omega⟩ (by decide) (fun h => absurd h (by omega)) (fun _ => ?_)
    refine x_iload rfl l5 ?_
    refine x_ifeq (t := 240) rfl rfl (by decide) (fun h => absurd h (by decide)) (fun _ => ?_)
    by_cases hs : sall (fun d => r1 d == r2 d) d = true
    rotate_left
    · rw [if_neg hs] at l3
      refine x_iload_n rfl l3 ?_
      refine x_ifeq (t := 240) rfl rfl (by decide) (fun _ => ?_) (fun h => absurd rfl h)
      refine hk lv l0 l1 l2 ?_ l4
      rw [sall_f (bool_f hs) (by omega)]
      exact l3
    rw [if_pos hs] at l3
    refine x_iload_n rfl l3 ?_
    refine x_ifeq (t := 240) rfl rfl (by decide) (fun h => absurd h (by decide)) (fun _ => ?_)
    refine x_bipush rfl (by decide) ?_
    refine x_aload_n rfl l0 ?_
    refine x_getfield rfl (by decide) h177 f11 ?_
    refine x_iload_n rfl l2 ?_
    refine x_iaload rfl (by decide) h180 ⟨by omega, by omega⟩ (by omega) ?_
    rw [Int.toNat_natCast, hcn]
    refine x_imul rfl ?_
    refine x_iload rfl l7 ?_
    refine x_iadd rfl ?_
    refine x_istore rfl (show (8 : Nat) < 9 from by decide) ?_
    refine x_dia (if sall (fun d => r1 d == r2 d) (d + 1) = true then 1 else 0) 233 (fun k => ?_) ?_
    · refine x_aload_n rfl (xst_ne (by decide) l0 (Or.inl rfl)) ?_
      refine x_getfield rfl (by decide) h177 h40 ?_
      refine x_iload rfl (xst_ne (by decide) l7 (Or.inl rfl)) ?_
      refine x_iaload rfl (by decide) g202 ⟨by omega, by omega⟩ (by omega) ?_
      rw [Int.toNat_natCast, a1]
      refine x_iconst rfl ?_
      refine x_bipush rfl (by decide) ?_
      refine x_aload_n rfl (xst_ne (by decide) l0 (Or.inl rfl)) ?_
      refine x_getfield rfl (by decide) h177 h26 ?_
      refine x_iload rfl xst_eq ?_
      refine x_iaload rfl (by decide) c2 ⟨by omega, by omega⟩ (by omega) ?_
      rw [b2]
      refine x_imul rfl ?_
      refine x_aload_n rfl (xst_ne (by decide) l0 (Or.inl rfl)) ?_
      refine x_getfield rfl (by decide) h177 h25 ?_
      refine x_iload rfl xst_eq ?_
      refine x_iaload rfl (by decide) c1 ⟨by omega, by omega⟩ (by omega) ?_
      rw [b1]
      refine x_iadd rfl ?_
      refine x_imul rfl ?_
      refine x_aload_n rfl (xst_ne (by decide) l0 (Or.inl rfl)) ?_
      refine x_getfield rfl (by decide) h177 h27 ?_
      refine x_iload rfl xst_eq ?_
      refine x_iaload rfl (by decide) c3 ⟨by omega, by omega⟩ (by omega) ?_
      rw [b3]
      refine x_iadd rfl ?_
      rw [← b6]
      refine x_cne (t := 232) rfl rfl ⟨by omega, by omega⟩ ⟨by omega, by omega⟩ (fun h225 => ?_) (fun h225 => ?_)
      · refine x_iconst rfl ?_
        rw [if_neg (by rw [es, beq_eq_false_iff_ne.mpr h225, Bool.and_false]; decide)] at k
        exact k
      · refine x_iconst rfl ?_
        refine x_goto (t := 233) rfl rfl ?_
        rw [if_pos (by rw [es, hs, beq_iff_eq.mpr h225]; rfl)] at k
        exact k
    refine x_istore_n rfl (show (3 : Nat) < 9 from by decide) ?_
    refine x_iinc rfl (xst_ne (by decide) (xst_ne (by decide) l7 (Or.inl rfl)) (Or.inl rfl)) (show (7 : Nat) < 9 from by decide) ?_
    refine x_goto (t := 160) rfl rfl ?_
    exact ih (d + 1) _ (by omega) (xst_ne (by decide) (xst_ne (by decide) (xst_ne (by decide) l0 (Or.inl rfl)) (Or.inl rfl)) (Or.inl rfl)) (xst_ne (by decide) (xst_ne (by decide) (xst_ne (by decide) l1 (Or.inl rfl)) (Or.inl rfl)) (Or.inl rfl)) (xst_ne (by decide) (xst_ne (by decide) (xst_ne (by decide) l2 (Or.inl rfl)) (Or.inl rfl)) (Or.inl rfl)) (xst_ne (by decide) xst_eq (Or.inl rfl)) (xst_ne (by decide) (xst_ne (by decide) (xst_ne (by decide) l4 (Or.inl rfl)) (Or.inl rfl)) (Or.inl rfl)) (xst_ne (by decide) (xst_ne (by decide) (xst_ne (by decide) l5 (Or.inl rfl)) (Or.inl rfl)) (Or.inl rfl)) xst_eq
/-- what stays while the model's same goes on -/
def sMI (f0 : Nat → zE) (n : Nat) (S : sS) (f : Nat → zE) : Prop := (∃ fs : List Value, sMB f fs (n : Nat) (S.2.1.length : Nat) S.2.2 ∧ fs[0]? = some (xi 0) ∧ fs[40]? = some (.ref 202)) ∧ (∃ ax ay af : List Int, sMC f ax ay af) ∧ (∃ kp : List Int, f 202 = xr 0 kp ∧ kp.length = 8) ∧ ∀ q, q ≠ 177 → ¬ (192 ≤ q ∧ q ≤ 194) → q ≠ 202 → f q = f0 q
set_option maxRecDepth 20000 in
theorem xs_176l {v0 : Value} {xs : List Int32} {u : Nat × Nat} {f0 : Nat → zE} {K : List (Int × Int)} {G : Nat → List xBt} {n i j : Nat} {S : sS} (hX : sMX f0 S.1) (hJ : sMJ f0 S.2.1) (hK : ∀ c, c < n → sKM f0 K c (G c)) (hG : ∀ c, c < n → sGok K (G c)) (hi : i < n) (hj : j < n) : ∀ (w t : Nat) (lv : zL) (f : Nat → zE), w + t = 4 → zlv lv 0 = some (.ref 177) → zlv lv 1 = some (xi (i : Nat)) → zlv lv 2 = some (xi (j : Nat)) → zlv lv 3 = some (xi (if sall (fun t => seq1 (sbt K (G i)) (sbt K (G j)) (shomeT (t : Nat))) t = true then 1 else 0)) → zlv lv 4 = some (xi (t : Nat)) → sMI f0 n S f → xz v0 xs u (fun o X => ∃ r' f', o = .inl r' ∧ X = (xh f', u) ∧ (fun r' f' => r' = some (xi (if sall (fun t => seq1 (sbt K (G i)) (sbt K (G j)) (shomeT (t : Nat))) 4 = true then 1 else 0)) ∧ sCD f' 0 ∧ sMT f' n S ∧ ∀ q, q ≠ 177 → ¬ (189 ≤ q ∧ q ≤ 197) → q ≠ 202 → f' q = f0 q) r' f') 176 41 lv [] f := by
  have fin : ∀ (lv : zL) (f : Nat → zE), zlv lv 3 = some (xi (if sall (fun t => seq1 (sbt K (G i)) (sbt K (G j)) (shomeT (t : Nat))) 4 = true then 1 else 0)) → sMI f0 n S f → xz v0 xs u (fun o X => ∃ r' f', o = .inl r' ∧ X = (xh f', u) ∧ (fun r' f' => r' = some (xi (if sall (fun t => seq1 (sbt K (G i)) (sbt K (G j)) (shomeT (t : Nat))) 4 = true then 1 else 0)) ∧ sCD f' 0 ∧ sMT f' n S ∧ ∀ q, q ≠ 177 → ¬ (189 ≤ q ∧ q ≤ 197) → q ≠ 202 → f' q = f0 q) r' f') 176 246 lv [] f := by
    intro lv f l3 hI
    obtain ⟨⟨fs, hB, h0, -⟩, hC, -, hfr⟩ := hI
    refine x_iload_n rfl l3 ?_
    refine x_ireturn rfl (Or.inr (Or.inl ⟨rfl, by split <;> decide⟩)) ⟨_, _, rfl, rfl, rfl, ⟨fs, hB.1.1, h0⟩, ⟨⟨fs, hB⟩, sMX_f hX (fun q b1 b2 => hfr q (by omega) (by omega) (by omega)), sMJ_f hJ (fun q b1 b2 => hfr q (by omega) (by omega) (by omega)), hC⟩, fun q b1 b2 b3 => hfr q b1 (by omega) b3⟩
  have hla := (hG i hi).1
  have hlb := (hG j hj).1
  intro w
  induction w with
  | zero =>
    intro t lv f hw l0 l1 l2 l3 l4 hI
    have e4 : t = 4 := by omega
    subst e4
    refine x_iload rfl l4 ?_
    refine x_iconst rfl ?_
    refine x_cge (t := 246) rfl rfl (by decide) (by decide) (fun _ => ?_) (fun h => absurd h (by decide))
    exact fin lv f l3 hI
  | succ w ih =>
    intro t lv f hw l0 l1 l2 l3 l4 hI
    have es : sall (fun t => seq1 (sbt K (G i)) (sbt K (G j)) (shomeT (t : Nat))) (t + 1) = (sall (fun t => seq1 (sbt K (G i)) (sbt K (G j)) (shomeT (t : Nat))) t && seq1 (sbt K (G i)) (sbt K (G j)) (shomeT (t : Nat))) := rfl
    refine x_iload rfl l4 ?_
    refine x_iconst rfl ?_
    refine x_cge (t := 246) rfl rfl ⟨by omega, by omega⟩ (by decide) (fun h => by omega) (fun _ => ?_)
    refine x_iload_n rfl l3 ?_
    by_cases hs : sall (fun t => seq1 (sbt K (G i)) (sbt K (G j)) (shomeT (t : Nat))) t = true
    rotate_left
    · rw [if_neg hs]
      refine x_ifeq (t := 246) rfl rfl (by decide) (fun _ => ?_) (fun h => absurd rfl h)
      refine fin lv f ?_ hI
      rw [if_neg hs] at l3
      rw [sall_f (bool_f hs) (by omega)]
      exact l3
    rw [if_pos hs] at l3 ⊢
    refine x_ifeq (t := 246) rfl rfl (by decide) (fun h => absurd h (by decide)) (fun _ => ?_)
    obtain ⟨⟨fs, hB, h0, h40⟩, ⟨ax, ay, af, hmc⟩, ⟨kp, g202, gl⟩, hfr⟩ := hI
    obtain ⟨hmo, -⟩ := id hB
    obtain ⟨h177, hfl, ⟨f11, f13, f14, f15, f17, f18⟩, h25, h26, h27⟩ := id hmo
    refine x_aload_n rfl l0 ?_
    refine x_iload rfl l4 ?_
    refine x_call [_, _] rfl rfl (show (0 : Nat) ≤ 8 from by decide) (show (2 : Nat) ≤ 3 from by decide) (x_rcv (by decide) h177) (xs_175 (t := (t : Nat)) h177 h25 h26 h27 ⟨by omega, by omega⟩ hmc) (fun r' f1 hP => ?_)
    obtain ⟨rfl, ⟨ax1, ay1, af1, hmc1, hml1⟩, hfr1⟩ := hP
    have hK1 : ∀ c, c < n → sKM f1 K c (G c) := fun c hc => sKM_f (hK c hc) fun q b1 b2 => (hfr1 q (by omega) (by omega) (by omega)).trans (hfr q (by omega) (by omega) (by omega))
    have hmo1 : sMO f1 fs := ⟨(hfr1 177 (by decide) (by decide) (by decide)).trans h177, hmo.2⟩
    refine x_aload_n rfl l0 ?_
    refine x_iload_n rfl l1 ?_
    refine x_iconst rfl ?_
    refine x_call [_, _, _] rfl rfl (show (0 : Nat) ≤ 8 from by decide) (show (3 : Nat) ≤ 10 from by decide) (x_rcv (by decide) hmo1.1) (xs_122 (back := false) (hK1 i hi) (hG i hi) hmo1 hmc1 hml1) (fun r' f2 hP => ?_)
    obtain ⟨rfl, ⟨fs2, hmo2, hfs2, -⟩, ⟨ax2, ay2, af2, hmc2, hml2⟩, hfr2⟩ := hP
    rw [show (G i).length = (sbt K (G i)).length from (sbt_len K (G i)).symm] at hml2 ⊢
    have hlA : (sbt K (G i)).length ≤ 16 := by rw [sbt_len]; exact hla
    have hlB : (sbt K (G j)).length ≤ 16 := by rw [sbt_len]; exact hlb
    generalize hsa : sres (sbt K (G i)) false (shomeT (t : Nat)) (sbt K (G i)).length = sa at hml2 ⊢
    refine x_istore rfl (show (5 : Nat) < 9 from by decide) ?_
    refine x_iconst rfl ?_
    refine x_istore rfl (show (6 : Nat) < 9 from by decide) ?_
    obtain ⟨i177, ifl, ⟨i11, -, -, -, -, -⟩, i25, i26, i27⟩ := id hmo2
    have i40 : fs2[40]? = some (.ref 202) := (hfs2 40 (by decide) (by decide)).trans h40
    have i0 : fs2[0]? = some (xi 0) := (hfs2 0 (by decide) (by decide)).trans h0
    have hf2 : ∀ q, q ≠ 177 → ¬ (192 ≤ q ∧ q ≤ 194) → f2 q = f q := fun q b1 b2 => (hfr2 q b1 (by omega) (by omega) (by omega)).trans (hfr1 q (by omega) (by omega) (by omega))
    have hK2 : ∀ c, c < n → sKM f2 K c (G c) := fun c hc => sKM_f (hK1 c hc) fun q b1 b2 => hfr2 q (by omega) (by omega) (by omega) (by omega)
    obtain ⟨hi12, cn, tk, pf, pq, se, at', k180, -, -, -, -, -, ⟨kl, -⟩, hcnt, -⟩ := hK2 i hi
    rw [show (G i).length = (sbt K (G i)).length from (sbt_len K (G i)).symm] at hcnt
    refine xs_176k (b := j) (i3 := 1) (i4 := (t : Nat)) (i5 := if sa = 0 then 1 else 0) i177 i11 i25 i26 i27 i40 k180 kl hi12 hcnt hlA hmc2 (fun lv2 f3 kp3 m0 m1 m2 m3 m4 m5 j202 jl hv hfr3 => ?_) 8 0 _ f2 kp rfl (xst_ne (by decide) (xst_ne (by decide) l0 (Or.inl rfl)) (Or.inl rfl)) (xst_ne (by decide) (xst_ne (by decide) l1 (Or.inl rfl)) (Or.inl rfl)) (xst_ne (by decide) (xst_ne (by decide) l2 (Or.inl rfl)) (Or.inl rfl)) (xst_ne (by decide) (xst_ne (by decide) l3 (Or.inl rfl)) (Or.inl rfl)) (xst_ne (by decide) (xst_ne (by decide) l4 (Or.inl rfl)) (Or.inl rfl)) (xst_ne (by decide) xst_eq (Or.inl rfl)) xst_eq ((hf2 202 (by decide) (by decide)).trans g202) gl (fun e he => absurd he (Nat.not_lt_zero e)) (fun _ _ => rfl)
    have j177 : f3 177 = .inl (10, fs2) := (hfr3 177 (by decide)).trans i177
    have hmc3 : sMC f3 ax2 ay2 af2 := ⟨(hfr3 192 (by decide)).trans hmc2.1, (hfr3 193 (by decide)).trans hmc2.2.1, (hfr3 194 (by decide)).trans hmc2.2.2.1, hmc2.2.2.2⟩
    refine x_aload_n rfl m0 ?_
    refine x_iload rfl m4 ?_
    refine x_call [_, _] rfl rfl (show (0 : Nat) ≤ 8 from by decide) (show (2 : Nat) ≤ 3 from by decide) (x_rcv (by decide) j177) (xs_175 (t := (t : Nat)) j177 i25 i26 i27 ⟨by omega, by omega⟩ hmc3) (fun r' f4 hP => ?_)
    obtain ⟨rfl, ⟨ax4, ay4, af4, hmc4, hml4⟩, hfr4⟩ := hP
    have hK4 : ∀ c, c < n → sKM f4 K c (G c) := fun c hc => sKM_f (hK2 c hc) fun q b1 b2 => (hfr4 q (by omega) (by omega) (by omega)).trans (hfr3 q (by omega))
    have hmo4 : sMO f4 fs2 := ⟨(hfr4 177 (by decide) (by decide) (by decide)).trans j177, hmo2.2⟩
    refine x_aload_n rfl m0 ?_
    refine x_iload_n rfl m2 ?_
    refine x_iconst rfl ?_
    refine x_call [_, _, _] rfl rfl (show (0 : Nat) ≤ 8 from by decide) (show (3 : Nat) ≤ 10 from by decide) (x_rcv (by decide) hmo4.1) (xs_122 (back := false) (hK4 j hj) (hG j hj) hmo4 hmc4 hml4) (fun r' f5 hP => ?_)
    obtain ⟨rfl, ⟨fs5, hmo5, hfs5, -⟩, ⟨ax5, ay5, af5, hmc5, hml5⟩, hfr5⟩ := hP
    rw [show (G j).length = (sbt K (G j)).length from (sbt_len K (G j)).symm] at hml5 ⊢
    generalize hsb : sres (sbt K (G j)) false (shomeT (t : Nat)) (sbt K (G j)).length = sb at hml5 ⊢
    refine x_istore rfl (show (6 : Nat) < 9 from by decide) ?_
    obtain ⟨n177, nfl, ⟨n11, -, -, -, -, -⟩, n25, n26, n27⟩ := id hmo5
    have n40 : fs5[40]? = some (.ref 202) := (hfs5 40 (by decide) (by decide)).trans i40
    have n0 : fs5[0]? = some (xi 0) := (hfs5 0 (by decide) (by decide)).trans i0
    have hf5 : ∀ q, q ≠ 177 → ¬ (192 ≤ q ∧ q ≤ 194) → q ≠ 202 → f5 q = f q := fun q b1 b2 b3 => (hfr5 q b1 (by omega) (by omega) (by omega)).trans ((hfr4 q (by omega) (by omega) (by omega)).trans ((hfr3 q b3).trans (hf2 q b1 b2)))
    have n202 : f5 202 = xr 0 kp3 := (hfr5 202 (by decide) (by decide) (by decide) (by decide)).trans ((hfr4 202 (by decide) (by decide) (by decide)).trans j202)
    have hB5 : sMB f5 fs5 (n : Nat) (S.2.1.length : Nat) S.2.2 := sMB_k hB hmo5 fun q b1 b2 => (hfs5 q b1 b2).trans (hfs2 q b1 b2)
    have hI5 : sMI f0 n S f5 := ⟨⟨fs5, hB5, n0, n40⟩, ⟨ax5, ay5, af5, hmc5⟩, ⟨kp3, n202, jl⟩, fun q b1 b2 b3 => (hf5 q b1 b2 b3).trans (hfr q b1 b2 b3)⟩
    have hK5 : ∀ c, c < n → sKM f5 K c (G c) := fun c hc => sKM_f (hK4 c hc) fun q b1 b2 => hfr5 q (by omega) (by omega) (by omega) (by omega)
    obtain ⟨hj12, cnb, tkb, pfb, pqb, seb, atb, kb180, -, -, -, -, -, ⟨kbl, -⟩, hcntb, -⟩ := hK5 j hj
    rw [show (G j).length = (sbt K (G j)).length from (sbt_len K (G j)).symm] at hcntb
    have next : ∀ lv3 : zL, zlv lv3 0 = some (.ref 177) → zlv lv3 1 = some (xi (i : Nat)) → zlv lv3 2 = some (xi (j : Nat)) → zlv lv3 3 = some (xi (if seq1 (sbt K (G i)) (sbt K (G j)) (shomeT (t : Nat)) = true then 1 else 0)) → zlv lv3 4 = some (xi (t : Nat)) → xz v0 xs u (fun o X => ∃ r' f', o = .inl r' ∧ X = (xh f', u) ∧ (fun r' f' => r' = some (xi (if sall (fun t => seq1 (sbt K (G i)) (sbt K (G j)) (shomeT (t : Nat))) 4 = true then 1 else 0)) ∧ sCD f' 0 ∧ sMT f' n S ∧ ∀ q, q ≠ 177 → ¬ (189 ≤ q ∧ q ≤ 197) → q ≠ 202 → f' q = f0 q) r' f') 176 240 lv3 [] f5 := by
      intro lv3 o0 o1 o2 o3 o4
      refine x_iinc rfl o4 (show (4 : Nat) < 9 from by decide) ?_
      refine x_goto (t := 41) rfl rfl ?_
      refine ih (t + 1) _ _ (by omega) (xst_ne (by decide) o0 (Or.inl rfl)) (xst_ne (by decide) o1 (Or.inl rfl)) (xst_ne (by decide) o2 (Or.inl rfl)) (xst_ne (by decide) ?_ (Or.inl rfl)) xst_eq hI5
      rw [es, hs, Bool.true_and]
      exact o3
    have p0 := xst_ne (k := 6) (v := xi (if sb = 0 then 1 else 0)) (by decide) m0 (Or.inl rfl)
    have p1 := xst_ne (k := 6) (v := xi (if sb = 0 then 1 else 0)) (by decide) m1 (Or.inl rfl)
    have p2 := xst_ne (k := 6) (v := xi (if sb = 0 then 1 else 0)) (by decide) m2 (Or.inl rfl)
    have p4 := xst_ne (k := 6) (v := xi (if sb = 0 then 1 else 0)) (by decide) m4 (Or.inl rfl)
    have p5 := xst_ne (k := 6) (v := xi (if sb = 0 then 1 else 0)) (by decide) m5 (Or.inl rfl)
    have p6 : zlv (xst 6 (xi (if sb = 0 then 1 else 0)) lv2) 6 = some (xi (if sb = 0 then 1 else 0)) := xst_eq
    generalize xst 6 (xi (if sb = 0 then 1 else 0)) lv2 = lv3 at p0 p1 p2 p4 p5 p6 ⊢
    refine x_dia (if (sa = 0 ↔ sb = 0) then 1 else 0) 156 (fun k => ?_) ?_
    · refine x_iload rfl p5 ?_
      refine x_iload rfl p6 ?_
      by_cases ha0 : sa = 0 <;> by_cases hb0 : sb = 0
      · rw [if_pos ha0, if_pos hb0]
        refine x_cne (t := 155) rfl rfl (by decide) (by decide) (fun h => absurd rfl h) (fun _ => ?_)
        refine x_iconst rfl ?_
        refine x_goto (t := 156) rfl rfl ?_
        rw [if_pos (show (sa = 0 ↔ sb = 0) from ⟨fun _ => hb0, fun _ => ha0⟩)] at k
        exact k
      · rw [if_pos ha0, if_neg hb0]
        refine x_cne (t := 155) rfl rfl (by decide) (by decide) (fun _ => ?_) (fun h => absurd h (by decide))
        refine x_iconst rfl ?_
        rw [if_neg (show ¬ (sa = 0 ↔ sb = 0) from fun h => hb0 (h.mp ha0))] at k
        exact k
      · rw [if_neg ha0, if_pos hb0]
        refine x_cne (t := 155) rfl rfl (by decide) (by decide) (fun _ => ?_) (fun h => absurd h (by decide))
        refine x_iconst rfl ?_
        rw [if_neg (show ¬ (sa = 0 ↔ sb = 0) from fun h => ha0 (h.mpr hb0))] at k
        exact k
      · rw [if_neg ha0, if_neg hb0]
        refine x_cne (t := 155) rfl rfl (by decide) (by decide) (fun h => absurd rfl h) (fun _ => ?_)
        refine x_iconst rfl ?_
        refine x_goto (t := 156) rfl rfl ?_
        rw [if_pos (show (sa = 0 ↔ sb = 0) from ⟨fun h => absurd h ha0, fun h => absurd h hb0⟩)] at k
        exact k
    refine x_istore_n rfl (show (3 : Nat) < 9 from by decide) ?_
    refine x_iconst rfl ?_
    refine x_istore rfl (show (7 : Nat) < 9 from by decide) ?_
    have r0 := xst_ne (k := 7) (v := xi 0) (by decide) (xst_ne (k := 3) (v := xi (if (sa = 0 ↔ sb = 0) then 1 else 0)) (by decide) p0 (Or.inl rfl)) (Or.inl rfl)
    have r1 := xst_ne (k := 7) (v := xi 0) (by decide) (xst_ne (k := 3) (v := xi (if (sa = 0 ↔ sb = 0) then 1 else 0)) (by decide) p1 (Or.inl rfl)) (Or.inl rfl)
    have r2 := xst_ne (k := 7) (v := xi 0) (by decide) (xst_ne (k := 3) (v := xi (if (sa = 0 ↔ sb = 0) then 1 else 0)) (by decide) p2 (Or.inl rfl)) (Or.inl rfl)
    have r4 := xst_ne (k := 7) (v := xi 0) (by decide) (xst_ne (k := 3) (v := xi (if (sa = 0 ↔ sb = 0) then 1 else 0)) (by decide) p4 (Or.inl rfl)) (Or.inl rfl)
    have r5 := xst_ne (k := 7) (v := xi 0) (by decide) (xst_ne (k := 3) (v := xi (if (sa = 0 ↔ sb = 0) then 1 else 0)) (by decide) p5 (Or.inl rfl)) (Or.inl rfl)
    have r3 : zlv (xst 7 (xi 0) (xst 3 (xi (if (sa = 0 ↔ sb = 0) then 1 else 0)) lv3)) 3 = some (xi (if (sa = 0 ↔ sb = 0) then 1 else 0)) := xst_ne (by decide) xst_eq (Or.inl rfl)
    have r7 : zlv (xst 7 (xi 0) (xst 3 (xi (if (sa = 0 ↔ sb = 0) then 1 else 0)) lv3)) 7 = some (xi 0) := xst_eq
    show xz v0 xs u _ 176 160 (xst 7 (xi 0) (xst 3 (xi (if (sa = 0 ↔ sb = 0) then 1 else 0)) lv3)) [] f5
    generalize xst 7 (xi 0) (xst 3 (xi (if (sa = 0 ↔ sb = 0) then 1 else 0)) lv3) = lv4 at r0 r1 r2 r3 r4 r5 r7 ⊢
    by_cases ha0 : sa = 0
    · rw [if_pos ha0] at r5
      by_cases hb0 : sb = 0
      · rw [if_pos (show (sa = 0 ↔ sb = 0) from ⟨fun _ => hb0, fun _ => ha0⟩)] at r3
        have hr1 : ∀ e, e < 8 → kp3.getD e 0 = srow (sbt K (G i)) false (shomeT (t : Nat)) (sbt K (G i)).length e ∧ sok (srow (sbt K (G i)) false (shomeT (t : Nat)) (sbt K (G i)).length e) := by
          intro e he
          obtain ⟨⟨b1, b2, b3⟩, b4⟩ := (hml2 ha0 _ (Nat.le_refl _)).2.2 e he
          refine ⟨?_, b4⟩
          rw [hv e he, b1, b2, b3]
          exact (s_eq _).symm
        refine xs_176c (a := i) (i4 := (t : Nat)) n177 n11 n25 n26 n27 n40 kb180 kbl hj12 hcntb hlB hmc5 n202 jl hr1 (hml5 hb0 _ (Nat.le_refl _)) (fun lv5 o0 o1 o2 o3 o4 => ?_) 8 0 _ rfl r0 r1 r2 r3 r4 r5 r7
        rw [← seq1_t (hsa.trans ha0) (hsb.trans hb0)] at o3
        exact next lv5 o0 o1 o2 o3 o4
      · rw [if_neg (show ¬ (sa = 0 ↔ sb = 0) from fun h => hb0 (h.mp ha0))] at r3
        refine x_iload rfl r7 ?_
        refine x_bipush rfl (by decide) ?_
        refine x_cge (t := 240) rfl rfl (by decide) (by decide) (fun h => absurd h (by decide)) (fun _ => ?_)
        refine x_iload rfl r5 ?_
        refine x_ifeq (t := 240) rfl rfl (by decide) (fun h => absurd h (by decide)) (fun _ => ?_)
        refine x_iload_n rfl r3 ?_
        refine x_ifeq (t := 240) rfl rfl (by decide) (fun _ => ?_) (fun h => absurd rfl h)
        refine next lv4 r0 r1 r2 ?_ r4
        rw [seq1_n (Or.inl ⟨hsa.trans ha0, fun h => hb0 (hsb.symm.trans h)⟩)]
        exact r3
    · rw [if_neg ha0] at r5
      refine x_iload rfl r7 ?_
      refine x_bipush rfl (by decide) ?_
      refine x_cge (t := 240) rfl rfl (by decide) (by decide) (fun h => absurd h (by decide)) (fun _ => ?_)
      refine x_iload rfl r5 ?_
      refine x_ifeq (t := 240) rfl rfl (by decide) (fun _ => ?_) (fun h => absurd rfl h)
      refine next lv4 r0 r1 r2 ?_ r4
      by_cases hb0 : sb = 0
      · rw [if_neg (show ¬ (sa = 0 ↔ sb = 0) from fun h => ha0 (h.mpr hb0))] at r3
        rw [seq1_n (Or.inr ⟨fun h => ha0 (hsa.symm.trans h), hsb.trans hb0⟩)]
        exact r3
      · rw [if_pos (show (sa = 0 ↔ sb = 0) from ⟨fun h => absurd h ha0, fun h => absurd h hb0⟩)] at r3
        rw [seq1_f (fun h => ha0 (hsa.symm.trans h)) (fun h => hb0 (hsb.symm.trans h)), if_pos rfl]
        exact r3
theorem xs_176 {v0 : Value} {xs : List Int32} {u : Nat × Nat} {f : Nat → zE} {n : Nat} {S : sS} (hM : yM yT2 (xh f)) (hT : sMT f n S) {K : List (Int × Int)} {G : Nat → List xBt} (hn : n ≤ 12) (hK : ∀ c, c < n → sKM f K c (G c)) (hG : ∀ c, c < n → sGok K (G c)) {a b : Int} (ha : -2147483648 ≤ a ∧ a ≤ 2147483647) (hb : -2147483648 ≤ b ∧ b ≤ 2147483647) : xq v0 xs u 176 [(0, .ref 177), (1, xi a), (2, xi b)] f (fun r' f' => r' = some (xi (sSM K G n S a b).2.1) ∧ sCD f' (sSM K G n S a b).1 ∧ sMT f' n (sSM K G n S a b).2.2 ∧ ∀ q, q ≠ 177 → ¬ (189 ≤ q ∧ q ≤ 197) → q ≠ 202 → f' q = f q) := by
  unfold xq
  obtain ⟨⟨fs, hB⟩, hX, hJ, hC⟩ := id hT
  have hB0 := hB
  obtain ⟨⟨h177, hfl, ⟨f11, f13, f14, f15, f17, f18⟩, h25, h26, h27⟩, ⟨a1, a2, a3, a4, a5, a6⟩, h9, h31, h30⟩ := hB
  have h40 : fs[40]? = some (.ref 202) := by
    obtain ⟨fs', e1, -, e3⟩ := xT_o (p := 177) hM (by decide) yT2_177
    rw [h177] at e1
    cases e1
    obtain ⟨v, hv, hg⟩ := e3 40 _ rfl
    rw [hv, yg_rf hg]
  obtain ⟨kp, e202, ekl, -⟩ := xT_a (p := 202) hM (by decide) (show yT2[202 - 50]? = some (.inr (.inl (0, [(8, ytop)]))) from rfl)
  have bad : ¬ ((0 ≤ a ∧ a < (n : Nat)) ∧ 0 ≤ b ∧ b < (n : Nat)) → xz v0 xs u (fun o X => ∃ r f', o = .inl r ∧ X = (xh f', u) ∧ (fun r' f' => r' = some (xi (sSM K G n S a b).2.1) ∧ sCD f' (sSM K G n S a b).1 ∧ sMT f' n (sSM K G n S a b).2.2 ∧ ∀ q, q ≠ 177 → ¬ (189 ≤ q ∧ q ≤ 197) → q ≠ 202 → f' q = f q) r f') 176 21 [(0, .ref 177), (1, xi a), (2, xi b)] [.ref 177] f := by
    intro hbad
    have eR : sSM K G n S a b = (1, 0, S) := by unfold sSM; rw [if_neg hbad]
    rw [eR]
    refine x_iconst rfl ?_
    refine x_putfield rfl (by decide) h177 (show (0 : Nat) < _ from by rw [hfl]; decide) rfl ?_
    refine x_aload_n rfl rfl ?_
    refine x_getfield rfl (by decide) xu_eq (sget_eq (by rw [hfl]; decide)) ?_
    refine x_ifne (t := 36) rfl rfl (by decide) (fun _ => ?_) (fun h => absurd h (by decide))
    refine x_iconst rfl ?_
    refine x_istore_n rfl (show (3 : Nat) < 9 from by decide) ?_
    refine x_iconst rfl ?_
    refine x_istore rfl (show (4 : Nat) < 9 from by decide) ?_
    refine x_iload rfl xst_eq ?_
    refine x_iconst rfl ?_
    refine x_cge (t := 246) rfl rfl (by decide) (by decide) (fun h => absurd h (by decide)) (fun _ => ?_)
    refine x_iload_n rfl (xst_ne (by decide) xst_eq (Or.inl rfl)) ?_
    refine x_ifeq (t := 246) rfl rfl (by decide) (fun _ => ?_) (fun h => absurd rfl h)
    refine x_iload_n rfl (xst_ne (by decide) xst_eq (Or.inl rfl)) ?_
    exact x_ireturn rfl (Or.inr (Or.inl ⟨rfl, by decide⟩)) ⟨_, _, rfl, rfl, rfl, ⟨_, xu_eq, sget_eq (by rw [hfl]; decide)⟩, sMT_0 hB0 hX hJ hC, fun q b1 _ _ => xu_ne b1 rfl⟩
  refine x_aload_n rfl rfl ?_
  refine x_aload_n rfl rfl ?_
  refine x_iload_n rfl rfl ?_
  refine x_call [_, _] rfl rfl (show (1 : Nat) ≤ 8 from by decide) (show (2 : Nat) ≤ 2 from by decide) (x_rcv (by decide) h177) (xs_89 hB0 ha ⟨by omega, by omega⟩) ?_
  intro r' f9 hP
  obtain ⟨rfl, hPe⟩ := hP
  subst f9
  by_cases h1 : 0 ≤ a ∧ a < (n : Nat)
  rotate_left
  · rw [if_neg h1]
    refine x_ifeq (t := 21) rfl rfl (by decide) (fun _ => ?_) (fun h => absurd rfl h)
    exact bad fun h => h1 h.1
  rw [if_pos h1]
  refine x_ifeq (t := 21) rfl rfl (by decide) (fun h => absurd h (by decide)) (fun _ => ?_)
  refine x_aload_n rfl rfl ?_
  refine x_iload_n rfl rfl ?_
  refine x_call [_, _] rfl rfl (show (1 : Nat) ≤ 8 from by decide) (show (2 : Nat) ≤ 2 from by decide) (x_rcv (by decide) h177) (xs_89 hB0 hb ⟨by omega, by omega⟩) ?_
  intro r' f9 hP
  obtain ⟨rfl, hPe⟩ := hP
  subst f9
  by_cases h2 : 0 ≤ b ∧ b < (n : Nat)
  rotate_left
  · rw [if_neg h2]
    refine x_ifeq (t := 21) rfl rfl (by decide) (fun _ => ?_) (fun h => absurd rfl h)
    exact bad fun h => h2 h.2
  rw [if_pos h2]
  refine x_ifeq (t := 21) rfl rfl (by decide) (fun h => absurd h (by decide)) (fun _ => ?_)
  refine x_iconst rfl ?_
  refine x_goto (t := 22) rfl rfl ?_
  refine x_putfield rfl (by decide) h177 (show (0 : Nat) < _ from by rw [hfl]; decide) rfl ?_
  refine x_aload_n rfl rfl ?_
  refine x_getfield rfl (by decide) xu_eq (sget_eq (by rw [hfl]; decide)) ?_
  refine x_ifne (t := 36) rfl rfl (by decide) (fun h => absurd rfl h) (fun _ => ?_)
  refine x_iconst rfl ?_
  refine x_goto (t := 37) rfl rfl ?_
  refine x_istore_n rfl (show (3 : Nat) < 9 from by decide) ?_
  refine x_iconst rfl ?_
  refine x_istore rfl (show (4 : Nat) < 9 from by decide) ?_
  obtain ⟨i, rfl⟩ : ∃ i : Nat, a = (i : Nat) := ⟨a.toNat, by omega⟩
  obtain ⟨j, rfl⟩ : ∃ j : Nat, b = (j : Nat) := ⟨b.toNat, by omega⟩
  have eR : sSM K G n S (i : Nat) (j : Nat) = (0, if sall (fun t => seq1 (sbt K (G i)) (sbt K (G j)) (shomeT (t : Nat))) 4 = true then 1 else 0, S) := by
    unfold sSM
    rw [if_pos ⟨h1, h2⟩]
    simp only [Int.toNat_natCast]
  rw [eR]
  obtain ⟨ax, ay, af, hmc⟩ := hC
  have hI : sMI f n S (xu f 177 (.inl (10, fs.set 0 (xi 0)))) := ⟨⟨_, sMB_0 hB0 xu_eq, sget_eq (by rw [hfl]; decide), sget_ne (by decide) h40⟩, ⟨ax, ay, af, xu_ne (by decide) hmc.1, xu_ne (by decide) hmc.2.1, xu_ne (by decide) hmc.2.2.1, hmc.2.2.2⟩, ⟨kp, xu_ne (by decide) e202, ekl⟩, fun q b1 _ _ => xu_ne b1 rfl⟩
  exact xs_176l hX hJ hK hG (by omega) (by omega) 4 0 _ _ rfl (xst_ne (by decide) (xst_ne (by decide) rfl (Or.inl rfl)) (Or.inl rfl)) (xst_ne (by decide) (xst_ne (by decide) rfl (Or.inl rfl)) (Or.inl rfl)) (xst_ne (by decide) (xst_ne (by decide) rfl (Or.inl rfl)) (Or.inl rfl)) (xst_ne (by decide) xst_eq (Or.inl rfl)) xst_eq hI
