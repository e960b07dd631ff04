/-! The class's draft: beats, figures, brackets. -/
/-- a draft's rows: lengths, ranges; its beats' 'taken at' is no later than themselves -/
def xty (m : Int) (fp ep ta : List Int) : Prop := fp.length = 16 ∧ ep.length = 16 ∧ ta.length = 16 ∧ (∀ j : Nat, 0 ≤ fp.getD j 0 ∧ fp.getD j 0 ≤ 208) ∧ (∀ j : Nat, 0 ≤ ep.getD j 0 ∧ ep.getD j 0 ≤ 208) ∧ (∀ j : Nat, -1 ≤ ta.getD j 0 ∧ ta.getD j 0 ≤ 15) ∧ ∀ j : Nat, (j : Int) < m → ta.getD j 0 ≤ j
def xDR (c : Nat) (f : Nat → zE) (nmd : Int64) (m d : Int) (al : Value) : Prop := 0 ≤ m ∧ m ≤ 17 ∧ ∃ fp ep ta : List Int, f (57 + 4 * c) = xfg c nmd (xi m) (xi d) al ∧ f (58 + 4 * c) = xr 0 fp ∧ f (59 + 4 * c) = xr 0 ep ∧ f (60 + 4 * c) = xr 0 ta ∧ xty m fp ep ta
/-- nothing but the draft's four cells has changed -/
def xFD (c : Nat) (f f' : Nat → zE) : Prop := ∀ p, p ≠ 57 + 4 * c → p ≠ 58 + 4 * c → p ≠ 59 + 4 * c → p ≠ 60 + 4 * c → f' p = f p
theorem xFD_0 (c : Nat) (f : Nat → zE) : xFD c f f := fun _ _ _ _ _ => rfl
theorem xFD_t {c : Nat} {f g h : Nat → zE} (h1 : xFD c f g) (h2 : xFD c g h) : xFD c f h := fun p a1 a2 a3 a4 => (h2 p a1 a2 a3 a4).trans (h1 p a1 a2 a3 a4)
theorem x_gset {l : List Int} {k j : Nat} {x : Int} : (l.set k x).getD j 0 = if k = j ∧ j < l.length then x else l.getD j 0 := by
  rw [List.getD_eq_getElem?_getD, List.getD_eq_getElem?_getD, List.getElem?_set]
  by_cases hk : k = j
  · subst hk
    by_cases hl : k < l.length
    · simp [hl]
    · simp [hl, List.getElem?_eq_none (Nat.le_of_not_lt hl)]
  · simp [hk]
theorem xty_set {m : Nat} {fp ep ta : List Int} {a b t : Int} (h : xty (m : Nat) fp ep ta) (ha : 0 ≤ a ∧ a ≤ 208) (hb : 0 ≤ b ∧ b ≤ 208) (ht : -1 ≤ t ∧ t ≤ m) (hm : m < 16) : xty ((m : Nat) + 1) (fp.set m a) (ep.set m b) (ta.set m t) := by
  obtain ⟨h1, h2, h3, h4, h5, h6, h7⟩ := h
  refine ⟨by rw [List.length_set]; exact h1, by rw [List.length_set]; exact h2, by rw [List.length_set]; exact h3, fun j => ?_, fun j => ?_, fun j => ?_, fun j hj => ?_⟩
  · rw [x_gset]
    split
    · exact ha
    · exact h4 j
  · rw [x_gset]
    split
    · exact hb
    · exact h5 j
  · rw [x_gset]
    split
    · omega
    · exact h6 j
  · rw [x_gset]
    split
    · rename_i hk
      have := hk.1
      omega
    · rename_i hk
      by_cases hjm : j = m
      · exact absurd ⟨hjm.symm, by omega⟩ hk
      · exact h7 j (by omega)
theorem xty_mono {m m' : Int} {fp ep ta : List Int} (h : xty m fp ep ta) (hm : m' ≤ m ∨ (m = 16 ∧ m' = 17)) : xty m' fp ep ta := by
  obtain ⟨h1, h2, h3, h4, h5, h6, h7⟩ := h
  refine ⟨h1, h2, h3, h4, h5, h6, fun j hj => ?_⟩
  rcases hm with hm | hm
  · exact h7 j (by omega)
  · by_cases hj16 : (j : Int) < 16
    · exact h7 j (by omega)
    · have := h6 j
      omega
theorem xs_45 {v0 : Value} {xs : List Int32} {u : Nat × Nat} {c : Nat} {f : Nat → zE} {nmd : Int64} {m d : Int} {al : Value} {a b t : Int} (hc : c ≤ 12) (hd : xDR c f nmd m d al) (ha : 0 ≤ a ∧ a ≤ 208) (hb : 0 ≤ b ∧ b ≤ 208) (ht : -1 ≤ t ∧ (m < 16 → t ≤ m)) : xq v0 xs u 45 [(0, .ref (57 + 4 * c)), (1, xi a), (2, xi b), (3, xi t)] f (fun r f' => r = none ∧ xDR c f' nmd (min (m + 1) 17) d al ∧ xFD c f f') := by
  unfold xq
  obtain ⟨hm1, hm2, fp, ep, ta, h0, h1, h2, h3, hty⟩ := hd
  have hl1 := hty.1
  have hl2 := hty.2.1
  have hl3 := hty.2.2.1
  refine x_aload_n rfl rfl ?_
  refine x_getfield rfl (by omega) h0 rfl ?_
  refine x_bipush rfl (by decide) ?_
  refine x_cge (t := 39) rfl rfl ⟨by omega, by omega⟩ ⟨by omega, by omega⟩ (fun hb6 => ?_) (fun hb6 => ?_)
  · refine x_aload_n rfl rfl ?_
    refine x_getfield rfl (by omega) h0 rfl ?_
    refine x_bipush rfl (by decide) ?_
    refine x_cgt (t := 58) rfl rfl ⟨by omega, by omega⟩ ⟨by omega, by omega⟩ (fun hb45 => ?_) (fun hb45 => ?_)
    · refine x_return rfl ⟨_, _, rfl, rfl, ?_⟩
      have e1 : m = min (m + 1) 17 := by omega
      exact ⟨rfl, ⟨by omega, by omega, _, _, _, by rw [← e1]; exact h0, h1, h2, h3, xty_mono hty (by omega)⟩, xFD_0 c f⟩
    · refine x_aload_n rfl rfl ?_
      refine x_dup rfl ?_
      refine x_getfield rfl (by omega) h0 rfl ?_
      refine x_iconst rfl ?_
      refine x_iadd rfl ?_
      refine x_putfield rfl (by omega) h0 (show (4 : Nat) < 7 from by decide) rfl ?_
      refine x_return rfl ⟨_, _, rfl, rfl, ?_⟩
      have e1 : m + 1 = min (m + 1) 17 := by omega
      refine ⟨rfl, ⟨by omega, by omega, _, _, _, by rw [← e1]; exact xu_eq, (xu_ne (by omega) h1), (xu_ne (by omega) h2), (xu_ne (by omega) h3), ?_⟩, ?_⟩
      · exact xty_mono hty (by omega)
      · intro p a1 a2 a3 a4; exact xu_ne a1 rfl
  · refine x_aload_n rfl rfl ?_
    refine x_getfield rfl (by omega) h0 rfl ?_
    refine x_aload_n rfl rfl ?_
    refine x_getfield rfl (by omega) h0 rfl ?_
    refine x_iload_n rfl rfl ?_
    refine x_iastore rfl (by omega) h1 ⟨by omega, by omega⟩ (by omega) ?_
    refine x_aload_n rfl rfl ?_
    refine x_getfield rfl (by omega) (xu_ne (by omega) h0) rfl ?_
    refine x_aload_n rfl rfl ?_
    refine x_getfield rfl (by omega) (xu_ne (by omega) h0) rfl ?_
    refine x_iload_n rfl rfl ?_
    refine x_iastore rfl (by omega) (xu_ne (by omega) h2) ⟨by omega, by omega⟩ (by omega) ?_
    refine x_aload_n rfl rfl ?_
    refine x_getfield rfl (by omega) (xu_ne (by omega) (xu_ne (by omega) h0)) rfl ?_
    refine x_aload_n rfl rfl ?_
    refine x_getfield rfl (by omega) (xu_ne (by omega) (xu_ne (by omega) h0)) rfl ?_
    refine x_iload_n rfl rfl ?_
    refine x_iastore rfl (by omega) (xu_ne (by omega) (xu_ne (by omega) h3)) ⟨by omega, by omega⟩ (by omega) ?_
    refine x_aload_n rfl rfl ?_
    refine x_getfield rfl (by omega) (xu_ne (by omega) (xu_ne (by omega) (xu_ne (by omega) h0))) rfl ?_
    refine x_bipush rfl (by decide) ?_
    refine x_cgt (t := 58) rfl rfl ⟨by omega, by omega⟩ ⟨by omega, by omega⟩ (fun hb45 => ?_) (fun hb45 => ?_)
    · refine x_return rfl ⟨_, _, rfl, rfl, ?_⟩
      exfalso; omega
    · refine x_aload_n rfl rfl ?_
      refine x_dup rfl ?_
      refine x_getfield rfl (by omega) (xu_ne (by omega) (xu_ne (by omega) (xu_ne (by omega) h0))) rfl ?_
      refine x_iconst rfl ?_
      refine x_iadd rfl ?_
      refine x_putfield rfl (by omega) (xu_ne (by omega) (xu_ne (by omega) (xu_ne (by omega) h0))) (show (4 : Nat) < 7 from by decide) rfl ?_
      refine x_return rfl ⟨_, _, rfl, rfl, ?_⟩
      have e1 : m + 1 = min (m + 1) 17 := by omega
      refine ⟨rfl, ⟨by omega, by omega, _, _, _, by rw [← e1]; exact xu_eq, (xu_ne (by omega) (xu_ne (by omega) (xu_ne (by omega) xu_eq))), (xu_ne (by omega) (xu_ne (by omega) xu_eq)), (xu_ne (by omega) xu_eq), ?_⟩, ?_⟩
      · have hm2 : ((m.toNat : Nat) : Int) = m := by omega
        rw [← e1, ← hm2, Int.toNat_natCast]
        exact xty_set (by rw [hm2]; exact hty) ha hb (by omega) (by omega)
      · intro p a1 a2 a3 a4; exact xu_ne a1 (xu_ne a4 (xu_ne a3 (xu_ne a2 rfl)))
theorem xs_53 {v0 : Value} {xs : List Int32} {u : Nat × Nat} {c : Nat} {f : Nat → zE} {nmd : Int64} {m d : Int} {al : Value} {a b : Int} (hc : c ≤ 12) (hd : xDR c f nmd m d al) (ha : 0 ≤ a ∧ a ≤ 208) (hb : 0 ≤ b ∧ b ≤ 208) : xq v0 xs u 53 [(0, .ref (57 + 4 * c)), (1, xi a), (2, xi b)] f (fun r f' => r = none ∧ xDR c f' nmd (min (m + 1) 17) d al ∧ xFD c f f') := by
  unfold xq
  have hd0 := hd
  obtain ⟨hm1, hm2, fp, ep, ta, h0, h1, h2, h3, hty⟩ := hd0
  refine x_aload_n rfl rfl ?_
  refine x_iload_n rfl rfl ?_
  refine x_iload_n rfl rfl ?_
  refine x_iconst rfl ?_
  refine x_call [_, _, _, _] rfl rfl (show (0 : Nat) ≤ 8 from by decide) (show (4 : Nat) ≤ 4 from by decide) (x_rcv (by omega) h0) (xs_45 hc hd ha hb ⟨by omega, fun _ => by omega⟩) (fun r' f' hP => ?_)
  obtain ⟨rfl, hP1, hP2⟩ := hP
  refine x_return rfl ⟨_, _, rfl, rfl, ?_⟩
  exact ⟨rfl, hP1, hP2⟩
/-- a kept figure -/
def xKF (i : Nat) (f : Nat → zE) (nm : Int64) (b d : Int) (al : Value) : Prop := 0 ≤ b ∧ b ≤ 16 ∧ ∃ (fp ep ta : List Int), f (57 + 4 * i) = xfg i nm (xi b) (xi d) al ∧ f (58 + 4 * i) = xr 0 fp ∧ f (59 + 4 * i) = xr 0 ep ∧ f (60 + 4 * i) = xr 0 ta ∧ xty b fp ep ta ∧ ∀ j : Nat, (j : Int) < b → 0 ≤ ta.getD j 0
theorem x_max {v0 : Value} {xs : List Int32} {u : Nat × Nat} {Q : zO → zX → Prop} {mi pc n : Nat} {lv : zL} {f : Nat → zE} {c : Nat} {v : Value} {r : List Value} {x y : Int} (hc : zcd (zt v0) mi pc = some (.invokestatic n, 1, 1, c, v)) (h8 : zcat (xi x :: r) ≤ 8) (hx : -2147483648 ≤ x ∧ x ≤ 2147483647) (hy : -2147483648 ≤ y ∧ y ≤ 2147483647) (k : xz v0 xs u Q mi (pc + 3) lv (xi (max x y) :: r) f) : xz v0 xs u Q mi pc lv (xi y :: xi x :: r) f := by
  obtain ⟨z1, z2, z3, z4, z5⟩ := zk_za (G := zG xs) (df := zdf (zt v0)) (i := .invokestatic n) (a := 1) (b := 1) (c := c) (v := v) (nL := znl (zt v0) mi) (pc := pc) (lv := lv) (st := xi y :: xi x :: r) (X := (xh f, u)) rfl
  have e : zd 1 (xi y :: xi x :: r) (xh f, u) = some (xi (max x y) :: r, (xh f, u)) := by
    simp only [zd, xi_lt hx hy]
    by_cases h : x < y
    · rw [if_pos h, show max x y = y by omega]
    · rw [if_neg h, show max x y = x by omega]
  exact zwp_jdk ⟨hc, z1, z2, z3⟩ z4 rfl rfl e h8 k
theorem xs_46l {v0 : Value} {xs : List Int32} {u : Nat × Nat} {c i : Nat} {f0 : Nat → zE} {nmd nm : Int64} {m d b e : Int} {al ali : Value} (hc : c ≤ 12) (hi : i < c) (hk : xKF i f0 nm b e ali) (hm0 : 0 ≤ m ∧ m ≤ 17) (hdd : -1000 ≤ d ∧ d ≤ 1000) (hee : -1000 ≤ e ∧ e ≤ 1000) : ∀ (w k : Nat) (lv : zL) (f : Nat → zE), (w + k : Int) = b → zlv lv 0 = some (.ref (57 + 4 * c)) → zlv lv 1 = some (.ref (57 + 4 * i)) → zlv lv 2 = some (xi m) → zlv lv 3 = some (xi (k : Nat)) → xDR c f nmd (min (m + (k : Nat)) 17) d al → xFD c f0 f → xz v0 xs u (fun o X => ∃ r f', o = .inl r ∧ X = (xh f', u) ∧ (fun r f' => r = none ∧ xDR c f' nmd (min (m + b) 17) (max d (e + 1)) al ∧ xFD c f0 f') r f') 46 7 lv [] f := by
  obtain ⟨hb1, hb2, gp, gq, gt, g0, g1, g2, g3, gty, gta⟩ := hk
  have gl1 := gty.1
  have gl2 := gty.2.1
  have gl3 := gty.2.2.1
  intro w
  induction w with
  | zero =>
    intro k lv f hw l0 l1 l2 l3 hd hfr
    have hd0 := hd
    obtain ⟨hm1, hm2, fp, ep, ta, h0, h1, h2, h3, hty⟩ := hd0
    have g0 := (hfr (57 + 4 * i) (by omega) (by omega) (by omega) (by omega)).trans g0
    have g1 := (hfr (58 + 4 * i) (by omega) (by omega) (by omega) (by omega)).trans g1
    have g2 := (hfr (59 + 4 * i) (by omega) (by omega) (by omega) (by omega)).trans g2
    have g3 := (hfr (60 + 4 * i) (by omega) (by omega) (by omega) (by omega)).trans g3
    refine x_iload_n rfl l3 ?_
    refine x_aload_n rfl l1 ?_
    refine x_getfield rfl (by omega) g0 rfl ?_
    refine x_cge (t := 45) rfl rfl ⟨by omega, by omega⟩ ⟨by omega, by omega⟩ (fun hb12 => ?_) (fun hb12 => ?_)
    · refine x_aload_n rfl l0 ?_
      refine x_aload_n rfl l0 ?_
      refine x_getfield rfl (by omega) h0 rfl ?_
      refine x_aload_n rfl l1 ?_
      refine x_getfield rfl (by omega) g0 rfl ?_
      refine x_iconst rfl ?_
      refine x_iadd rfl ?_
      refine x_max rfl (show (2 : Nat) ≤ 8 from by decide) (by omega) (by omega) ?_
      refine x_putfield rfl (by omega) h0 (show (5 : Nat) < 7 from by decide) rfl ?_
      refine x_return rfl ⟨_, _, rfl, rfl, ?_⟩
      refine ⟨rfl, ?_, fun p a1 a2 a3 a4 => xu_ne a1 (hfr p a1 a2 a3 a4)⟩
      have e1 : min (m + b) 17 = min (m + (k : Nat)) 17 := by omega
      rw [e1]
      exact ⟨by omega, by omega, _, _, _, xu_eq, xu_ne (by omega) h1, xu_ne (by omega) h2, xu_ne (by omega) h3, hty⟩
    · exfalso; omega
  | succ w ih =>
    intro k lv f hw l0 l1 l2 l3 hd hfr
    have hd0 := hd
    obtain ⟨hm1, hm2, fp, ep, ta, h0, h1, h2, h3, hty⟩ := hd0
    have g0 := (hfr (57 + 4 * i) (by omega) (by omega) (by omega) (by omega)).trans g0
    have g1 := (hfr (58 + 4 * i) (by omega) (by omega) (by omega) (by omega)).trans g1
    have g2 := (hfr (59 + 4 * i) (by omega) (by omega) (by omega) (by omega)).trans g2
    have g3 := (hfr (60 + 4 * i) (by omega) (by omega) (by omega) (by omega)).trans g3
    refine x_iload_n rfl l3 ?_
    refine x_aload_n rfl l1 ?_
    refine x_getfield rfl (by omega) g0 rfl ?_
    refine x_cge (t := 45) rfl rfl ⟨by omega, by omega⟩ ⟨by omega, by omega⟩ (fun hb12 => ?_) (fun hb12 => ?_)
    · exfalso; omega
    · refine x_aload_n rfl l0 ?_
      refine x_aload_n rfl l1 ?_
      refine x_getfield rfl (by omega) g0 rfl ?_
      refine x_iload_n rfl l3 ?_
      refine x_iaload rfl (by omega) g1 ⟨by omega, by omega⟩ (by omega) ?_
      rw [Int.toNat_natCast]
      refine x_aload_n rfl l1 ?_
      refine x_getfield rfl (by omega) g0 rfl ?_
      refine x_iload_n rfl l3 ?_
      refine x_iaload rfl (by omega) g2 ⟨by omega, by omega⟩ (by omega) ?_
      rw [Int.toNat_natCast]
      refine x_iload_n rfl l2 ?_
      refine x_aload_n rfl l1 ?_
      refine x_getfield rfl (by omega) g0 rfl ?_
      refine x_iload_n rfl l3 ?_
      refine x_iaload rfl (by omega) g3 ⟨by omega, by omega⟩ (by omega) ?_
      rw [Int.toNat_natCast]
      have ht1 := gta k (by omega)
      have ht2 := gty.2.2.2.2.2.2 k (by omega)
      have ht3 := gty.2.2.2.2.2.1 k
      refine x_iadd rfl ?_
      refine x_call [_, _, _, _] rfl rfl (show (0 : Nat) ≤ 8 from by decide) (show (4 : Nat) ≤ 4 from by decide) (x_rcv (by omega) h0) (xs_45 hc hd (gty.2.2.2.1 k) (gty.2.2.2.2.1 k) ⟨by omega, fun _ => by omega⟩) (fun r' f' hP => ?_)
      obtain ⟨rfl, hP1, hP2⟩ := hP
      refine x_iinc rfl l3 (show (3 : Nat) < 4 from by decide) ?_
      refine x_goto (t := 7) rfl rfl ?_
      refine ih (k + 1) _ _ (by omega) (xst_ne (by decide) l0 (Or.inl rfl)) (xst_ne (by decide) l1 (Or.inl rfl)) (xst_ne (by decide) l2 (Or.inl rfl)) xst_eq ?_ (xFD_t hfr hP2)
      rw [show min (m + ((k + 1 : Nat) : Int)) 17 = min (min (m + (k : Nat)) 17 + 1) 17 by omega]
      exact hP1
theorem xs_46 {v0 : Value} {xs : List Int32} {u : Nat × Nat} {c i : Nat} {f : Nat → zE} {nmd nm : Int64} {m d b e : Int} {al ali : Value} (hc : c ≤ 12) (hi : i < c) (hk : xKF i f nm b e ali) (hdd : -1000 ≤ d ∧ d ≤ 1000) (hee : -1000 ≤ e ∧ e ≤ 1000) (hd : xDR c f nmd m d al) : xq v0 xs u 46 [(0, .ref (57 + 4 * c)), (1, .ref (57 + 4 * i))] f (fun r f' => r = none ∧ xDR c f' nmd (min (m + b) 17) (max d (e + 1)) al ∧ xFD c f f') := by
  unfold xq
  have hd0 := hd
  obtain ⟨hm1, hm2, fp, ep, ta, h0, h1, h2, h3, hty⟩ := hd0
  refine x_aload_n rfl rfl ?_
  refine x_getfield rfl (by omega) h0 rfl ?_
  refine x_istore_n rfl (show (2 : Nat) < 4 from by decide) ?_
  refine x_iconst rfl ?_
  refine x_istore_n rfl (show (3 : Nat) < 4 from by decide) ?_
  exact xs_46l hc hi hk ⟨hm1, hm2⟩ hdd hee b.toNat 0 _ _ (by have := hk.1; omega) (xst_ne (by decide) (xst_ne (by decide) rfl (Or.inl rfl)) (Or.inl rfl)) (xst_ne (by decide) (xst_ne (by decide) rfl (Or.inl rfl)) (Or.inl rfl)) (xst_ne (by decide) xst_eq (Or.inl rfl)) xst_eq (by rw [show min (m + ((0 : Nat) : Int)) 17 = m by omega]; exact hd) (xFD_0 c f)
theorem xs_54i {v0 : Value} {xs : List Int32} {u : Nat × Nat} {Q : zO → zX → Prop} {c : Nat} {nmd : Int64} {m d fr ti : Int} {al : Value} (hc : c ≤ 12) (hm : 0 ≤ m ∧ m ≤ 17) (hfr0 : 0 ≤ fr ∧ fr ≤ m) (hti : 1 ≤ ti ∧ ti ≤ 4) {f0 : Nat → zE} {K Lt rr : Int} (hK : 0 ≤ K ∧ Lt = K + (m - fr)) (hk : ∀ (lv : zL) (f : Nat → zE), zlv lv 0 = some (.ref (57 + 4 * c)) → zlv lv 1 = some (xi fr) → zlv lv 2 = some (xi ti) → zlv lv 3 = some (xi m) → zlv lv 4 = some (xi rr) → xDR c f nmd (min (m + K + (m - fr)) 17) d al → xFD c f0 f → xz v0 xs u Q 54 87 lv [] f) : ∀ (w : Nat) (i : Int) (lv : zL) (f : Nat → zE), (w : Int) + i = m → fr ≤ i → zlv lv 0 = some (.ref (57 + 4 * c)) → zlv lv 1 = some (xi fr) → zlv lv 2 = some (xi ti) → zlv lv 3 = some (xi m) → zlv lv 4 = some (xi rr) → zlv lv 5 = some (xi Lt) → zlv lv 6 = some (xi i) → xDR c f nmd (min (m + K + (i - fr)) 17) d al → xFD c f0 f → xz v0 xs u Q 54 25 lv [] f := by
  intro w
  induction w with
  | zero =>
    intro i lv f hw hi l0 l1 l2 l3 l4 l5 l6 hd hfr
    refine x_iload rfl l6 ?_
    refine x_iload_n rfl l3 ?_
    refine x_cge (t := 87) rfl rfl ⟨by omega, by omega⟩ ⟨by omega, by omega⟩ (fun hb28 => ?_) (fun hb28 => ?_)
    · refine hk _ _ l0 l1 l2 l3 l4 ?_ hfr
      rw [show min (m + K + (m - fr)) 17 = min (m + K + (i - fr)) 17 by omega]
      exact hd
    · exfalso; omega
  | succ w ih =>
    intro i lv f hw hi l0 l1 l2 l3 l4 l5 l6 hd hfr
    have hd0 := hd
    obtain ⟨hm1, hm2, fp, ep, ta, h0, h1, h2, h3, hty⟩ := hd0
    have hl1 := hty.1
    have hl2 := hty.2.1
    have hl3 := hty.2.2.1
    refine x_iload rfl l6 ?_
    refine x_iload_n rfl l3 ?_
    refine x_cge (t := 87) rfl rfl ⟨by omega, by omega⟩ ⟨by omega, by omega⟩ (fun hb28 => ?_) (fun hb28 => ?_)
    · exfalso; omega
    · refine x_iload rfl l6 ?_
      refine x_bipush rfl (by decide) ?_
      refine x_cge (t := 87) rfl rfl ⟨by omega, by omega⟩ ⟨by omega, by omega⟩ (fun hb35 => ?_) (fun hb35 => ?_)
      · refine hk _ _ l0 l1 l2 l3 l4 ?_ hfr
        rw [show min (m + K + (m - fr)) 17 = min (m + K + (i - fr)) 17 by omega]
        exact hd
      · refine x_aload_n rfl l0 ?_
        refine x_aload_n rfl l0 ?_
        refine x_getfield rfl (by omega) h0 rfl ?_
        refine x_iload rfl l6 ?_
        refine x_iaload rfl (by omega) h1 ⟨by omega, by omega⟩ (by omega) ?_
        refine x_aload_n rfl l0 ?_
        refine x_getfield rfl (by omega) h0 rfl ?_
        refine x_iload rfl l6 ?_
        refine x_iaload rfl (by omega) h2 ⟨by omega, by omega⟩ (by omega) ?_
        refine x_aload_n rfl l0 ?_
        refine x_getfield rfl (by omega) h0 rfl ?_
        refine x_iload rfl l6 ?_
        refine x_iaload rfl (by omega) h3 ⟨by omega, by omega⟩ (by omega) ?_
        have ht1 := hty.2.2.2.2.2.1 i.toNat
        have ht2 := hty.2.2.2.2.2.2 i.toNat (by omega)
        refine x_iconst rfl ?_
        refine x_cne (t := 68) rfl rfl ⟨by omega, by omega⟩ ⟨by omega, by omega⟩ (fun hb61 => ?_) (fun hb61 => ?_)
        · refine x_aload_n rfl l0 ?_
          refine x_getfield rfl (by omega) h0 rfl ?_
          refine x_iload rfl l6 ?_
          refine x_iaload rfl (by omega) h3 ⟨by omega, by omega⟩ (by omega) ?_
          refine x_iload rfl l5 ?_
          refine x_iadd rfl ?_
          refine x_call [_, _, _, _] rfl rfl (show (0 : Nat) ≤ 8 from by decide) (show (4 : Nat) ≤ 4 from by decide) (x_rcv (by omega) h0) (xs_45 hc hd (hty.2.2.2.1 i.toNat) (hty.2.2.2.2.1 i.toNat) ⟨by omega, fun _ => by omega⟩) (fun r' f' hP => ?_)
          obtain ⟨rfl, hP1, hP2⟩ := hP
          refine x_iinc rfl l6 (show (6 : Nat) < 7 from by decide) ?_
          refine x_goto (t := 25) rfl rfl ?_
          refine ih (i + 1) _ _ (by omega) (by omega) (xst_ne (by decide) l0 (Or.inl rfl)) (xst_ne (by decide) l1 (Or.inl rfl)) (xst_ne (by decide) l2 (Or.inl rfl)) (xst_ne (by decide) l3 (Or.inl rfl)) (xst_ne (by decide) l4 (Or.inl rfl)) (xst_ne (by decide) l5 (Or.inl rfl)) xst_eq ?_ (xFD_t hfr hP2)
          rw [show min (m + K + (i + 1 - fr)) 17 = min (min (m + K + (i - fr)) 17 + 1) 17 by omega]
          exact hP1
        · refine x_iconst rfl ?_
          refine x_goto (t := 78) rfl rfl ?_
          refine x_call [_, _, _, _] rfl rfl (show (0 : Nat) ≤ 8 from by decide) (show (4 : Nat) ≤ 4 from by decide) (x_rcv (by omega) h0) (xs_45 hc hd (hty.2.2.2.1 i.toNat) (hty.2.2.2.2.1 i.toNat) ⟨by omega, fun _ => by omega⟩) (fun r' f' hP => ?_)
          obtain ⟨rfl, hP1, hP2⟩ := hP
          refine x_iinc rfl l6 (show (6 : Nat) < 7 from by decide) ?_
          refine x_goto (t := 25) rfl rfl ?_
          refine ih (i + 1) _ _ (by omega) (by omega) (xst_ne (by decide) l0 (Or.inl rfl)) (xst_ne (by decide) l1 (Or.inl rfl)) (xst_ne (by decide) l2 (Or.inl rfl)) (xst_ne (by decide) l3 (Or.inl rfl)) (xst_ne (by decide) l4 (Or.inl rfl)) (xst_ne (by decide) l5 (Or.inl rfl)) xst_eq ?_ (xFD_t hfr hP2)
          rw [show min (m + K + (i + 1 - fr)) 17 = min (min (m + K + (i - fr)) 17 + 1) 17 by omega]
          exact hP1
theorem xs_54o {v0 : Value} {xs : List Int32} {u : Nat × Nat} {c : Nat} {nmd : Int64} {m d fr ti : Int} {al : Value} (hc : c ≤ 12) (hm : 0 ≤ m ∧ m ≤ 17) (hfr0 : 0 ≤ fr ∧ fr ≤ m) (hti : 1 ≤ ti ∧ ti ≤ 4) {f0 : Nat → zE} : ∀ (w : Nat) (rr : Int) (lv : zL) (f : Nat → zE), (w : Int) + rr = ti → 1 ≤ rr → zlv lv 0 = some (.ref (57 + 4 * c)) → zlv lv 1 = some (xi fr) → zlv lv 2 = some (xi ti) → zlv lv 3 = some (xi m) → zlv lv 4 = some (xi rr) → xDR c f nmd (min (m + (rr - 1) * (m - fr)) 17) d al → xFD c f0 f → xz v0 xs u (fun o X => ∃ r f', o = .inl r ∧ X = (xh f', u) ∧ (fun r f' => r = none ∧ xDR c f' nmd (min (m + (ti - 1) * (m - fr)) 17) d al ∧ xFD c f0 f') r f') 54 8 lv [] f := by
  intro w
  induction w with
  | zero =>
    intro rr lv f hw hr l0 l1 l2 l3 l4 hd hfr
    refine x_iload rfl l4 ?_
    refine x_iload_n rfl l2 ?_
    refine x_cge (t := 93) rfl rfl ⟨by omega, by omega⟩ ⟨by omega, by omega⟩ (fun hb11 => ?_) (fun hb11 => ?_)
    · refine x_return rfl ⟨_, _, rfl, rfl, ?_⟩
      have e1 : rr = ti := by omega
      subst e1
      exact ⟨rfl, hd, hfr⟩
    · exfalso; omega
  | succ w ih =>
    intro rr lv f hw hr l0 l1 l2 l3 l4 hd hfr
    refine x_iload rfl l4 ?_
    refine x_iload_n rfl l2 ?_
    refine x_cge (t := 93) rfl rfl ⟨by omega, by omega⟩ ⟨by omega, by omega⟩ (fun hb11 => ?_) (fun hb11 => ?_)
    · exfalso; omega
    · refine x_iload rfl l4 ?_
      refine x_iload_n rfl l3 ?_
      refine x_iload_n rfl l1 ?_
      refine x_isub rfl ?_
      refine x_imul rfl ?_
      refine x_istore rfl (show (5 : Nat) < 7 from by decide) ?_
      refine x_iload_n rfl (xst_ne (by decide) l1 (Or.inl rfl)) ?_
      refine x_istore rfl (show (6 : Nat) < 7 from by decide) ?_
      refine xs_54i (nmd := nmd) (d := d) (al := al) hc hm hfr0 hti (K := (rr - 1) * (m - fr)) ⟨Int.mul_nonneg (by omega) (by omega), ?_⟩ (fun lv f k0 k1 k2 k3 k4 kd kfr => ?_) (m - fr).toNat fr _ _ (by omega) (Int.le_refl _) (xst_ne (by decide) (xst_ne (by decide) l0 (Or.inl rfl)) (Or.inl rfl)) (xst_ne (by decide) (xst_ne (by decide) l1 (Or.inl rfl)) (Or.inl rfl)) (xst_ne (by decide) (xst_ne (by decide) l2 (Or.inl rfl)) (Or.inl rfl)) (xst_ne (by decide) (xst_ne (by decide) l3 (Or.inl rfl)) (Or.inl rfl)) (xst_ne (by decide) (xst_ne (by decide) l4 (Or.inl rfl)) (Or.inl rfl)) (xst_ne (by decide) xst_eq (Or.inl rfl)) xst_eq ?_ hfr
      · rw [show rr * (m - fr) = ((rr - 1) + 1) * (m - fr) by rw [Int.sub_add_cancel], Int.add_mul, Int.one_mul]
      · refine x_iinc rfl k4 (show (4 : Nat) < 7 from by decide) ?_
        refine x_goto (t := 8) rfl rfl ?_
        refine ih (rr + 1) _ _ (by omega) (by omega) (xst_ne (by decide) k0 (Or.inl rfl)) (xst_ne (by decide) k1 (Or.inl rfl)) (xst_ne (by decide) k2 (Or.inl rfl)) (xst_ne (by decide) k3 (Or.inl rfl)) xst_eq ?_ kfr
        rw [show (rr + 1 - 1) * (m - fr) = (rr - 1) * (m - fr) + (m - fr) by rw [show rr + 1 - 1 = (rr - 1) + 1 by omega, Int.add_mul, Int.one_mul], ← Int.add_assoc]
        exact kd
      · rw [Int.sub_self, Int.add_zero]; exact hd
theorem xs_54 {v0 : Value} {xs : List Int32} {u : Nat × Nat} {f : Nat → zE} {c : Nat} {nmd : Int64} {m d fr ti : Int} {al : Value} (hc : c ≤ 12) (hm : 0 ≤ m ∧ m ≤ 17) (hfr0 : 0 ≤ fr ∧ fr ≤ m) (hti : 1 ≤ ti ∧ ti ≤ 4) (hd : xDR c f nmd m d al) : xq v0 xs u 54 [(0, .ref (57 + 4 * c)), (1, xi fr), (2, xi ti)] f (fun r f' => r = none ∧ xDR c f' nmd (min (m + (ti - 1) * (m - fr)) 17) d al ∧ xFD c f f') := by
  unfold xq
  have hd0 := hd
  obtain ⟨hm1, hm2, fp, ep, ta, h0, h1, h2, h3, hty⟩ := hd0
  refine x_aload_n rfl rfl ?_
  refine x_getfield rfl (by omega) h0 rfl ?_
  refine x_istore_n rfl (show (3 : Nat) < 7 from by decide) ?_
  refine x_iconst rfl ?_
  refine x_istore rfl (show (4 : Nat) < 7 from by decide) ?_
  exact xs_54o hc hm hfr0 hti (ti - 1).toNat 1 _ _ (by omega) (Int.le_refl _) (xst_ne (by decide) (xst_ne (by decide) rfl (Or.inl rfl)) (Or.inl rfl)) (xst_ne (by decide) (xst_ne (by decide) rfl (Or.inl rfl)) (Or.inl rfl)) (xst_ne (by decide) (xst_ne (by decide) rfl (Or.inl rfl)) (Or.inl rfl)) (xst_ne (by decide) xst_eq (Or.inl rfl)) xst_eq (by rw [Int.sub_self, Int.zero_mul, Int.add_zero, show min m 17 = m by omega]; exact hd) (xFD_0 c f)
theorem xs_62l {v0 : Value} {xs : List Int32} {u : Nat × Nat} {c : Nat} {f0 : Nat → zE} {nmd : Int64} {m d : Int} {al : Value} {fp ep : List Int} (hc : c ≤ 12) (hm : 0 ≤ m ∧ m ≤ 16) : ∀ (w : Nat) (i : Int) (lv : zL) (f : Nat → zE) (ta : List Int), (w : Int) + i = m ∧ 0 ≤ i → zlv lv 0 = some (.ref (57 + 4 * c)) → zlv lv 1 = some (xi i) → f (57 + 4 * c) = xfg c nmd (xi m) (xi d) al → f (58 + 4 * c) = xr 0 fp → f (59 + 4 * c) = xr 0 ep → f (60 + 4 * c) = xr 0 ta → xty m fp ep ta → (∀ j : Nat, (j : Int) < i → 0 ≤ ta.getD j 0) → xFD c f0 f → xz v0 xs u (fun o X => ∃ r f', o = .inl r ∧ X = (xh f', u) ∧ (fun r f' => r = none ∧ xKF c f' nmd m d al ∧ xFD c f0 f') r f') 62 2 lv [] f := by
  intro w
  induction w with
  | zero =>
    intro i lv f ta hw l0 l1 h0 h1 h2 h3 hty hz hfr
    have hl3 := hty.2.2.1
    refine x_iload_n rfl l1 ?_
    refine x_aload_n rfl l0 ?_
    refine x_getfield rfl (by omega) h0 rfl ?_
    refine x_cge (t := 39) rfl rfl ⟨by omega, by omega⟩ ⟨by omega, by omega⟩ (fun hb7 => ?_) (fun hb7 => ?_)
    · refine x_return rfl ⟨_, _, rfl, rfl, ?_⟩
      have e1 : i = m := by omega
      subst e1
      exact ⟨rfl, ⟨hm.1, hm.2, _, _, _, h0, h1, h2, h3, hty, hz⟩, hfr⟩
    · exfalso; omega
  | succ w ih =>
    intro i lv f ta hw l0 l1 h0 h1 h2 h3 hty hz hfr
    have hl3 := hty.2.2.1
    refine x_iload_n rfl l1 ?_
    refine x_aload_n rfl l0 ?_
    refine x_getfield rfl (by omega) h0 rfl ?_
    refine x_cge (t := 39) rfl rfl ⟨by omega, by omega⟩ ⟨by omega, by omega⟩ (fun hb7 => ?_) (fun hb7 => ?_)
    · exfalso; omega
    · refine x_iload_n rfl l1 ?_
      refine x_bipush rfl (by decide) ?_
      refine x_cge (t := 39) rfl rfl ⟨by omega, by omega⟩ ⟨by omega, by omega⟩ (fun hb13 => ?_) (fun hb13 => ?_)
      · exfalso; omega
      · refine x_aload_n rfl l0 ?_
        refine x_getfield rfl (by omega) h0 rfl ?_
        refine x_iload_n rfl l1 ?_
        refine x_iaload rfl (by omega) h3 ⟨by omega, by omega⟩ (by omega) ?_
        have ht1 := hty.2.2.2.2.2.1 i.toNat
        refine x_iconst rfl ?_
        refine x_cne (t := 33) rfl rfl ⟨by omega, by omega⟩ ⟨by omega, by omega⟩ (fun hb23 => ?_) (fun hb23 => ?_)
        · refine x_iinc rfl l1 (show (1 : Nat) < 2 from by decide) ?_
          refine x_goto (t := 2) rfl rfl ?_
          refine ih (i + 1) _ _ ta (by omega) (xst_ne (by decide) l0 (Or.inl rfl)) xst_eq h0 h1 h2 h3 hty (fun j hj => ?_) hfr
          by_cases e : (j : Int) = i
          · have := hty.2.2.2.2.2.1 i.toNat; rw [show j = i.toNat by omega]; omega
          · exact hz j (by omega)
        · refine x_aload_n rfl l0 ?_
          refine x_getfield rfl (by omega) h0 rfl ?_
          refine x_iload_n rfl l1 ?_
          refine x_iconst rfl ?_
          refine x_iastore rfl (by omega) h3 ⟨by omega, by omega⟩ (by omega) ?_
          refine x_iinc rfl l1 (show (1 : Nat) < 2 from by decide) ?_
          refine x_goto (t := 2) rfl rfl ?_
          refine ih (i + 1) _ _ (ta.set i.toNat 0) (by omega) (xst_ne (by decide) l0 (Or.inl rfl)) xst_eq (xu_ne (by omega) h0) (xu_ne (by omega) h1) (xu_ne (by omega) h2) xu_eq ?_ (fun j hj => ?_) (fun p a1 a2 a3 a4 => xu_ne a4 (hfr p a1 a2 a3 a4))
          · obtain ⟨t1, t2, t3, t4, t5, t6, t7⟩ := hty
            refine ⟨t1, t2, by rw [List.length_set]; exact t3, t4, t5, fun j => ?_, fun j hj => ?_⟩
            · rw [x_gset]; split
              · omega
              · exact t6 j
            · rw [x_gset]; split
              · omega
              · exact t7 j hj
          · rw [x_gset]; split
            · omega
            · rename_i hne
              have hne2 : ¬ (i.toNat = j) := fun e => hne ⟨e, by omega⟩
              exact hz j (by omega)
theorem xs_62 {v0 : Value} {xs : List Int32} {u : Nat × Nat} {c : Nat} {f : Nat → zE} {nmd : Int64} {m d : Int} {al : Value} (hc : c ≤ 12) (hm16 : m ≤ 16) (hd : xDR c f nmd m d al) : xq v0 xs u 62 [(0, .ref (57 + 4 * c))] f (fun r f' => r = none ∧ xKF c f' nmd m d al ∧ xFD c f f') := by
  unfold xq
  obtain ⟨hm1, hm2, fp, ep, ta, h0, h1, h2, h3, hty⟩ := hd
  refine x_iconst rfl ?_
  refine x_istore_n rfl (show (1 : Nat) < 2 from by decide) ?_
  exact xs_62l hc ⟨hm1, hm16⟩ m.toNat 0 _ _ ta (by omega) (xst_ne (by decide) rfl (Or.inl rfl)) xst_eq h0 h1 h2 h3 hty (fun j hj => by omega) (xFD_0 c f)
theorem xs_59 {v0 : Value} {xs : List Int32} {u : Nat × Nat} {c : Nat} {f : Nat → zE} {nmd : Int64} {m d : Int} {al : Value} (hc : c ≤ 12) (hd0 : -1000 ≤ d ∧ d ≤ 1000) (hd : xDR c f nmd m d al) : xq v0 xs u 59 [(0, .ref (57 + 4 * c))] f (fun r f' => r = some (xi (if 16 < m ∨ 6 < d then 1 else 0)) ∧ f' = f) := by
  unfold xq
  obtain ⟨hm1, hm2, fp, ep, ta, h0, h1, h2, h3, hty⟩ := hd
  refine x_aload_n rfl rfl ?_
  refine x_getfield rfl (by omega) h0 rfl ?_
  refine x_bipush rfl (by decide) ?_
  refine x_cgt (t := 18) rfl rfl ⟨by omega, by omega⟩ ⟨by omega, by omega⟩ (fun hb6 => ?_) (fun hb6 => ?_)
  · refine x_iconst rfl ?_
    refine x_goto (t := 23) rfl rfl ?_
    refine x_ireturn rfl (Or.inr (Or.inl ⟨rfl, by decide⟩)) ⟨_, _, rfl, rfl, ?_⟩
    exact ⟨by rw [if_pos (by omega)], rfl⟩
  · refine x_aload_n rfl rfl ?_
    refine x_getfield rfl (by omega) h0 rfl ?_
    refine x_bipush rfl (by decide) ?_
    refine x_cle (t := 22) rfl rfl ⟨by omega, by omega⟩ ⟨by omega, by omega⟩ (fun hb15 => ?_) (fun hb15 => ?_)
    · refine x_iconst rfl ?_
      refine x_ireturn rfl (Or.inr (Or.inl ⟨rfl, by decide⟩)) ⟨_, _, rfl, rfl, ?_⟩
      exact ⟨by rw [if_neg (by omega)], rfl⟩
    · refine x_iconst rfl ?_
      refine x_goto (t := 23) rfl rfl ?_
      refine x_ireturn rfl (Or.inr (Or.inl ⟨rfl, by decide⟩)) ⟨_, _, rfl, rfl, ?_⟩
      exact ⟨by rw [if_pos (by omega)], rfl⟩
theorem xs_4 {v0 : Value} {xs : List Int32} {u : Nat × Nat} {c : Nat} {f : Nat → zE} {nmd : Int64} {m d : Int} {al : Value} (hc : c ≤ 12) (hd : xDR c f nmd m d al) : xq v0 xs u 4 [(0, .ref (57 + 4 * c))] f (fun r f' => r = none ∧ xDR c f' nmd 0 1 al ∧ xFD c f f') := by
  unfold xq
  obtain ⟨hm1, hm2, fp, ep, ta, h0, h1, h2, h3, hty⟩ := hd
  refine x_aload_n rfl rfl ?_
  refine x_iconst rfl ?_
  refine x_putfield rfl (by omega) h0 (show (4 : Nat) < 7 from by decide) rfl ?_
  refine x_aload_n rfl rfl ?_
  refine x_iconst rfl ?_
  refine x_putfield rfl (by omega) xu_eq (show (5 : Nat) < 7 from by decide) rfl ?_
  refine x_return rfl ⟨_, _, rfl, rfl, ?_⟩
  exact ⟨rfl, ⟨by decide, by decide, fp, ep, ta, xu_eq, xu_ne (by omega) (xu_ne (by omega) h1), xu_ne (by omega) (xu_ne (by omega) h2), xu_ne (by omega) (xu_ne (by omega) h3), xty_mono hty (Or.inl hm1)⟩, fun p a1 a2 a3 a4 => xu_ne a1 (xu_ne a1 rfl)⟩
theorem xs_61 {v0 : Value} {xs : List Int32} {u : Nat × Nat} {f : Nat → zE} {c : Nat} {kp pt : Int} (hc : c ≤ 12) (h53 : f 53 = xbo (c : Nat) kp pt) : xq v0 xs u 61 [(0, .ref 53)] f (fun r f' => r = some (xi (if c = 12 then 1 else 0)) ∧ f' = f) := by
  unfold xq
  refine x_aload_n rfl rfl ?_
  refine x_getfield rfl (by decide) h53 rfl ?_
  refine x_bipush rfl (by decide) ?_
  refine x_clt (t := 13) rfl rfl ⟨by omega, by omega⟩ ⟨by omega, by omega⟩ (fun hb6 => ?_) (fun hb6 => ?_)
  · refine x_iconst rfl ?_
    refine x_ireturn rfl (Or.inr (Or.inl ⟨rfl, by decide⟩)) ⟨_, _, rfl, rfl, ?_⟩
    exact ⟨by rw [if_neg (by omega)], rfl⟩
  · refine x_iconst rfl ?_
    refine x_goto (t := 14) rfl rfl ?_
    refine x_ireturn rfl (Or.inr (Or.inl ⟨rfl, by decide⟩)) ⟨_, _, rfl, rfl, ?_⟩
    exact ⟨by rw [if_pos (by omega)], rfl⟩
theorem xs_44 {v0 : Value} {xs : List Int32} {u : Nat × Nat} {f : Nat → zE} {c i : Nat} {kp pt : Int} (hi : i < 13) (h53 : f 53 = xbo (c : Nat) kp pt) (h54 : f 54 = .inr (.inr (.inr (3, xfl)))) : xq v0 xs u 44 [(0, .ref 53), (1, xi (i : Nat))] f (fun r f' => r = some (.ref (57 + 4 * i)) ∧ f' = f) := by
  unfold xq
  refine x_aload_n rfl rfl ?_
  refine x_getfield rfl (by decide) h53 rfl ?_
  refine x_iload_n rfl rfl ?_
  refine x_aaload rfl (by decide) h54 ⟨by omega, show ((i : Nat) : Int) < (13 : Nat) by omega⟩ (show (13 : Nat) ≤ 5000 by decide) (by rw [Int.toNat_natCast]; exact xfl_at (by omega)) ?_
  refine x_areturn rfl ⟨_, _, rfl, rfl, ?_⟩
  exact ⟨rfl, rfl⟩
/-- the rows of parts -/
def xPT (f : Nat → zE) : Prop := ∃ se at' : List Int, f 55 = xr 0 se ∧ f 56 = xr 0 at' ∧ se.length = 208 ∧ at'.length = 208 ∧ (∀ j : Nat, 0 ≤ se.getD j 0 ∧ se.getD j 0 ≤ 12) ∧ ∀ j : Nat, 0 ≤ at'.getD j 0 ∧ at'.getD j 0 ≤ 6
theorem xs_51 {v0 : Value} {xs : List Int32} {u : Nat × Nat} {f : Nat → zE} {c : Nat} {kp pt s a : Int} (hpt : 0 ≤ pt ∧ pt ≤ 208) (hs : 0 ≤ s ∧ s ≤ 12) (ha : 0 ≤ a ∧ a ≤ 6) (h53 : f 53 = xbo (c : Nat) kp pt) (hP : xPT f) : xq v0 xs u 51 [(0, .ref 53), (1, xi s), (2, xi a)] f (fun r f' => r = none ∧ ∃ pt' : Int, (0 ≤ pt' ∧ pt' ≤ 208) ∧ f' 53 = xbo (c : Nat) kp pt' ∧ xPT f' ∧ ∀ p, p ≠ 53 → p ≠ 55 → p ≠ 56 → f' p = f p) := by
  unfold xq
  obtain ⟨se, at', h55, h56, hl1, hl2, h1, h2⟩ := hP
  refine x_aload_n rfl rfl ?_
  refine x_getfield rfl (by decide) h53 rfl ?_
  refine x_aload_n rfl rfl ?_
  refine x_getfield rfl (by decide) h53 rfl ?_
  refine x_len rfl (by decide) h55 ?_
  refine x_cge (t := 42) rfl rfl ⟨by omega, by omega⟩ ⟨by omega, by omega⟩ (fun hb9 => ?_) (fun hb9 => ?_)
  · refine x_return rfl ⟨_, _, rfl, rfl, ?_⟩
    exact ⟨rfl, pt, hpt, h53, ⟨se, at', h55, h56, hl1, hl2, h1, h2⟩, fun p _ _ _ => rfl⟩
  · refine x_aload_n rfl rfl ?_
    refine x_getfield rfl (by decide) h53 rfl ?_
    refine x_aload_n rfl rfl ?_
    refine x_getfield rfl (by decide) h53 rfl ?_
    refine x_iload_n rfl rfl ?_
    refine x_iastore rfl (by decide) h55 ⟨by omega, by omega⟩ (by omega) ?_
    refine x_aload_n rfl rfl ?_
    refine x_getfield rfl (by decide) (xu_ne (by decide) h53) rfl ?_
    refine x_aload_n rfl rfl ?_
    refine x_getfield rfl (by decide) (xu_ne (by decide) h53) rfl ?_
    refine x_iload_n rfl rfl ?_
    refine x_iastore rfl (by decide) (xu_ne (by decide) h56) ⟨by omega, by omega⟩ (by omega) ?_
    refine x_aload_n rfl rfl ?_
    refine x_dup rfl ?_
    refine x_getfield rfl (by decide) (xu_ne (by decide) (xu_ne (by decide) h53)) rfl ?_
    refine x_iconst rfl ?_
    refine x_iadd rfl ?_
    refine x_putfield rfl (by decide) (xu_ne (by decide) (xu_ne (by decide) h53)) (show (5 : Nat) < 6 from by decide) rfl ?_
    refine x_return rfl ⟨_, _, rfl, rfl, ?_⟩
    refine ⟨rfl, pt + 1, by omega, xu_eq, ⟨_, _, xu_ne (by decide) (xu_ne (by decide) xu_eq), xu_ne (by decide) xu_eq, by rw [List.length_set]; exact hl1, by rw [List.length_set]; exact hl2, fun j => ?_, fun j => ?_⟩, fun p a1 a2 a3 => xu_ne a1 (xu_ne a3 (xu_ne a2 rfl))⟩
    · rw [x_gset]; split
      · exact hs
      · exact h1 j
    · rw [x_gset]; split
      · exact ha
      · exact h2 j
